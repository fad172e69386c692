def ww_X2_forget (cs : Nat → ClassId) (ad : Nat → Nat) (raHy : Nat → Nat) (raHR : Nat) (raHS : Nat → Nat → Nat) (Hy : kD) (HS : Nat → kD) : va_W := (wX2 cs ad raHy raHR Hy ++ ([(raHR, .inl (cs 5, 8, .inr (.inr (.inr (.inr (fun j => some (raHS j 0)))))))] ++ (wX9x8 cs ad raHS HS)))
abbrev rm_X2_forget : Room := { frames := 0, cells := 0, slots := 0, locals := 0 }
set_option maxHeartbeats 4000000 in
set_option maxRecDepth 100000 in
theorem c_X2_forget (l : Launch) (dC : Nat → ClassId) (dI : Nat → Nat → Nat) (cs : Nat → ClassId) (ad : Nat → Nat) (raHy : Nat → Nat) (raHR : Nat) (raHS : Nat → Nat → Nat) (sz : Nat) (Hy : kD) (HS : Nat → kD) (r : kD) (hf : f_X2_forget Hy HS = some r) : Met l yX2_forget wsX2_forget rm_X2_forget (va_Pc [.ref (raHy 0)] (cPw dC dI cs sz (ww_X2_forget cs ad raHy raHR raHS Hy HS))) (cQv dC dI cs (va_A (ww_X2_forget cs ad raHy raHR raHS zD (fun _ => zD)) sz) (ww_X2_forget cs ad raHy raHR raHS r HS)) 0 0 (va_A (ww_X2_forget cs ad raHy raHR raHS zD (fun _ => zD)) sz) := by
  refine Met.ofW (cc := cX2_forget) (maxL := 1) (ret := none) (by decide) rfl ?_
  intro p e s m args below meth c s₁ B hml hv
  obtain ⟨hav, hsz, hP, hK, hD0, hN⟩ := hv
  have hx := B.exec
  have hb := B.bytes
  have hr := B.returns
  have hts := atoms_spec (ws := wsX2_forget) B.pre
  have hown : s.vm.findClass RX2 = some m.cls := findClass_of_methodNamed B.named
  have hlocks := B.notSynchronized
  subst hsz
  have hA : ∀ q, s.heap.size ≤ q → va_A (ww_X2_forget cs ad raHy raHR raHS zD (fun _ => zD)) s.heap.size q := fun q h => Or.inr h
  have hD : va_D (va_A (ww_X2_forget cs ad raHy raHR raHS zD (fun _ => zD)) s.heap.size) (ww_X2_forget cs ad raHy raHR raHS Hy HS) := hD0.weaken (fun k q h _ => cA_in (ws := (ww_X2_forget cs ad raHy raHR raHS Hy HS)) (ws' := (ww_X2_forget cs ad raHy raHR raHS zD (fun _ => zD))) rfl h)
  have hS : va_S (va_A (ww_X2_forget cs ad raHy raHR raHS zD (fun _ => zD)) s.heap.size) s.heap s.heap [] := va_S.rf
  have hinX2 := (show ∀ w ∈ wsX20, w ∈ wsX2_forget from fun w h => List.mem_cons_of_mem _ (List.mem_append_right _ h))
  have k_fieldLink_RX2_16__KeyLetters_History___size___I_ := hts (.fieldLink RX2 16 "KeyLetters$History" "size" "I") (List.mem_of_getElem? (i := 1) rfl)
  have hl := lv_entry ([.ref (raHy 0)]) (n := 1) (Nat.le_of_ble_eq_true rfl)
  rw [show entryFrame m args 1 = entryFrame m ([.ref (raHy 0)] : List Value).toArray 1 from by rw [hav], lg_entry_eq]
  generalize (lg_sl ([.ref (raHy 0)]) ++ List.replicate (1 - (lg_sl ([.ref (raHy 0)])).length) Slot.unset).toArray = ls at hl ⊢
  have hl : lv_has ls 1 [(0, .ref (raHy 0))] := hl
  unfold f_X2_forget at hf
  refine lv_aload_n hx hb dX2_forget_0 rfl (lv_at hl 0 rfl) ?_
  refine lv_iconst (v := 0) hx hb dX2_forget_1 (by decide) ?_
  obtain ⟨Hyv1, eHyv1, hf⟩ := bd1_e hf
  refine g_put (D := (dC, dI)) (ci := 3) (C := RX2) (T := TX2) (N := 3) hx hb hts hinX2 tyX2 tyX2_ok nmX2 hown hK hP hD hS 0 rfl rfl 0 (by decide) k_fieldLink_RX2_16__KeyLetters_History___size___I_ (fun _ h9 => h9) rfl (ty := .int) (v := .int (0 : Int32)) (by decide +kernel) rfl rfl (Nat.le_of_ble_eq_true rfl) (ws' := (ww_X2_forget cs ad raHy raHR raHS Hyv1 HS)) (by rw [eHyv1]; rfl) dX2_forget_2 (fun H locs hP hD hS => ?_)
  have hf := Option.some.inj hf
  subst hf
  exact c_vret hx hb hr hlocks hP hK hD hS dX2_forget_5

def ww_X9_copyFrom (cs : Nat → ClassId) (ad : Nat → Nat) (raS : Nat → Nat) (raS2 : Nat → Nat) (S : kD) (S2 : kD) : va_W := (wX9 cs ad raS S ++ (wX9 cs ad raS2 S2))
abbrev rm_X9_copyFrom : Room := { frames := 1, cells := 0, slots := 0, locals := 40 }
set_option maxHeartbeats 4000000 in
set_option maxRecDepth 100000 in
theorem c_X9_copyFrom (l : Launch) (dC : Nat → ClassId) (dI : Nat → Nat → Nat) (cs : Nat → ClassId) (ad : Nat → Nat) (raS : Nat → Nat) (raS2 : Nat → Nat) (sz : Nat) (S : kD) (S2 : kD) (r : kD) (hf : f_X9_copyFrom S S2 = some r) : Met l yX9_copyFrom wsX9_copyFrom rm_X9_copyFrom (va_Pc [.ref (raS 0), .ref (raS2 0)] (cPw dC dI cs sz (ww_X9_copyFrom cs ad raS raS2 S S2))) (cQv dC dI cs (va_A (ww_X9_copyFrom cs ad raS raS2 zD zD) sz) (ww_X9_copyFrom cs ad raS raS2 r S2)) 0 0 (va_A (ww_X9_copyFrom cs ad raS raS2 zD zD) sz) := by
  refine Met.ofW (cc := cX9_copyFrom) (maxL := 2) (ret := none) (by decide) rfl ?_
  intro p e s m args below meth c s₁ B hml hv
  obtain ⟨hav, hsz, hP, hK, hD0, hN⟩ := hv
  have hx := B.exec
  have hb := B.bytes
  have hr := B.returns
  have hts := atoms_spec (ws := wsX9_copyFrom) B.pre
  have hown : s.vm.findClass RX9 = some m.cls := findClass_of_methodNamed B.named
  have hlocks := B.notSynchronized
  subst hsz
  have hA : ∀ q, s.heap.size ≤ q → va_A (ww_X9_copyFrom cs ad raS raS2 zD zD) s.heap.size q := fun q h => Or.inr h
  have hD : va_D (va_A (ww_X9_copyFrom cs ad raS raS2 zD zD) s.heap.size) (ww_X9_copyFrom cs ad raS raS2 S S2) := hD0.weaken (fun k q h _ => cA_in (ws := (ww_X9_copyFrom cs ad raS raS2 S S2)) (ws' := (ww_X9_copyFrom cs ad raS raS2 zD zD)) rfl h)
  have hS : va_S (va_A (ww_X9_copyFrom cs ad raS raS2 zD zD) s.heap.size) s.heap s.heap [] := va_S.rf
  have hinX9 := (show ∀ w ∈ wsX90, w ∈ wsX9_copyFrom from fun w h => List.mem_cons_of_mem _ (List.mem_append_right _ h))
  have k_fieldLink_RX9_15__KeyLetters_State___wrote____I_ := hts (.fieldLink RX9 15 "KeyLetters$State" "wrote" "[I") (List.mem_of_getElem? (i := 11) rfl)
  have k_fieldLink_RX9_18__KeyLetters_State___letters____I_ := hts (.fieldLink RX9 18 "KeyLetters$State" "letters" "[I") (List.mem_of_getElem? (i := 12) rfl)
  have k_fieldLink_RX9_21__KeyLetters_State___debts____I_ := hts (.fieldLink RX9 21 "KeyLetters$State" "debts" "[I") (List.mem_of_getElem? (i := 13) rfl)
  have k_fieldLink_RX9_24__KeyLetters_State___latest___I_ := hts (.fieldLink RX9 24 "KeyLetters$State" "latest" "I") (List.mem_of_getElem? (i := 2) rfl)
  have k_fieldLink_RX9_28__KeyLetters_State___writer___I_ := hts (.fieldLink RX9 28 "KeyLetters$State" "writer" "I") (List.mem_of_getElem? (i := 3) rfl)
  have k_fieldLink_RX9_31__KeyLetters_State___day___I_ := hts (.fieldLink RX9 31 "KeyLetters$State" "day" "I") (List.mem_of_getElem? (i := 1) rfl)
  have k_fieldLink_RX9_34__KeyLetters_State___held___I_ := hts (.fieldLink RX9 34 "KeyLetters$State" "held" "I") (List.mem_of_getElem? (i := 4) rfl)
  have k_fieldLink_RX9_37__KeyLetters_State___lettersOver___I_ := hts (.fieldLink RX9 37 "KeyLetters$State" "lettersOver" "I") (List.mem_of_getElem? (i := 5) rfl)
  have k_fieldLink_RX9_9__KeyLetters_State___ink____I_ := hts (.fieldLink RX9 9 "KeyLetters$State" "ink" "[I") (List.mem_of_getElem? (i := 6) rfl)
  have k_initialized__java_lang_System_ := hts (.initialized "java/lang/System") (List.mem_of_getElem? (i := 10) rfl)
  have k_methodLink_RX9_43_arraycopyName := hts (.methodLink RX9 43 arraycopyName) (List.mem_of_getElem? (i := 7) rfl)
  have k_native_arraycopyName := hts (.native arraycopyName) (List.mem_of_getElem? (i := 8) rfl)
  have k_static_arraycopyName := hts (.static arraycopyName) (List.mem_of_getElem? (i := 9) rfl)
  have hl := lv_entry ([.ref (raS 0), .ref (raS2 0)]) (n := 2) (Nat.le_of_ble_eq_true rfl)
  rw [show entryFrame m args 2 = entryFrame m ([.ref (raS 0), .ref (raS2 0)] : List Value).toArray 2 from by rw [hav], lg_entry_eq]
  generalize (lg_sl ([.ref (raS 0), .ref (raS2 0)]) ++ List.replicate (2 - (lg_sl ([.ref (raS 0), .ref (raS2 0)])).length) Slot.unset).toArray = ls at hl ⊢
  have hl : lv_has ls 2 [(0, .ref (raS 0)), (1, .ref (raS2 0))] := hl
  unfold f_X9_copyFrom at hf
  refine lv_aload_n hx hb dX9_copyFrom_0 rfl (lv_at hl 0 rfl) ?_
  refine lv_aload_n hx hb dX9_copyFrom_1 rfl (lv_at hl 1 rfl) ?_
  refine va_get (D := (dC, dI)) (ci := 10) (C := RX9) (T := TX9) (N := 9) hx hb hts hinX9 hown hK hP 5 rfl rfl 0 (by decide) (v := .int (S2.1 0 0)) k_fieldLink_RX9_31__KeyLetters_State___day___I_ (fun _ h9 => h9) rfl dX9_copyFrom_2 ?_
  obtain ⟨Sv1, eSv1, hf⟩ := bd1_e hf
  refine g_put (D := (dC, dI)) (ci := 10) (C := RX9) (T := TX9) (N := 9) hx hb hts hinX9 tyX9 tyX9_ok nmX9 hown hK hP hD hS 0 rfl rfl 0 (by decide) k_fieldLink_RX9_31__KeyLetters_State___day___I_ (fun _ h9 => h9) rfl (ty := .int) (v := .int (S2.1 0 0)) (by decide +kernel) rfl rfl (Nat.le_of_ble_eq_true rfl) (ws' := (ww_X9_copyFrom cs ad raS raS2 Sv1 S2)) (by rw [eSv1]; rfl) dX9_copyFrom_5 (fun H locs hP hD hS => ?_)
  refine lv_aload_n hx hb dX9_copyFrom_8 rfl (lv_at hl 0 rfl) ?_
  refine lv_aload_n hx hb dX9_copyFrom_9 rfl (lv_at hl 1 rfl) ?_
  refine va_get (D := (dC, dI)) (ci := 10) (C := RX9) (T := TX9) (N := 9) hx hb hts hinX9 hown hK hP 5 rfl rfl 1 (by decide) (v := .int (S2.1 0 1)) k_fieldLink_RX9_24__KeyLetters_State___latest___I_ (fun _ h9 => h9) rfl dX9_copyFrom_10 ?_
  obtain ⟨Sv2, eSv2, hf⟩ := bd1_e hf
  refine g_put (D := (dC, dI)) (ci := 10) (C := RX9) (T := TX9) (N := 9) hx hb hts hinX9 tyX9 tyX9_ok nmX9 hown hK hP hD hS 0 rfl rfl 1 (by decide) k_fieldLink_RX9_24__KeyLetters_State___latest___I_ (fun _ h9 => h9) rfl (ty := .int) (v := .int (S2.1 0 1)) (by decide +kernel) rfl rfl (Nat.le_of_ble_eq_true rfl) (ws' := (ww_X9_copyFrom cs ad raS raS2 Sv2 S2)) (by rw [eSv2]; rfl) dX9_copyFrom_13 (fun H locs hP hD hS => ?_)
  refine lv_aload_n hx hb dX9_copyFrom_16 rfl (lv_at hl 0 rfl) ?_
  refine lv_aload_n hx hb dX9_copyFrom_17 rfl (lv_at hl 1 rfl) ?_
  refine va_get (D := (dC, dI)) (ci := 10) (C := RX9) (T := TX9) (N := 9) hx hb hts hinX9 hown hK hP 5 rfl rfl 2 (by decide) (v := .int (S2.1 0 2)) k_fieldLink_RX9_28__KeyLetters_State___writer___I_ (fun _ h9 => h9) rfl dX9_copyFrom_18 ?_
  obtain ⟨Sv3, eSv3, hf⟩ := bd1_e hf
  refine g_put (D := (dC, dI)) (ci := 10) (C := RX9) (T := TX9) (N := 9) hx hb hts hinX9 tyX9 tyX9_ok nmX9 hown hK hP hD hS 0 rfl rfl 2 (by decide) k_fieldLink_RX9_28__KeyLetters_State___writer___I_ (fun _ h9 => h9) rfl (ty := .int) (v := .int (S2.1 0 2)) (by decide +kernel) rfl rfl (Nat.le_of_ble_eq_true rfl) (ws' := (ww_X9_copyFrom cs ad raS raS2 Sv3 S2)) (by rw [eSv3]; rfl) dX9_copyFrom_21 (fun H locs hP hD hS => ?_)
  refine lv_aload_n hx hb dX9_copyFrom_24 rfl (lv_at hl 0 rfl) ?_
  refine lv_aload_n hx hb dX9_copyFrom_25 rfl (lv_at hl 1 rfl) ?_
  refine va_get (D := (dC, dI)) (ci := 10) (C := RX9) (T := TX9) (N := 9) hx hb hts hinX9 hown hK hP 5 rfl rfl 3 (by decide) (v := .int (S2.1 0 3)) k_fieldLink_RX9_34__KeyLetters_State___held___I_ (fun _ h9 => h9) rfl dX9_copyFrom_26 ?_
  obtain ⟨Sv4, eSv4, hf⟩ := bd1_e hf
  refine g_put (D := (dC, dI)) (ci := 10) (C := RX9) (T := TX9) (N := 9) hx hb hts hinX9 tyX9 tyX9_ok nmX9 hown hK hP hD hS 0 rfl rfl 3 (by decide) k_fieldLink_RX9_34__KeyLetters_State___held___I_ (fun _ h9 => h9) rfl (ty := .int) (v := .int (S2.1 0 3)) (by decide +kernel) rfl rfl (Nat.le_of_ble_eq_true rfl) (ws' := (ww_X9_copyFrom cs ad raS raS2 Sv4 S2)) (by rw [eSv4]; rfl) dX9_copyFrom_29 (fun H locs hP hD hS => ?_)
  refine lv_aload_n hx hb dX9_copyFrom_32 rfl (lv_at hl 0 rfl) ?_
  refine lv_aload_n hx hb dX9_copyFrom_33 rfl (lv_at hl 1 rfl) ?_
  refine va_get (D := (dC, dI)) (ci := 10) (C := RX9) (T := TX9) (N := 9) hx hb hts hinX9 hown hK hP 5 rfl rfl 4 (by decide) (v := .int (S2.1 0 4)) k_fieldLink_RX9_37__KeyLetters_State___lettersOver___I_ (fun _ h9 => h9) rfl dX9_copyFrom_34 ?_
  obtain ⟨Sv5, eSv5, hf⟩ := bd1_e hf
  refine g_put (D := (dC, dI)) (ci := 10) (C := RX9) (T := TX9) (N := 9) hx hb hts hinX9 tyX9 tyX9_ok nmX9 hown hK hP hD hS 0 rfl rfl 4 (by decide) k_fieldLink_RX9_37__KeyLetters_State___lettersOver___I_ (fun _ h9 => h9) rfl (ty := .int) (v := .int (S2.1 0 4)) (by decide +kernel) rfl rfl (Nat.le_of_ble_eq_true rfl) (ws' := (ww_X9_copyFrom cs ad raS raS2 Sv5 S2)) (by rw [eSv5]; rfl) dX9_copyFrom_37 (fun H locs hP hD hS => ?_)
  refine lv_aload_n hx hb dX9_copyFrom_40 rfl (lv_at hl 1 rfl) ?_
  refine va_get (D := (dC, dI)) (ci := 10) (C := RX9) (T := TX9) (N := 9) hx hb hts hinX9 hown hK hP 5 rfl rfl 5 (by decide) (v := .ref (raS2 5)) k_fieldLink_RX9_9__KeyLetters_State___ink____I_ (fun _ h9 => h9) rfl dX9_copyFrom_41 ?_
  refine lv_iconst (v := 0) hx hb dX9_copyFrom_44 (by decide) ?_
  refine lv_aload_n hx hb dX9_copyFrom_45 rfl (lv_at hl 0 rfl) ?_
  refine va_get (D := (dC, dI)) (ci := 10) (C := RX9) (T := TX9) (N := 9) hx hb hts hinX9 hown hK hP 0 rfl rfl 5 (by decide) (v := .ref (raS 5)) k_fieldLink_RX9_9__KeyLetters_State___ink____I_ (fun _ h9 => h9) rfl dX9_copyFrom_46 ?_
  refine lv_iconst (v := 0) hx hb dX9_copyFrom_49 (by decide) ?_
  refine lv_bipush (v := 6) hx hb dX9_copyFrom_50 (by decide) ?_
  obtain ⟨Sv6, eSv6, hf⟩ := bd1_e hf
  refine va_copyi hx hb (hml.trans hl.1.symm) hown k_methodLink_RX9_43_arraycopyName k_native_arraycopyName k_static_arraycopyName k_initialized__java_lang_System_ hK hP hD hS 6 1 1 1 rfl rfl rfl rfl rfl (by decide) (by decide) (by decide) (by decide) (by decide) (fun i hi => rfl) (Nat.le_of_ble_eq_true rfl) (Nat.le_of_ble_eq_true rfl) dX9_copyFrom_52 (fun H locs hP hD hS => ?_)
  have hP : va_P (dC, dI) vwCl (ww_X9_copyFrom cs ad raS raS2 Sv6 S2) H := g_toP (by rw [eSv6]; rfl) hP
  have hD : va_D (va_A (ww_X9_copyFrom cs ad raS raS2 zD zD) s.heap.size) (ww_X9_copyFrom cs ad raS raS2 Sv6 S2) := g_toD (by rw [eSv6]; rfl) hD
  refine lv_aload_n hx hb dX9_copyFrom_55 rfl (lv_at hl 1 rfl) ?_
  refine va_get (D := (dC, dI)) (ci := 10) (C := RX9) (T := TX9) (N := 9) hx hb hts hinX9 hown hK hP 5 rfl rfl 6 (by decide) (v := .ref (raS2 6)) k_fieldLink_RX9_15__KeyLetters_State___wrote____I_ (fun _ h9 => h9) rfl dX9_copyFrom_56 ?_
  refine lv_iconst (v := 0) hx hb dX9_copyFrom_59 (by decide) ?_
  refine lv_aload_n hx hb dX9_copyFrom_60 rfl (lv_at hl 0 rfl) ?_
  refine va_get (D := (dC, dI)) (ci := 10) (C := RX9) (T := TX9) (N := 9) hx hb hts hinX9 hown hK hP 0 rfl rfl 6 (by decide) (v := .ref (raS 6)) k_fieldLink_RX9_15__KeyLetters_State___wrote____I_ (fun _ h9 => h9) rfl dX9_copyFrom_61 ?_
  refine lv_iconst (v := 0) hx hb dX9_copyFrom_64 (by decide) ?_
  refine lv_bipush (v := 6) hx hb dX9_copyFrom_65 (by decide) ?_
  obtain ⟨Sv7, eSv7, hf⟩ := bd1_e hf
  refine va_copyi hx hb (hml.trans hl.1.symm) hown k_methodLink_RX9_43_arraycopyName k_native_arraycopyName k_static_arraycopyName k_initialized__java_lang_System_ hK hP hD hS 7 2 1 1 rfl rfl rfl rfl rfl (by decide) (by decide) (by decide) (by decide) (by decide) (fun i hi => rfl) (Nat.le_of_ble_eq_true rfl) (Nat.le_of_ble_eq_true rfl) dX9_copyFrom_67 (fun H locs hP hD hS => ?_)
  have hP : va_P (dC, dI) vwCl (ww_X9_copyFrom cs ad raS raS2 Sv7 S2) H := g_toP (by rw [eSv7]; rfl) hP
  have hD : va_D (va_A (ww_X9_copyFrom cs ad raS raS2 zD zD) s.heap.size) (ww_X9_copyFrom cs ad raS raS2 Sv7 S2) := g_toD (by rw [eSv7]; rfl) hD
  refine lv_aload_n hx hb dX9_copyFrom_70 rfl (lv_at hl 1 rfl) ?_
  refine va_get (D := (dC, dI)) (ci := 10) (C := RX9) (T := TX9) (N := 9) hx hb hts hinX9 hown hK hP 5 rfl rfl 7 (by decide) (v := .ref (raS2 7)) k_fieldLink_RX9_18__KeyLetters_State___letters____I_ (fun _ h9 => h9) rfl dX9_copyFrom_71 ?_
  refine lv_iconst (v := 0) hx hb dX9_copyFrom_74 (by decide) ?_
  refine lv_aload_n hx hb dX9_copyFrom_75 rfl (lv_at hl 0 rfl) ?_
  refine va_get (D := (dC, dI)) (ci := 10) (C := RX9) (T := TX9) (N := 9) hx hb hts hinX9 hown hK hP 0 rfl rfl 7 (by decide) (v := .ref (raS 7)) k_fieldLink_RX9_18__KeyLetters_State___letters____I_ (fun _ h9 => h9) rfl dX9_copyFrom_76 ?_
  refine lv_iconst (v := 0) hx hb dX9_copyFrom_79 (by decide) ?_
  refine lv_bipush (v := 6) hx hb dX9_copyFrom_80 (by decide) ?_
  obtain ⟨Sv8, eSv8, hf⟩ := bd1_e hf
  refine va_copyi hx hb (hml.trans hl.1.symm) hown k_methodLink_RX9_43_arraycopyName k_native_arraycopyName k_static_arraycopyName k_initialized__java_lang_System_ hK hP hD hS 8 3 1 1 rfl rfl rfl rfl rfl (by decide) (by decide) (by decide) (by decide) (by decide) (fun i hi => rfl) (Nat.le_of_ble_eq_true rfl) (Nat.le_of_ble_eq_true rfl) dX9_copyFrom_82 (fun H locs hP hD hS => ?_)
  have hP : va_P (dC, dI) vwCl (ww_X9_copyFrom cs ad raS raS2 Sv8 S2) H := g_toP (by rw [eSv8]; rfl) hP
  have hD : va_D (va_A (ww_X9_copyFrom cs ad raS raS2 zD zD) s.heap.size) (ww_X9_copyFrom cs ad raS raS2 Sv8 S2) := g_toD (by rw [eSv8]; rfl) hD
  refine lv_aload_n hx hb dX9_copyFrom_85 rfl (lv_at hl 1 rfl) ?_
  refine va_get (D := (dC, dI)) (ci := 10) (C := RX9) (T := TX9) (N := 9) hx hb hts hinX9 hown hK hP 5 rfl rfl 8 (by decide) (v := .ref (raS2 8)) k_fieldLink_RX9_21__KeyLetters_State___debts____I_ (fun _ h9 => h9) rfl dX9_copyFrom_86 ?_
  refine lv_iconst (v := 0) hx hb dX9_copyFrom_89 (by decide) ?_
  refine lv_aload_n hx hb dX9_copyFrom_90 rfl (lv_at hl 0 rfl) ?_
  refine va_get (D := (dC, dI)) (ci := 10) (C := RX9) (T := TX9) (N := 9) hx hb hts hinX9 hown hK hP 0 rfl rfl 8 (by decide) (v := .ref (raS 8)) k_fieldLink_RX9_21__KeyLetters_State___debts____I_ (fun _ h9 => h9) rfl dX9_copyFrom_91 ?_
  refine lv_iconst (v := 0) hx hb dX9_copyFrom_94 (by decide) ?_
  refine lv_aload_n hx hb dX9_copyFrom_95 rfl (lv_at hl 0 rfl) ?_
  refine va_get (D := (dC, dI)) (ci := 10) (C := RX9) (T := TX9) (N := 9) hx hb hts hinX9 hown hK hP 0 rfl rfl 8 (by decide) (v := .ref (raS 8)) k_fieldLink_RX9_21__KeyLetters_State___debts____I_ (fun _ h9 => h9) rfl dX9_copyFrom_96 ?_
  refine va_alen hx hb hK hP 4 1 rfl rfl (v := (36 : Int32)) rfl dX9_copyFrom_99 ?_
  obtain ⟨Sv9, eSv9, hf⟩ := bd1_e hf
  refine va_copyi hx hb (hml.trans hl.1.symm) hown k_methodLink_RX9_43_arraycopyName k_native_arraycopyName k_static_arraycopyName k_initialized__java_lang_System_ hK hP hD hS 9 4 1 1 rfl rfl rfl rfl rfl (by decide) (by decide) (by decide) (by decide) (by decide) (fun i hi => rfl) (Nat.le_of_ble_eq_true rfl) (Nat.le_of_ble_eq_true rfl) dX9_copyFrom_100 (fun H locs hP hD hS => ?_)
  have hP : va_P (dC, dI) vwCl (ww_X9_copyFrom cs ad raS raS2 Sv9 S2) H := g_toP (by rw [eSv9]; rfl) hP
  have hD : va_D (va_A (ww_X9_copyFrom cs ad raS raS2 zD zD) s.heap.size) (ww_X9_copyFrom cs ad raS raS2 Sv9 S2) := g_toD (by rw [eSv9]; rfl) hD
  have hf := Option.some.inj hf
  subst hf
  exact c_vret hx hb hr hlocks hP hK hD hS dX9_copyFrom_103

def ww_X2_keep (cs : Nat → ClassId) (ad : Nat → Nat) (raHy : Nat → Nat) (raHR : Nat) (raHS : Nat → Nat → Nat) (raS : Nat → Nat) (Hy : kD) (HS : Nat → kD) (S : kD) : va_W := (wX2 cs ad raHy raHR Hy ++ ([(raHR, .inl (cs 5, 8, .inr (.inr (.inr (.inr (fun j => some (raHS j 0)))))))] ++ (wX9x8 cs ad raHS HS ++ (wX9 cs ad raS S))))
abbrev rm_X2_keep : Room := { frames := 2, cells := 0, slots := 0, locals := 61 }
set_option maxHeartbeats 4000000 in
set_option maxRecDepth 100000 in
theorem c_X2_keep (l : Launch) (dC : Nat → ClassId) (dI : Nat → Nat → Nat) (cs : Nat → ClassId) (ad : Nat → Nat) (raHy : Nat → Nat) (raHR : Nat) (raHS : Nat → Nat → Nat) (raS : Nat → Nat) (sz : Nat) (Hy : kD) (HS : Nat → kD) (S : kD) (r : kD × (Nat → kD)) (hf : f_X2_keep Hy HS S = some r) : Met l yX2_keep wsX2_keep rm_X2_keep (va_Pc [.ref (raHy 0), .ref (raS 0)] (cPw dC dI cs sz (ww_X2_keep cs ad raHy raHR raHS raS Hy HS S))) (cQv dC dI cs (va_A (ww_X2_keep cs ad raHy raHR raHS raS zD (fun _ => zD) zD) sz) (ww_X2_keep cs ad raHy raHR raHS raS r.1 r.2 S)) 0 0 (va_A (ww_X2_keep cs ad raHy raHR raHS raS zD (fun _ => zD) zD) sz) := by
  refine Met.ofW (cc := cX2_keep) (maxL := 2) (ret := none) (by decide) rfl ?_
  intro p e s m args below meth c s₁ B hml hv
  obtain ⟨hav, hsz, hP, hK, hD0, hN⟩ := hv
  have hx := B.exec
  have hb := B.bytes
  have hr := B.returns
  have hts := atoms_spec (ws := wsX2_keep) B.pre
  have hown : s.vm.findClass RX2 = some m.cls := findClass_of_methodNamed B.named
  have hlocks := B.notSynchronized
  subst hsz
  have hA : ∀ q, s.heap.size ≤ q → va_A (ww_X2_keep cs ad raHy raHR raHS raS zD (fun _ => zD) zD) s.heap.size q := fun q h => Or.inr h
  have hD : va_D (va_A (ww_X2_keep cs ad raHy raHR raHS raS zD (fun _ => zD) zD) s.heap.size) (ww_X2_keep cs ad raHy raHR raHS raS Hy HS S) := hD0.weaken (fun k q h _ => cA_in (ws := (ww_X2_keep cs ad raHy raHR raHS raS Hy HS S)) (ws' := (ww_X2_keep cs ad raHy raHR raHS raS zD (fun _ => zD) zD)) rfl h)
  have hS : va_S (va_A (ww_X2_keep cs ad raHy raHR raHS raS zD (fun _ => zD) zD) s.heap.size) s.heap s.heap [] := va_S.rf
  have hinX2 := (show ∀ w ∈ wsX20, w ∈ wsX2_keep from fun w h => List.mem_cons_of_mem _ (List.mem_append_left _ (List.mem_append_right _ h)))
  have k_fieldLink_RX2_16__KeyLetters_History___size___I_ := hts (.fieldLink RX2 16 "KeyLetters$History" "size" "I") (List.mem_of_getElem? (i := 1) rfl)
  have k_fieldLink_RX2_20__KeyLetters_History___oldest___I_ := hts (.fieldLink RX2 20 "KeyLetters$History" "oldest" "I") (List.mem_of_getElem? (i := 2) rfl)
  have k_initialized_RX9 := hts (.initialized RX9) (List.mem_of_getElem? (i := 5) rfl)
  have k_instanceMethod_yX9_copyFrom := hts (.instanceMethod yX9_copyFrom) (List.mem_of_getElem? (i := 4) rfl)
  have k_selects_RX9_yX9_copyFrom_yX9_copyFrom := hts (.selects RX9 yX9_copyFrom yX9_copyFrom) (List.mem_of_getElem? (i := 6) rfl)
  have kk_RX2_11__KeyLetters_History___states____LKeyLetters_State__ := hts (.fieldLink RX2 11 "KeyLetters$History" "states" "[LKeyLetters$State;") (List.mem_of_getElem? (i := 3) rfl)
  have hl := lv_entry ([.ref (raHy 0), .ref (raS 0)]) (n := 2) (Nat.le_of_ble_eq_true rfl)
  rw [show entryFrame m args 2 = entryFrame m ([.ref (raHy 0), .ref (raS 0)] : List Value).toArray 2 from by rw [hav], lg_entry_eq]
  generalize (lg_sl ([.ref (raHy 0), .ref (raS 0)]) ++ List.replicate (2 - (lg_sl ([.ref (raHy 0), .ref (raS 0)])).length) Slot.unset).toArray = ls at hl ⊢
  have hl : lv_has ls 2 [(0, .ref (raHy 0)), (1, .ref (raS 0))] := hl
  unfold f_X2_keep at hf
  have h_32 : ∀ (Hy_32 : kD) (HS_32 : Nat → kD) (ls : Array Slot) (H : Heap) (locs : List Loc), lv_has ls 2 [(0, .ref (raHy 0)), (1, .ref (raS 0))] → va_P (dC, dI) vwCl (ww_X2_keep cs ad raHy raHR raHS raS Hy_32 HS_32 S) H → va_D (va_A (ww_X2_keep cs ad raHy raHR raHS raS zD (fun _ => zD) zD) s.heap.size) (ww_X2_keep cs ad raHy raHR raHS raS Hy_32 HS_32 S) → va_S (va_A (ww_X2_keep cs ad raHy raHR raHS raS zD (fun _ => zD) zD) s.heap.size) s.heap H locs → g_X2_keep_32 S Hy_32 HS_32 = some r → W p l e (headSpec wsX2_keep rm_X2_keep).room s m args below meth c H locs 0 0 (MQ below (cQv dC dI cs (va_A (ww_X2_keep cs ad raHy raHR raHS raS zD (fun _ => zD) zD) s.heap.size) (ww_X2_keep cs ad raHy raHR raHS raS r.1 r.2 S)) args s 0 0 (va_A (ww_X2_keep cs ad raHy raHR raHS raS zD (fun _ => zD) zD) s.heap.size)) (F0 m 32 ls []) := by
    intro Hy_32 HS_32 ls H locs hl hP hD hS hf
    unfold g_X2_keep_32 at hf
    refine lv_aload_n hx hb dX2_keep_32 rfl (lv_at hl 0 rfl) ?_
    refine va_get (D := (dC, dI)) (ci := 3) (C := RX2) (T := TX2) (N := 3) hx hb hts hinX2 hown hK hP 0 rfl rfl 2 (by decide) (v := .ref raHR) kk_RX2_11__KeyLetters_History___states____LKeyLetters_State__ (fun _ h9 => h9) rfl dX2_keep_33 ?_
    refine lv_aload_n hx hb dX2_keep_36 rfl (lv_at hl 0 rfl) ?_
    refine va_get (D := (dC, dI)) (ci := 3) (C := RX2) (T := TX2) (N := 3) hx hb hts hinX2 hown hK hP 0 rfl rfl 1 (by decide) (v := .int (Hy_32.1 0 1)) k_fieldLink_RX2_20__KeyLetters_History___oldest___I_ (fun _ h9 => h9) rfl dX2_keep_37 ?_
    refine lv_aload_n hx hb dX2_keep_40 rfl (lv_at hl 0 rfl) ?_
    refine va_get (D := (dC, dI)) (ci := 3) (C := RX2) (T := TX2) (N := 3) hx hb hts hinX2 hown hK hP 0 rfl rfl 0 (by decide) (v := .int (Hy_32.1 0 0)) k_fieldLink_RX2_16__KeyLetters_History___size___I_ (fun _ h9 => h9) rfl dX2_keep_41 ?_
    refine lv_iadd hx hb dX2_keep_44 ?_
    refine lv_bipush (v := 8) hx hb dX2_keep_45 (by decide) ?_
    refine lv_irem hx hb dX2_keep_47 (by decide) ?_
    obtain ⟨v1, ev1, hf⟩ := bd1_e hf
    refine kt_i ev1 ?_
    by_cases hs6 : v1 = 0
    · have hf := (if_pos hs6).symm.trans hf
      rw [hs6]
      refine va_aldq (f := fun j => some (raHS j 0)) hx hb hK hP 1 5 rfl rfl (show ¬ ((0 : Int32) < 0 ∨ 8 ≤ (0 : Int32).toNatClampNeg) by decide +kernel) dX2_keep_48 ?_
      refine kt_v (show va_rf (some (raHS (0 : Int32).toNatClampNeg 0)) = Value.ref (raHS 0 0) from rfl) ?_
      refine lv_aload_n hx hb dX2_keep_49 rfl (lv_at hl 1 rfl) ?_
      obtain ⟨HSv3, hq2, hf⟩ := bo_e hf
      refine g_callv (isC := [2, 3, 4, 5, 6, 42, 43, 44, 45, 46]) (isR := [0, 1, 7, 8, 9, 10, 11, 12, 13, 14, 15, 16, 17, 18, 19, 20, 21, 22, 23, 24, 25, 26, 27, 28, 29, 30, 31, 32, 33, 34, 35, 36, 37, 38, 39, 40, 41]) (wc := (ww_X9_copyFrom cs ad (raHS 0) raS (HS_32 0) S)) (wz := (ww_X9_copyFrom cs ad (raHS 0) raS zD zD)) (w1 := (ww_X9_copyFrom cs ad (raHS 0) raS HSv3 S)) (ws' := (ww_X2_keep cs ad raHy raHR raHS raS Hy_32 (upF HS_32 0 HSv3) S)) (va_runVN (As := [.ref (raS 0)]) (rest := []) ⟨hx, hb, hml, hown, hts⟩ (c_X9_copyFrom l dC dI cs ad (raHS 0) raS _ (HS_32 0) S HSv3 hq2) ⟨va_cnB 1 hts gX2_keep_X9_copyFrom_n23 rfl rfl rfl (hN _ (List.mem_of_getElem? (i := 102) rfl)) k_initialized_RX9 (by decide +kernel) ⟨Nat.le_of_ble_eq_true rfl, Nat.le_of_ble_eq_true rfl⟩, k_instanceMethod_yX9_copyFrom, k_selects_RX9_yX9_copyFrom_yX9_copyFrom⟩ ⟨fun a U g mk q => ⟨q.1, (fun _ _ _ _ => cPw_bl) a U g mk q.2⟩, va_recv hK hP (ci := 10) (q0 := 2) rfl rfl, fun U hU hW => ⟨rfl, ⟨by rw [hU], by rw [hU]; exact (hP.sub (ws' := (ww_X9_copyFrom cs ad (raHS 0) raS (HS_32 0) S)) [2, 3, 4, 5, 6, 42, 43, 44, 45, 46] rfl), va_K.moved hW.alike hK, (hD.sub (ws' := (ww_X9_copyFrom cs ad (raHS 0) raS (HS_32 0) S)) [2, 3, 4, 5, 6, 42, 43, 44, 45, 46] (by decide) rfl).weaken (fun _ _ _ _ => trivial), kN_warm hW hN⟩⟩⟩ rfl rfl hl.1 rfl (lv_room (Nat.le_of_ble_eq_true rfl)) dX2_keep_50 ⟨Nat.le_refl _, Nat.le_refl _⟩) hP hD hS hA rfl rfl (wr := ((wX2 cs ad raHy raHR Hy_32) ++ (([(raHR, .inl (cs 5, 8, .inr (.inr (.inr (.inr (fun j => some (raHS j 0)))))))]) ++ ([(raHS 1 0, .inr (10, fX9 ad (raHS 1) (HS_32 1))), (raHS 1 5, .inl (cs 1, 6, .inl ((HS_32 1).1 5))), (raHS 1 6, .inl (cs 1, 6, .inl ((HS_32 1).1 6))), (raHS 1 7, .inl (cs 1, 6, .inl ((HS_32 1).1 7))), (raHS 1 8, .inl (cs 1, 36, .inl ((HS_32 1).1 8))), (raHS 2 0, .inr (10, fX9 ad (raHS 2) (HS_32 2))), (raHS 2 5, .inl (cs 1, 6, .inl ((HS_32 2).1 5))), (raHS 2 6, .inl (cs 1, 6, .inl ((HS_32 2).1 6))), (raHS 2 7, .inl (cs 1, 6, .inl ((HS_32 2).1 7))), (raHS 2 8, .inl (cs 1, 36, .inl ((HS_32 2).1 8))), (raHS 3 0, .inr (10, fX9 ad (raHS 3) (HS_32 3))), (raHS 3 5, .inl (cs 1, 6, .inl ((HS_32 3).1 5))), (raHS 3 6, .inl (cs 1, 6, .inl ((HS_32 3).1 6))), (raHS 3 7, .inl (cs 1, 6, .inl ((HS_32 3).1 7))), (raHS 3 8, .inl (cs 1, 36, .inl ((HS_32 3).1 8))), (raHS 4 0, .inr (10, fX9 ad (raHS 4) (HS_32 4))), (raHS 4 5, .inl (cs 1, 6, .inl ((HS_32 4).1 5))), (raHS 4 6, .inl (cs 1, 6, .inl ((HS_32 4).1 6))), (raHS 4 7, .inl (cs 1, 6, .inl ((HS_32 4).1 7))), (raHS 4 8, .inl (cs 1, 36, .inl ((HS_32 4).1 8))), (raHS 5 0, .inr (10, fX9 ad (raHS 5) (HS_32 5))), (raHS 5 5, .inl (cs 1, 6, .inl ((HS_32 5).1 5))), (raHS 5 6, .inl (cs 1, 6, .inl ((HS_32 5).1 6))), (raHS 5 7, .inl (cs 1, 6, .inl ((HS_32 5).1 7))), (raHS 5 8, .inl (cs 1, 36, .inl ((HS_32 5).1 8))), (raHS 6 0, .inr (10, fX9 ad (raHS 6) (HS_32 6))), (raHS 6 5, .inl (cs 1, 6, .inl ((HS_32 6).1 5))), (raHS 6 6, .inl (cs 1, 6, .inl ((HS_32 6).1 6))), (raHS 6 7, .inl (cs 1, 6, .inl ((HS_32 6).1 7))), (raHS 6 8, .inl (cs 1, 36, .inl ((HS_32 6).1 8))), (raHS 7 0, .inr (10, fX9 ad (raHS 7) (HS_32 7))), (raHS 7 5, .inl (cs 1, 6, .inl ((HS_32 7).1 5))), (raHS 7 6, .inl (cs 1, 6, .inl ((HS_32 7).1 6))), (raHS 7 7, .inl (cs 1, 6, .inl ((HS_32 7).1 7))), (raHS 7 8, .inl (cs 1, 36, .inl ((HS_32 7).1 8)))])))) rfl rfl rfl (nw := 47) rfl (by decide +kernel) rfl (fun H locs hP hD hS => ?_)
      obtain ⟨HSv4, eHSv4, hf⟩ := bd1_e hf
      rw [← eHSv4] at hP hD
      refine lv_aload_n hx hb dX2_keep_53 rfl (lv_at hl 0 rfl) ?_
      refine lv_dup hx hb dX2_keep_54 rfl ?_
      refine va_get (D := (dC, dI)) (ci := 3) (C := RX2) (T := TX2) (N := 3) hx hb hts hinX2 hown hK hP 0 rfl rfl 0 (by decide) (v := .int (Hy_32.1 0 0)) k_fieldLink_RX2_16__KeyLetters_History___size___I_ (fun _ h9 => h9) rfl dX2_keep_55 ?_
      refine lv_iconst (v := 1) hx hb dX2_keep_58 (by decide) ?_
      refine lv_iadd hx hb dX2_keep_59 ?_
      obtain ⟨Hyv5, eHyv5, hf⟩ := bd1_e hf
      refine g_put (D := (dC, dI)) (ci := 3) (C := RX2) (T := TX2) (N := 3) hx hb hts hinX2 tyX2 tyX2_ok nmX2 hown hK hP hD hS 0 rfl rfl 0 (by decide) k_fieldLink_RX2_16__KeyLetters_History___size___I_ (fun _ h9 => h9) rfl (ty := .int) (v := .int ((Hy_32.1 0 0) + (1 : Int32))) (by decide +kernel) rfl rfl (Nat.le_of_ble_eq_true rfl) (ws' := (ww_X2_keep cs ad raHy raHR raHS raS Hyv5 HSv4 S)) (by rw [eHyv5]; rfl) dX2_keep_60 (fun H locs hP hD hS => ?_)
      have hf := Option.some.inj hf
      subst hf
      exact c_vret hx hb hr hlocks hP hK hD hS dX2_keep_63
    have hf := (if_neg hs6).symm.trans hf
    by_cases hs11 : v1 = 1
    · have hf := (if_pos hs11).symm.trans hf
      rw [hs11]
      refine va_aldq (f := fun j => some (raHS j 0)) hx hb hK hP 1 5 rfl rfl (show ¬ ((1 : Int32) < 0 ∨ 8 ≤ (1 : Int32).toNatClampNeg) by decide +kernel) dX2_keep_48 ?_
      refine kt_v (show va_rf (some (raHS (1 : Int32).toNatClampNeg 0)) = Value.ref (raHS 1 0) from rfl) ?_
      refine lv_aload_n hx hb dX2_keep_49 rfl (lv_at hl 1 rfl) ?_
      obtain ⟨HSv8, hq7, hf⟩ := bo_e hf
      refine g_callv (isC := [7, 8, 9, 10, 11, 42, 43, 44, 45, 46]) (isR := [0, 1, 2, 3, 4, 5, 6, 12, 13, 14, 15, 16, 17, 18, 19, 20, 21, 22, 23, 24, 25, 26, 27, 28, 29, 30, 31, 32, 33, 34, 35, 36, 37, 38, 39, 40, 41]) (wc := (ww_X9_copyFrom cs ad (raHS 1) raS (HS_32 1) S)) (wz := (ww_X9_copyFrom cs ad (raHS 1) raS zD zD)) (w1 := (ww_X9_copyFrom cs ad (raHS 1) raS HSv8 S)) (ws' := (ww_X2_keep cs ad raHy raHR raHS raS Hy_32 (upF HS_32 1 HSv8) S)) (va_runVN (As := [.ref (raS 0)]) (rest := []) ⟨hx, hb, hml, hown, hts⟩ (c_X9_copyFrom l dC dI cs ad (raHS 1) raS _ (HS_32 1) S HSv8 hq7) ⟨va_cnB 1 hts gX2_keep_X9_copyFrom_n23 rfl rfl rfl (hN _ (List.mem_of_getElem? (i := 102) rfl)) k_initialized_RX9 (by decide +kernel) ⟨Nat.le_of_ble_eq_true rfl, Nat.le_of_ble_eq_true rfl⟩, k_instanceMethod_yX9_copyFrom, k_selects_RX9_yX9_copyFrom_yX9_copyFrom⟩ ⟨fun a U g mk q => ⟨q.1, (fun _ _ _ _ => cPw_bl) a U g mk q.2⟩, va_recv hK hP (ci := 10) (q0 := 7) rfl rfl, fun U hU hW => ⟨rfl, ⟨by rw [hU], by rw [hU]; exact (hP.sub (ws' := (ww_X9_copyFrom cs ad (raHS 1) raS (HS_32 1) S)) [7, 8, 9, 10, 11, 42, 43, 44, 45, 46] rfl), va_K.moved hW.alike hK, (hD.sub (ws' := (ww_X9_copyFrom cs ad (raHS 1) raS (HS_32 1) S)) [7, 8, 9, 10, 11, 42, 43, 44, 45, 46] (by decide) rfl).weaken (fun _ _ _ _ => trivial), kN_warm hW hN⟩⟩⟩ rfl rfl hl.1 rfl (lv_room (Nat.le_of_ble_eq_true rfl)) dX2_keep_50 ⟨Nat.le_refl _, Nat.le_refl _⟩) hP hD hS hA rfl rfl (wr := ((wX2 cs ad raHy raHR Hy_32) ++ (([(raHR, .inl (cs 5, 8, .inr (.inr (.inr (.inr (fun j => some (raHS j 0)))))))]) ++ ([(raHS 0 0, .inr (10, fX9 ad (raHS 0) (HS_32 0))), (raHS 0 5, .inl (cs 1, 6, .inl ((HS_32 0).1 5))), (raHS 0 6, .inl (cs 1, 6, .inl ((HS_32 0).1 6))), (raHS 0 7, .inl (cs 1, 6, .inl ((HS_32 0).1 7))), (raHS 0 8, .inl (cs 1, 36, .inl ((HS_32 0).1 8))), (raHS 2 0, .inr (10, fX9 ad (raHS 2) (HS_32 2))), (raHS 2 5, .inl (cs 1, 6, .inl ((HS_32 2).1 5))), (raHS 2 6, .inl (cs 1, 6, .inl ((HS_32 2).1 6))), (raHS 2 7, .inl (cs 1, 6, .inl ((HS_32 2).1 7))), (raHS 2 8, .inl (cs 1, 36, .inl ((HS_32 2).1 8))), (raHS 3 0, .inr (10, fX9 ad (raHS 3) (HS_32 3))), (raHS 3 5, .inl (cs 1, 6, .inl ((HS_32 3).1 5))), (raHS 3 6, .inl (cs 1, 6, .inl ((HS_32 3).1 6))), (raHS 3 7, .inl (cs 1, 6, .inl ((HS_32 3).1 7))), (raHS 3 8, .inl (cs 1, 36, .inl ((HS_32 3).1 8))), (raHS 4 0, .inr (10, fX9 ad (raHS 4) (HS_32 4))), (raHS 4 5, .inl (cs 1, 6, .inl ((HS_32 4).1 5))), (raHS 4 6, .inl (cs 1, 6, .inl ((HS_32 4).1 6))), (raHS 4 7, .inl (cs 1, 6, .inl ((HS_32 4).1 7))), (raHS 4 8, .inl (cs 1, 36, .inl ((HS_32 4).1 8))), (raHS 5 0, .inr (10, fX9 ad (raHS 5) (HS_32 5))), (raHS 5 5, .inl (cs 1, 6, .inl ((HS_32 5).1 5))), (raHS 5 6, .inl (cs 1, 6, .inl ((HS_32 5).1 6))), (raHS 5 7, .inl (cs 1, 6, .inl ((HS_32 5).1 7))), (raHS 5 8, .inl (cs 1, 36, .inl ((HS_32 5).1 8))), (raHS 6 0, .inr (10, fX9 ad (raHS 6) (HS_32 6))), (raHS 6 5, .inl (cs 1, 6, .inl ((HS_32 6).1 5))), (raHS 6 6, .inl (cs 1, 6, .inl ((HS_32 6).1 6))), (raHS 6 7, .inl (cs 1, 6, .inl ((HS_32 6).1 7))), (raHS 6 8, .inl (cs 1, 36, .inl ((HS_32 6).1 8))), (raHS 7 0, .inr (10, fX9 ad (raHS 7) (HS_32 7))), (raHS 7 5, .inl (cs 1, 6, .inl ((HS_32 7).1 5))), (raHS 7 6, .inl (cs 1, 6, .inl ((HS_32 7).1 6))), (raHS 7 7, .inl (cs 1, 6, .inl ((HS_32 7).1 7))), (raHS 7 8, .inl (cs 1, 36, .inl ((HS_32 7).1 8)))])))) rfl rfl rfl (nw := 47) rfl (by decide +kernel) rfl (fun H locs hP hD hS => ?_)
      obtain ⟨HSv9, eHSv9, hf⟩ := bd1_e hf
      rw [← eHSv9] at hP hD
      refine lv_aload_n hx hb dX2_keep_53 rfl (lv_at hl 0 rfl) ?_
      refine lv_dup hx hb dX2_keep_54 rfl ?_
      refine va_get (D := (dC, dI)) (ci := 3) (C := RX2) (T := TX2) (N := 3) hx hb hts hinX2 hown hK hP 0 rfl rfl 0 (by decide) (v := .int (Hy_32.1 0 0)) k_fieldLink_RX2_16__KeyLetters_History___size___I_ (fun _ h9 => h9) rfl dX2_keep_55 ?_
      refine lv_iconst (v := 1) hx hb dX2_keep_58 (by decide) ?_
      refine lv_iadd hx hb dX2_keep_59 ?_
      obtain ⟨Hyv10, eHyv10, hf⟩ := bd1_e hf
      refine g_put (D := (dC, dI)) (ci := 3) (C := RX2) (T := TX2) (N := 3) hx hb hts hinX2 tyX2 tyX2_ok nmX2 hown hK hP hD hS 0 rfl rfl 0 (by decide) k_fieldLink_RX2_16__KeyLetters_History___size___I_ (fun _ h9 => h9) rfl (ty := .int) (v := .int ((Hy_32.1 0 0) + (1 : Int32))) (by decide +kernel) rfl rfl (Nat.le_of_ble_eq_true rfl) (ws' := (ww_X2_keep cs ad raHy raHR raHS raS Hyv10 HSv9 S)) (by rw [eHyv10]; rfl) dX2_keep_60 (fun H locs hP hD hS => ?_)
      have hf := Option.some.inj hf
      subst hf
      exact c_vret hx hb hr hlocks hP hK hD hS dX2_keep_63
    have hf := (if_neg hs11).symm.trans hf
    by_cases hs16 : v1 = 2
    · have hf := (if_pos hs16).symm.trans hf
      rw [hs16]
      refine va_aldq (f := fun j => some (raHS j 0)) hx hb hK hP 1 5 rfl rfl (show ¬ ((2 : Int32) < 0 ∨ 8 ≤ (2 : Int32).toNatClampNeg) by decide +kernel) dX2_keep_48 ?_
      refine kt_v (show va_rf (some (raHS (2 : Int32).toNatClampNeg 0)) = Value.ref (raHS 2 0) from rfl) ?_
      refine lv_aload_n hx hb dX2_keep_49 rfl (lv_at hl 1 rfl) ?_
      obtain ⟨HSv13, hq12, hf⟩ := bo_e hf
      refine g_callv (isC := [12, 13, 14, 15, 16, 42, 43, 44, 45, 46]) (isR := [0, 1, 2, 3, 4, 5, 6, 7, 8, 9, 10, 11, 17, 18, 19, 20, 21, 22, 23, 24, 25, 26, 27, 28, 29, 30, 31, 32, 33, 34, 35, 36, 37, 38, 39, 40, 41]) (wc := (ww_X9_copyFrom cs ad (raHS 2) raS (HS_32 2) S)) (wz := (ww_X9_copyFrom cs ad (raHS 2) raS zD zD)) (w1 := (ww_X9_copyFrom cs ad (raHS 2) raS HSv13 S)) (ws' := (ww_X2_keep cs ad raHy raHR raHS raS Hy_32 (upF HS_32 2 HSv13) S)) (va_runVN (As := [.ref (raS 0)]) (rest := []) ⟨hx, hb, hml, hown, hts⟩ (c_X9_copyFrom l dC dI cs ad (raHS 2) raS _ (HS_32 2) S HSv13 hq12) ⟨va_cnB 1 hts gX2_keep_X9_copyFrom_n23 rfl rfl rfl (hN _ (List.mem_of_getElem? (i := 102) rfl)) k_initialized_RX9 (by decide +kernel) ⟨Nat.le_of_ble_eq_true rfl, Nat.le_of_ble_eq_true rfl⟩, k_instanceMethod_yX9_copyFrom, k_selects_RX9_yX9_copyFrom_yX9_copyFrom⟩ ⟨fun a U g mk q => ⟨q.1, (fun _ _ _ _ => cPw_bl) a U g mk q.2⟩, va_recv hK hP (ci := 10) (q0 := 12) rfl rfl, fun U hU hW => ⟨rfl, ⟨by rw [hU], by rw [hU]; exact (hP.sub (ws' := (ww_X9_copyFrom cs ad (raHS 2) raS (HS_32 2) S)) [12, 13, 14, 15, 16, 42, 43, 44, 45, 46] rfl), va_K.moved hW.alike hK, (hD.sub (ws' := (ww_X9_copyFrom cs ad (raHS 2) raS (HS_32 2) S)) [12, 13, 14, 15, 16, 42, 43, 44, 45, 46] (by decide) rfl).weaken (fun _ _ _ _ => trivial), kN_warm hW hN⟩⟩⟩ rfl rfl hl.1 rfl (lv_room (Nat.le_of_ble_eq_true rfl)) dX2_keep_50 ⟨Nat.le_refl _, Nat.le_refl _⟩) hP hD hS hA rfl rfl (wr := ((wX2 cs ad raHy raHR Hy_32) ++ (([(raHR, .inl (cs 5, 8, .inr (.inr (.inr (.inr (fun j => some (raHS j 0)))))))]) ++ ([(raHS 0 0, .inr (10, fX9 ad (raHS 0) (HS_32 0))), (raHS 0 5, .inl (cs 1, 6, .inl ((HS_32 0).1 5))), (raHS 0 6, .inl (cs 1, 6, .inl ((HS_32 0).1 6))), (raHS 0 7, .inl (cs 1, 6, .inl ((HS_32 0).1 7))), (raHS 0 8, .inl (cs 1, 36, .inl ((HS_32 0).1 8))), (raHS 1 0, .inr (10, fX9 ad (raHS 1) (HS_32 1))), (raHS 1 5, .inl (cs 1, 6, .inl ((HS_32 1).1 5))), (raHS 1 6, .inl (cs 1, 6, .inl ((HS_32 1).1 6))), (raHS 1 7, .inl (cs 1, 6, .inl ((HS_32 1).1 7))), (raHS 1 8, .inl (cs 1, 36, .inl ((HS_32 1).1 8))), (raHS 3 0, .inr (10, fX9 ad (raHS 3) (HS_32 3))), (raHS 3 5, .inl (cs 1, 6, .inl ((HS_32 3).1 5))), (raHS 3 6, .inl (cs 1, 6, .inl ((HS_32 3).1 6))), (raHS 3 7, .inl (cs 1, 6, .inl ((HS_32 3).1 7))), (raHS 3 8, .inl (cs 1, 36, .inl ((HS_32 3).1 8))), (raHS 4 0, .inr (10, fX9 ad (raHS 4) (HS_32 4))), (raHS 4 5, .inl (cs 1, 6, .inl ((HS_32 4).1 5))), (raHS 4 6, .inl (cs 1, 6, .inl ((HS_32 4).1 6))), (raHS 4 7, .inl (cs 1, 6, .inl ((HS_32 4).1 7))), (raHS 4 8, .inl (cs 1, 36, .inl ((HS_32 4).1 8))), (raHS 5 0, .inr (10, fX9 ad (raHS 5) (HS_32 5))), (raHS 5 5, .inl (cs 1, 6, .inl ((HS_32 5).1 5))), (raHS 5 6, .inl (cs 1, 6, .inl ((HS_32 5).1 6))), (raHS 5 7, .inl (cs 1, 6, .inl ((HS_32 5).1 7))), (raHS 5 8, .inl (cs 1, 36, .inl ((HS_32 5).1 8))), (raHS 6 0, .inr (10, fX9 ad (raHS 6) (HS_32 6))), (raHS 6 5, .inl (cs 1, 6, .inl ((HS_32 6).1 5))), (raHS 6 6, .inl (cs 1, 6, .inl ((HS_32 6).1 6))), (raHS 6 7, .inl (cs 1, 6, .inl ((HS_32 6).1 7))), (raHS 6 8, .inl (cs 1, 36, .inl ((HS_32 6).1 8))), (raHS 7 0, .inr (10, fX9 ad (raHS 7) (HS_32 7))), (raHS 7 5, .inl (cs 1, 6, .inl ((HS_32 7).1 5))), (raHS 7 6, .inl (cs 1, 6, .inl ((HS_32 7).1 6))), (raHS 7 7, .inl (cs 1, 6, .inl ((HS_32 7).1 7))), (raHS 7 8, .inl (cs 1, 36, .inl ((HS_32 7).1 8)))])))) rfl rfl rfl (nw := 47) rfl (by decide +kernel) rfl (fun H locs hP hD hS => ?_)
      obtain ⟨HSv14, eHSv14, hf⟩ := bd1_e hf
      rw [← eHSv14] at hP hD
      refine lv_aload_n hx hb dX2_keep_53 rfl (lv_at hl 0 rfl) ?_
      refine lv_dup hx hb dX2_keep_54 rfl ?_
      refine va_get (D := (dC, dI)) (ci := 3) (C := RX2) (T := TX2) (N := 3) hx hb hts hinX2 hown hK hP 0 rfl rfl 0 (by decide) (v := .int (Hy_32.1 0 0)) k_fieldLink_RX2_16__KeyLetters_History___size___I_ (fun _ h9 => h9) rfl dX2_keep_55 ?_
      refine lv_iconst (v := 1) hx hb dX2_keep_58 (by decide) ?_
      refine lv_iadd hx hb dX2_keep_59 ?_
      obtain ⟨Hyv15, eHyv15, hf⟩ := bd1_e hf
      refine g_put (D := (dC, dI)) (ci := 3) (C := RX2) (T := TX2) (N := 3) hx hb hts hinX2 tyX2 tyX2_ok nmX2 hown hK hP hD hS 0 rfl rfl 0 (by decide) k_fieldLink_RX2_16__KeyLetters_History___size___I_ (fun _ h9 => h9) rfl (ty := .int) (v := .int ((Hy_32.1 0 0) + (1 : Int32))) (by decide +kernel) rfl rfl (Nat.le_of_ble_eq_true rfl) (ws' := (ww_X2_keep cs ad raHy raHR raHS raS Hyv15 HSv14 S)) (by rw [eHyv15]; rfl) dX2_keep_60 (fun H locs hP hD hS => ?_)
      have hf := Option.some.inj hf
      subst hf
      exact c_vret hx hb hr hlocks hP hK hD hS dX2_keep_63
    have hf := (if_neg hs16).symm.trans hf
    by_cases hs21 : v1 = 3
    · have hf := (if_pos hs21).symm.trans hf
      rw [hs21]
      refine va_aldq (f := fun j => some (raHS j 0)) hx hb hK hP 1 5 rfl rfl (show ¬ ((3 : Int32) < 0 ∨ 8 ≤ (3 : Int32).toNatClampNeg) by decide +kernel) dX2_keep_48 ?_
      refine kt_v (show va_rf (some (raHS (3 : Int32).toNatClampNeg 0)) = Value.ref (raHS 3 0) from rfl) ?_
      refine lv_aload_n hx hb dX2_keep_49 rfl (lv_at hl 1 rfl) ?_
      obtain ⟨HSv18, hq17, hf⟩ := bo_e hf
      refine g_callv (isC := [17, 18, 19, 20, 21, 42, 43, 44, 45, 46]) (isR := [0, 1, 2, 3, 4, 5, 6, 7, 8, 9, 10, 11, 12, 13, 14, 15, 16, 22, 23, 24, 25, 26, 27, 28, 29, 30, 31, 32, 33, 34, 35, 36, 37, 38, 39, 40, 41]) (wc := (ww_X9_copyFrom cs ad (raHS 3) raS (HS_32 3) S)) (wz := (ww_X9_copyFrom cs ad (raHS 3) raS zD zD)) (w1 := (ww_X9_copyFrom cs ad (raHS 3) raS HSv18 S)) (ws' := (ww_X2_keep cs ad raHy raHR raHS raS Hy_32 (upF HS_32 3 HSv18) S)) (va_runVN (As := [.ref (raS 0)]) (rest := []) ⟨hx, hb, hml, hown, hts⟩ (c_X9_copyFrom l dC dI cs ad (raHS 3) raS _ (HS_32 3) S HSv18 hq17) ⟨va_cnB 1 hts gX2_keep_X9_copyFrom_n23 rfl rfl rfl (hN _ (List.mem_of_getElem? (i := 102) rfl)) k_initialized_RX9 (by decide +kernel) ⟨Nat.le_of_ble_eq_true rfl, Nat.le_of_ble_eq_true rfl⟩, k_instanceMethod_yX9_copyFrom, k_selects_RX9_yX9_copyFrom_yX9_copyFrom⟩ ⟨fun a U g mk q => ⟨q.1, (fun _ _ _ _ => cPw_bl) a U g mk q.2⟩, va_recv hK hP (ci := 10) (q0 := 17) rfl rfl, fun U hU hW => ⟨rfl, ⟨by rw [hU], by rw [hU]; exact (hP.sub (ws' := (ww_X9_copyFrom cs ad (raHS 3) raS (HS_32 3) S)) [17, 18, 19, 20, 21, 42, 43, 44, 45, 46] rfl), va_K.moved hW.alike hK, (hD.sub (ws' := (ww_X9_copyFrom cs ad (raHS 3) raS (HS_32 3) S)) [17, 18, 19, 20, 21, 42, 43, 44, 45, 46] (by decide) rfl).weaken (fun _ _ _ _ => trivial), kN_warm hW hN⟩⟩⟩ rfl rfl hl.1 rfl (lv_room (Nat.le_of_ble_eq_true rfl)) dX2_keep_50 ⟨Nat.le_refl _, Nat.le_refl _⟩) hP hD hS hA rfl rfl (wr := ((wX2 cs ad raHy raHR Hy_32) ++ (([(raHR, .inl (cs 5, 8, .inr (.inr (.inr (.inr (fun j => some (raHS j 0)))))))]) ++ ([(raHS 0 0, .inr (10, fX9 ad (raHS 0) (HS_32 0))), (raHS 0 5, .inl (cs 1, 6, .inl ((HS_32 0).1 5))), (raHS 0 6, .inl (cs 1, 6, .inl ((HS_32 0).1 6))), (raHS 0 7, .inl (cs 1, 6, .inl ((HS_32 0).1 7))), (raHS 0 8, .inl (cs 1, 36, .inl ((HS_32 0).1 8))), (raHS 1 0, .inr (10, fX9 ad (raHS 1) (HS_32 1))), (raHS 1 5, .inl (cs 1, 6, .inl ((HS_32 1).1 5))), (raHS 1 6, .inl (cs 1, 6, .inl ((HS_32 1).1 6))), (raHS 1 7, .inl (cs 1, 6, .inl ((HS_32 1).1 7))), (raHS 1 8, .inl (cs 1, 36, .inl ((HS_32 1).1 8))), (raHS 2 0, .inr (10, fX9 ad (raHS 2) (HS_32 2))), (raHS 2 5, .inl (cs 1, 6, .inl ((HS_32 2).1 5))), (raHS 2 6, .inl (cs 1, 6, .inl ((HS_32 2).1 6))), (raHS 2 7, .inl (cs 1, 6, .inl ((HS_32 2).1 7))), (raHS 2 8, .inl (cs 1, 36, .inl ((HS_32 2).1 8))), (raHS 4 0, .inr (10, fX9 ad (raHS 4) (HS_32 4))), (raHS 4 5, .inl (cs 1, 6, .inl ((HS_32 4).1 5))), (raHS 4 6, .inl (cs 1, 6, .inl ((HS_32 4).1 6))), (raHS 4 7, .inl (cs 1, 6, .inl ((HS_32 4).1 7))), (raHS 4 8, .inl (cs 1, 36, .inl ((HS_32 4).1 8))), (raHS 5 0, .inr (10, fX9 ad (raHS 5) (HS_32 5))), (raHS 5 5, .inl (cs 1, 6, .inl ((HS_32 5).1 5))), (raHS 5 6, .inl (cs 1, 6, .inl ((HS_32 5).1 6))), (raHS 5 7, .inl (cs 1, 6, .inl ((HS_32 5).1 7))), (raHS 5 8, .inl (cs 1, 36, .inl ((HS_32 5).1 8))), (raHS 6 0, .inr (10, fX9 ad (raHS 6) (HS_32 6))), (raHS 6 5, .inl (cs 1, 6, .inl ((HS_32 6).1 5))), (raHS 6 6, .inl (cs 1, 6, .inl ((HS_32 6).1 6))), (raHS 6 7, .inl (cs 1, 6, .inl ((HS_32 6).1 7))), (raHS 6 8, .inl (cs 1, 36, .inl ((HS_32 6).1 8))), (raHS 7 0, .inr (10, fX9 ad (raHS 7) (HS_32 7))), (raHS 7 5, .inl (cs 1, 6, .inl ((HS_32 7).1 5))), (raHS 7 6, .inl (cs 1, 6, .inl ((HS_32 7).1 6))), (raHS 7 7, .inl (cs 1, 6, .inl ((HS_32 7).1 7))), (raHS 7 8, .inl (cs 1, 36, .inl ((HS_32 7).1 8)))])))) rfl rfl rfl (nw := 47) rfl (by decide +kernel) rfl (fun H locs hP hD hS => ?_)
      obtain ⟨HSv19, eHSv19, hf⟩ := bd1_e hf
      rw [← eHSv19] at hP hD
      refine lv_aload_n hx hb dX2_keep_53 rfl (lv_at hl 0 rfl) ?_
      refine lv_dup hx hb dX2_keep_54 rfl ?_
      refine va_get (D := (dC, dI)) (ci := 3) (C := RX2) (T := TX2) (N := 3) hx hb hts hinX2 hown hK hP 0 rfl rfl 0 (by decide) (v := .int (Hy_32.1 0 0)) k_fieldLink_RX2_16__KeyLetters_History___size___I_ (fun _ h9 => h9) rfl dX2_keep_55 ?_
      refine lv_iconst (v := 1) hx hb dX2_keep_58 (by decide) ?_
      refine lv_iadd hx hb dX2_keep_59 ?_
      obtain ⟨Hyv20, eHyv20, hf⟩ := bd1_e hf
      refine g_put (D := (dC, dI)) (ci := 3) (C := RX2) (T := TX2) (N := 3) hx hb hts hinX2 tyX2 tyX2_ok nmX2 hown hK hP hD hS 0 rfl rfl 0 (by decide) k_fieldLink_RX2_16__KeyLetters_History___size___I_ (fun _ h9 => h9) rfl (ty := .int) (v := .int ((Hy_32.1 0 0) + (1 : Int32))) (by decide +kernel) rfl rfl (Nat.le_of_ble_eq_true rfl) (ws' := (ww_X2_keep cs ad raHy raHR raHS raS Hyv20 HSv19 S)) (by rw [eHyv20]; rfl) dX2_keep_60 (fun H locs hP hD hS => ?_)
      have hf := Option.some.inj hf
      subst hf
      exact c_vret hx hb hr hlocks hP hK hD hS dX2_keep_63
    have hf := (if_neg hs21).symm.trans hf
    by_cases hs26 : v1 = 4
    · have hf := (if_pos hs26).symm.trans hf
      rw [hs26]
      refine va_aldq (f := fun j => some (raHS j 0)) hx hb hK hP 1 5 rfl rfl (show ¬ ((4 : Int32) < 0 ∨ 8 ≤ (4 : Int32).toNatClampNeg) by decide +kernel) dX2_keep_48 ?_
      refine kt_v (show va_rf (some (raHS (4 : Int32).toNatClampNeg 0)) = Value.ref (raHS 4 0) from rfl) ?_
      refine lv_aload_n hx hb dX2_keep_49 rfl (lv_at hl 1 rfl) ?_
      obtain ⟨HSv23, hq22, hf⟩ := bo_e hf
      refine g_callv (isC := [22, 23, 24, 25, 26, 42, 43, 44, 45, 46]) (isR := [0, 1, 2, 3, 4, 5, 6, 7, 8, 9, 10, 11, 12, 13, 14, 15, 16, 17, 18, 19, 20, 21, 27, 28, 29, 30, 31, 32, 33, 34, 35, 36, 37, 38, 39, 40, 41]) (wc := (ww_X9_copyFrom cs ad (raHS 4) raS (HS_32 4) S)) (wz := (ww_X9_copyFrom cs ad (raHS 4) raS zD zD)) (w1 := (ww_X9_copyFrom cs ad (raHS 4) raS HSv23 S)) (ws' := (ww_X2_keep cs ad raHy raHR raHS raS Hy_32 (upF HS_32 4 HSv23) S)) (va_runVN (As := [.ref (raS 0)]) (rest := []) ⟨hx, hb, hml, hown, hts⟩ (c_X9_copyFrom l dC dI cs ad (raHS 4) raS _ (HS_32 4) S HSv23 hq22) ⟨va_cnB 1 hts gX2_keep_X9_copyFrom_n23 rfl rfl rfl (hN _ (List.mem_of_getElem? (i := 102) rfl)) k_initialized_RX9 (by decide +kernel) ⟨Nat.le_of_ble_eq_true rfl, Nat.le_of_ble_eq_true rfl⟩, k_instanceMethod_yX9_copyFrom, k_selects_RX9_yX9_copyFrom_yX9_copyFrom⟩ ⟨fun a U g mk q => ⟨q.1, (fun _ _ _ _ => cPw_bl) a U g mk q.2⟩, va_recv hK hP (ci := 10) (q0 := 22) rfl rfl, fun U hU hW => ⟨rfl, ⟨by rw [hU], by rw [hU]; exact (hP.sub (ws' := (ww_X9_copyFrom cs ad (raHS 4) raS (HS_32 4) S)) [22, 23, 24, 25, 26, 42, 43, 44, 45, 46] rfl), va_K.moved hW.alike hK, (hD.sub (ws' := (ww_X9_copyFrom cs ad (raHS 4) raS (HS_32 4) S)) [22, 23, 24, 25, 26, 42, 43, 44, 45, 46] (by decide) rfl).weaken (fun _ _ _ _ => trivial), kN_warm hW hN⟩⟩⟩ rfl rfl hl.1 rfl (lv_room (Nat.le_of_ble_eq_true rfl)) dX2_keep_50 ⟨Nat.le_refl _, Nat.le_refl _⟩) hP hD hS hA rfl rfl (wr := ((wX2 cs ad raHy raHR Hy_32) ++ (([(raHR, .inl (cs 5, 8, .inr (.inr (.inr (.inr (fun j => some (raHS j 0)))))))]) ++ ([(raHS 0 0, .inr (10, fX9 ad (raHS 0) (HS_32 0))), (raHS 0 5, .inl (cs 1, 6, .inl ((HS_32 0).1 5))), (raHS 0 6, .inl (cs 1, 6, .inl ((HS_32 0).1 6))), (raHS 0 7, .inl (cs 1, 6, .inl ((HS_32 0).1 7))), (raHS 0 8, .inl (cs 1, 36, .inl ((HS_32 0).1 8))), (raHS 1 0, .inr (10, fX9 ad (raHS 1) (HS_32 1))), (raHS 1 5, .inl (cs 1, 6, .inl ((HS_32 1).1 5))), (raHS 1 6, .inl (cs 1, 6, .inl ((HS_32 1).1 6))), (raHS 1 7, .inl (cs 1, 6, .inl ((HS_32 1).1 7))), (raHS 1 8, .inl (cs 1, 36, .inl ((HS_32 1).1 8))), (raHS 2 0, .inr (10, fX9 ad (raHS 2) (HS_32 2))), (raHS 2 5, .inl (cs 1, 6, .inl ((HS_32 2).1 5))), (raHS 2 6, .inl (cs 1, 6, .inl ((HS_32 2).1 6))), (raHS 2 7, .inl (cs 1, 6, .inl ((HS_32 2).1 7))), (raHS 2 8, .inl (cs 1, 36, .inl ((HS_32 2).1 8))), (raHS 3 0, .inr (10, fX9 ad (raHS 3) (HS_32 3))), (raHS 3 5, .inl (cs 1, 6, .inl ((HS_32 3).1 5))), (raHS 3 6, .inl (cs 1, 6, .inl ((HS_32 3).1 6))), (raHS 3 7, .inl (cs 1, 6, .inl ((HS_32 3).1 7))), (raHS 3 8, .inl (cs 1, 36, .inl ((HS_32 3).1 8))), (raHS 5 0, .inr (10, fX9 ad (raHS 5) (HS_32 5))), (raHS 5 5, .inl (cs 1, 6, .inl ((HS_32 5).1 5))), (raHS 5 6, .inl (cs 1, 6, .inl ((HS_32 5).1 6))), (raHS 5 7, .inl (cs 1, 6, .inl ((HS_32 5).1 7))), (raHS 5 8, .inl (cs 1, 36, .inl ((HS_32 5).1 8))), (raHS 6 0, .inr (10, fX9 ad (raHS 6) (HS_32 6))), (raHS 6 5, .inl (cs 1, 6, .inl ((HS_32 6).1 5))), (raHS 6 6, .inl (cs 1, 6, .inl ((HS_32 6).1 6))), (raHS 6 7, .inl (cs 1, 6, .inl ((HS_32 6).1 7))), (raHS 6 8, .inl (cs 1, 36, .inl ((HS_32 6).1 8))), (raHS 7 0, .inr (10, fX9 ad (raHS 7) (HS_32 7))), (raHS 7 5, .inl (cs 1, 6, .inl ((HS_32 7).1 5))), (raHS 7 6, .inl (cs 1, 6, .inl ((HS_32 7).1 6))), (raHS 7 7, .inl (cs 1, 6, .inl ((HS_32 7).1 7))), (raHS 7 8, .inl (cs 1, 36, .inl ((HS_32 7).1 8)))])))) rfl rfl rfl (nw := 47) rfl (by decide +kernel) rfl (fun H locs hP hD hS => ?_)
      obtain ⟨HSv24, eHSv24, hf⟩ := bd1_e hf
      rw [← eHSv24] at hP hD
      refine lv_aload_n hx hb dX2_keep_53 rfl (lv_at hl 0 rfl) ?_
      refine lv_dup hx hb dX2_keep_54 rfl ?_
      refine va_get (D := (dC, dI)) (ci := 3) (C := RX2) (T := TX2) (N := 3) hx hb hts hinX2 hown hK hP 0 rfl rfl 0 (by decide) (v := .int (Hy_32.1 0 0)) k_fieldLink_RX2_16__KeyLetters_History___size___I_ (fun _ h9 => h9) rfl dX2_keep_55 ?_
      refine lv_iconst (v := 1) hx hb dX2_keep_58 (by decide) ?_
      refine lv_iadd hx hb dX2_keep_59 ?_
      obtain ⟨Hyv25, eHyv25, hf⟩ := bd1_e hf
      refine g_put (D := (dC, dI)) (ci := 3) (C := RX2) (T := TX2) (N := 3) hx hb hts hinX2 tyX2 tyX2_ok nmX2 hown hK hP hD hS 0 rfl rfl 0 (by decide) k_fieldLink_RX2_16__KeyLetters_History___size___I_ (fun _ h9 => h9) rfl (ty := .int) (v := .int ((Hy_32.1 0 0) + (1 : Int32))) (by decide +kernel) rfl rfl (Nat.le_of_ble_eq_true rfl) (ws' := (ww_X2_keep cs ad raHy raHR raHS raS Hyv25 HSv24 S)) (by rw [eHyv25]; rfl) dX2_keep_60 (fun H locs hP hD hS => ?_)
      have hf := Option.some.inj hf
      subst hf
      exact c_vret hx hb hr hlocks hP hK hD hS dX2_keep_63
    have hf := (if_neg hs26).symm.trans hf
    by_cases hs31 : v1 = 5
    · have hf := (if_pos hs31).symm.trans hf
      rw [hs31]
      refine va_aldq (f := fun j => some (raHS j 0)) hx hb hK hP 1 5 rfl rfl (show ¬ ((5 : Int32) < 0 ∨ 8 ≤ (5 : Int32).toNatClampNeg) by decide +kernel) dX2_keep_48 ?_
      refine kt_v (show va_rf (some (raHS (5 : Int32).toNatClampNeg 0)) = Value.ref (raHS 5 0) from rfl) ?_
      refine lv_aload_n hx hb dX2_keep_49 rfl (lv_at hl 1 rfl) ?_
      obtain ⟨HSv28, hq27, hf⟩ := bo_e hf
      refine g_callv (isC := [27, 28, 29, 30, 31, 42, 43, 44, 45, 46]) (isR := [0, 1, 2, 3, 4, 5, 6, 7, 8, 9, 10, 11, 12, 13, 14, 15, 16, 17, 18, 19, 20, 21, 22, 23, 24, 25, 26, 32, 33, 34, 35, 36, 37, 38, 39, 40, 41]) (wc := (ww_X9_copyFrom cs ad (raHS 5) raS (HS_32 5) S)) (wz := (ww_X9_copyFrom cs ad (raHS 5) raS zD zD)) (w1 := (ww_X9_copyFrom cs ad (raHS 5) raS HSv28 S)) (ws' := (ww_X2_keep cs ad raHy raHR raHS raS Hy_32 (upF HS_32 5 HSv28) S)) (va_runVN (As := [.ref (raS 0)]) (rest := []) ⟨hx, hb, hml, hown, hts⟩ (c_X9_copyFrom l dC dI cs ad (raHS 5) raS _ (HS_32 5) S HSv28 hq27) ⟨va_cnB 1 hts gX2_keep_X9_copyFrom_n23 rfl rfl rfl (hN _ (List.mem_of_getElem? (i := 102) rfl)) k_initialized_RX9 (by decide +kernel) ⟨Nat.le_of_ble_eq_true rfl, Nat.le_of_ble_eq_true rfl⟩, k_instanceMethod_yX9_copyFrom, k_selects_RX9_yX9_copyFrom_yX9_copyFrom⟩ ⟨fun a U g mk q => ⟨q.1, (fun _ _ _ _ => cPw_bl) a U g mk q.2⟩, va_recv hK hP (ci := 10) (q0 := 27) rfl rfl, fun U hU hW => ⟨rfl, ⟨by rw [hU], by rw [hU]; exact (hP.sub (ws' := (ww_X9_copyFrom cs ad (raHS 5) raS (HS_32 5) S)) [27, 28, 29, 30, 31, 42, 43, 44, 45, 46] rfl), va_K.moved hW.alike hK, (hD.sub (ws' := (ww_X9_copyFrom cs ad (raHS 5) raS (HS_32 5) S)) [27, 28, 29, 30, 31, 42, 43, 44, 45, 46] (by decide) rfl).weaken (fun _ _ _ _ => trivial), kN_warm hW hN⟩⟩⟩ rfl rfl hl.1 rfl (lv_room (Nat.le_of_ble_eq_true rfl)) dX2_keep_50 ⟨Nat.le_refl _, Nat.le_refl _⟩) hP hD hS hA rfl rfl (wr := ((wX2 cs ad raHy raHR Hy_32) ++ (([(raHR, .inl (cs 5, 8, .inr (.inr (.inr (.inr (fun j => some (raHS j 0)))))))]) ++ ([(raHS 0 0, .inr (10, fX9 ad (raHS 0) (HS_32 0))), (raHS 0 5, .inl (cs 1, 6, .inl ((HS_32 0).1 5))), (raHS 0 6, .inl (cs 1, 6, .inl ((HS_32 0).1 6))), (raHS 0 7, .inl (cs 1, 6, .inl ((HS_32 0).1 7))), (raHS 0 8, .inl (cs 1, 36, .inl ((HS_32 0).1 8))), (raHS 1 0, .inr (10, fX9 ad (raHS 1) (HS_32 1))), (raHS 1 5, .inl (cs 1, 6, .inl ((HS_32 1).1 5))), (raHS 1 6, .inl (cs 1, 6, .inl ((HS_32 1).1 6))), (raHS 1 7, .inl (cs 1, 6, .inl ((HS_32 1).1 7))), (raHS 1 8, .inl (cs 1, 36, .inl ((HS_32 1).1 8))), (raHS 2 0, .inr (10, fX9 ad (raHS 2) (HS_32 2))), (raHS 2 5, .inl (cs 1, 6, .inl ((HS_32 2).1 5))), (raHS 2 6, .inl (cs 1, 6, .inl ((HS_32 2).1 6))), (raHS 2 7, .inl (cs 1, 6, .inl ((HS_32 2).1 7))), (raHS 2 8, .inl (cs 1, 36, .inl ((HS_32 2).1 8))), (raHS 3 0, .inr (10, fX9 ad (raHS 3) (HS_32 3))), (raHS 3 5, .inl (cs 1, 6, .inl ((HS_32 3).1 5))), (raHS 3 6, .inl (cs 1, 6, .inl ((HS_32 3).1 6))), (raHS 3 7, .inl (cs 1, 6, .inl ((HS_32 3).1 7))), (raHS 3 8, .inl (cs 1, 36, .inl ((HS_32 3).1 8))), (raHS 4 0, .inr (10, fX9 ad (raHS 4) (HS_32 4))), (raHS 4 5, .inl (cs 1, 6, .inl ((HS_32 4).1 5))), (raHS 4 6, .inl (cs 1, 6, .inl ((HS_32 4).1 6))), (raHS 4 7, .inl (cs 1, 6, .inl ((HS_32 4).1 7))), (raHS 4 8, .inl (cs 1, 36, .inl ((HS_32 4).1 8))), (raHS 6 0, .inr (10, fX9 ad (raHS 6) (HS_32 6))), (raHS 6 5, .inl (cs 1, 6, .inl ((HS_32 6).1 5))), (raHS 6 6, .inl (cs 1, 6, .inl ((HS_32 6).1 6))), (raHS 6 7, .inl (cs 1, 6, .inl ((HS_32 6).1 7))), (raHS 6 8, .inl (cs 1, 36, .inl ((HS_32 6).1 8))), (raHS 7 0, .inr (10, fX9 ad (raHS 7) (HS_32 7))), (raHS 7 5, .inl (cs 1, 6, .inl ((HS_32 7).1 5))), (raHS 7 6, .inl (cs 1, 6, .inl ((HS_32 7).1 6))), (raHS 7 7, .inl (cs 1, 6, .inl ((HS_32 7).1 7))), (raHS 7 8, .inl (cs 1, 36, .inl ((HS_32 7).1 8)))])))) rfl rfl rfl (nw := 47) rfl (by decide +kernel) rfl (fun H locs hP hD hS => ?_)
      obtain ⟨HSv29, eHSv29, hf⟩ := bd1_e hf
      rw [← eHSv29] at hP hD
      refine lv_aload_n hx hb dX2_keep_53 rfl (lv_at hl 0 rfl) ?_
      refine lv_dup hx hb dX2_keep_54 rfl ?_
      refine va_get (D := (dC, dI)) (ci := 3) (C := RX2) (T := TX2) (N := 3) hx hb hts hinX2 hown hK hP 0 rfl rfl 0 (by decide) (v := .int (Hy_32.1 0 0)) k_fieldLink_RX2_16__KeyLetters_History___size___I_ (fun _ h9 => h9) rfl dX2_keep_55 ?_
      refine lv_iconst (v := 1) hx hb dX2_keep_58 (by decide) ?_
      refine lv_iadd hx hb dX2_keep_59 ?_
      obtain ⟨Hyv30, eHyv30, hf⟩ := bd1_e hf
      refine g_put (D := (dC, dI)) (ci := 3) (C := RX2) (T := TX2) (N := 3) hx hb hts hinX2 tyX2 tyX2_ok nmX2 hown hK hP hD hS 0 rfl rfl 0 (by decide) k_fieldLink_RX2_16__KeyLetters_History___size___I_ (fun _ h9 => h9) rfl (ty := .int) (v := .int ((Hy_32.1 0 0) + (1 : Int32))) (by decide +kernel) rfl rfl (Nat.le_of_ble_eq_true rfl) (ws' := (ww_X2_keep cs ad raHy raHR raHS raS Hyv30 HSv29 S)) (by rw [eHyv30]; rfl) dX2_keep_60 (fun H locs hP hD hS => ?_)
      have hf := Option.some.inj hf
      subst hf
      exact c_vret hx hb hr hlocks hP hK hD hS dX2_keep_63
    have hf := (if_neg hs31).symm.trans hf
    by_cases hs36 : v1 = 6
    · have hf := (if_pos hs36).symm.trans hf
      rw [hs36]
      refine va_aldq (f := fun j => some (raHS j 0)) hx hb hK hP 1 5 rfl rfl (show ¬ ((6 : Int32) < 0 ∨ 8 ≤ (6 : Int32).toNatClampNeg) by decide +kernel) dX2_keep_48 ?_
      refine kt_v (show va_rf (some (raHS (6 : Int32).toNatClampNeg 0)) = Value.ref (raHS 6 0) from rfl) ?_
      refine lv_aload_n hx hb dX2_keep_49 rfl (lv_at hl 1 rfl) ?_
      obtain ⟨HSv33, hq32, hf⟩ := bo_e hf
      refine g_callv (isC := [32, 33, 34, 35, 36, 42, 43, 44, 45, 46]) (isR := [0, 1, 2, 3, 4, 5, 6, 7, 8, 9, 10, 11, 12, 13, 14, 15, 16, 17, 18, 19, 20, 21, 22, 23, 24, 25, 26, 27, 28, 29, 30, 31, 37, 38, 39, 40, 41]) (wc := (ww_X9_copyFrom cs ad (raHS 6) raS (HS_32 6) S)) (wz := (ww_X9_copyFrom cs ad (raHS 6) raS zD zD)) (w1 := (ww_X9_copyFrom cs ad (raHS 6) raS HSv33 S)) (ws' := (ww_X2_keep cs ad raHy raHR raHS raS Hy_32 (upF HS_32 6 HSv33) S)) (va_runVN (As := [.ref (raS 0)]) (rest := []) ⟨hx, hb, hml, hown, hts⟩ (c_X9_copyFrom l dC dI cs ad (raHS 6) raS _ (HS_32 6) S HSv33 hq32) ⟨va_cnB 1 hts gX2_keep_X9_copyFrom_n23 rfl rfl rfl (hN _ (List.mem_of_getElem? (i := 102) rfl)) k_initialized_RX9 (by decide +kernel) ⟨Nat.le_of_ble_eq_true rfl, Nat.le_of_ble_eq_true rfl⟩, k_instanceMethod_yX9_copyFrom, k_selects_RX9_yX9_copyFrom_yX9_copyFrom⟩ ⟨fun a U g mk q => ⟨q.1, (fun _ _ _ _ => cPw_bl) a U g mk q.2⟩, va_recv hK hP (ci := 10) (q0 := 32) rfl rfl, fun U hU hW => ⟨rfl, ⟨by rw [hU], by rw [hU]; exact (hP.sub (ws' := (ww_X9_copyFrom cs ad (raHS 6) raS (HS_32 6) S)) [32, 33, 34, 35, 36, 42, 43, 44, 45, 46] rfl), va_K.moved hW.alike hK, (hD.sub (ws' := (ww_X9_copyFrom cs ad (raHS 6) raS (HS_32 6) S)) [32, 33, 34, 35, 36, 42, 43, 44, 45, 46] (by decide) rfl).weaken (fun _ _ _ _ => trivial), kN_warm hW hN⟩⟩⟩ rfl rfl hl.1 rfl (lv_room (Nat.le_of_ble_eq_true rfl)) dX2_keep_50 ⟨Nat.le_refl _, Nat.le_refl _⟩) hP hD hS hA rfl rfl (wr := ((wX2 cs ad raHy raHR Hy_32) ++ (([(raHR, .inl (cs 5, 8, .inr (.inr (.inr (.inr (fun j => some (raHS j 0)))))))]) ++ ([(raHS 0 0, .inr (10, fX9 ad (raHS 0) (HS_32 0))), (raHS 0 5, .inl (cs 1, 6, .inl ((HS_32 0).1 5))), (raHS 0 6, .inl (cs 1, 6, .inl ((HS_32 0).1 6))), (raHS 0 7, .inl (cs 1, 6, .inl ((HS_32 0).1 7))), (raHS 0 8, .inl (cs 1, 36, .inl ((HS_32 0).1 8))), (raHS 1 0, .inr (10, fX9 ad (raHS 1) (HS_32 1))), (raHS 1 5, .inl (cs 1, 6, .inl ((HS_32 1).1 5))), (raHS 1 6, .inl (cs 1, 6, .inl ((HS_32 1).1 6))), (raHS 1 7, .inl (cs 1, 6, .inl ((HS_32 1).1 7))), (raHS 1 8, .inl (cs 1, 36, .inl ((HS_32 1).1 8))), (raHS 2 0, .inr (10, fX9 ad (raHS 2) (HS_32 2))), (raHS 2 5, .inl (cs 1, 6, .inl ((HS_32 2).1 5))), (raHS 2 6, .inl (cs 1, 6, .inl ((HS_32 2).1 6))), (raHS 2 7, .inl (cs 1, 6, .inl ((HS_32 2).1 7))), (raHS 2 8, .inl (cs 1, 36, .inl ((HS_32 2).1 8))), (raHS 3 0, .inr (10, fX9 ad (raHS 3) (HS_32 3))), (raHS 3 5, .inl (cs 1, 6, .inl ((HS_32 3).1 5))), (raHS 3 6, .inl (cs 1, 6, .inl ((HS_32 3).1 6))), (raHS 3 7, .inl (cs 1, 6, .inl ((HS_32 3).1 7))), (raHS 3 8, .inl (cs 1, 36, .inl ((HS_32 3).1 8))), (raHS 4 0, .inr (10, fX9 ad (raHS 4) (HS_32 4))), (raHS 4 5, .inl (cs 1, 6, .inl ((HS_32 4).1 5))), (raHS 4 6, .inl (cs 1, 6, .inl ((HS_32 4).1 6))), (raHS 4 7, .inl (cs 1, 6, .inl ((HS_32 4).1 7))), (raHS 4 8, .inl (cs 1, 36, .inl ((HS_32 4).1 8))), (raHS 5 0, .inr (10, fX9 ad (raHS 5) (HS_32 5))), (raHS 5 5, .inl (cs 1, 6, .inl ((HS_32 5).1 5))), (raHS 5 6, .inl (cs 1, 6, .inl ((HS_32 5).1 6))), (raHS 5 7, .inl (cs 1, 6, .inl ((HS_32 5).1 7))), (raHS 5 8, .inl (cs 1, 36, .inl ((HS_32 5).1 8))), (raHS 7 0, .inr (10, fX9 ad (raHS 7) (HS_32 7))), (raHS 7 5, .inl (cs 1, 6, .inl ((HS_32 7).1 5))), (raHS 7 6, .inl (cs 1, 6, .inl ((HS_32 7).1 6))), (raHS 7 7, .inl (cs 1, 6, .inl ((HS_32 7).1 7))), (raHS 7 8, .inl (cs 1, 36, .inl ((HS_32 7).1 8)))])))) rfl rfl rfl (nw := 47) rfl (by decide +kernel) rfl (fun H locs hP hD hS => ?_)
      obtain ⟨HSv34, eHSv34, hf⟩ := bd1_e hf
      rw [← eHSv34] at hP hD
      refine lv_aload_n hx hb dX2_keep_53 rfl (lv_at hl 0 rfl) ?_
      refine lv_dup hx hb dX2_keep_54 rfl ?_
      refine va_get (D := (dC, dI)) (ci := 3) (C := RX2) (T := TX2) (N := 3) hx hb hts hinX2 hown hK hP 0 rfl rfl 0 (by decide) (v := .int (Hy_32.1 0 0)) k_fieldLink_RX2_16__KeyLetters_History___size___I_ (fun _ h9 => h9) rfl dX2_keep_55 ?_
      refine lv_iconst (v := 1) hx hb dX2_keep_58 (by decide) ?_
      refine lv_iadd hx hb dX2_keep_59 ?_
      obtain ⟨Hyv35, eHyv35, hf⟩ := bd1_e hf
      refine g_put (D := (dC, dI)) (ci := 3) (C := RX2) (T := TX2) (N := 3) hx hb hts hinX2 tyX2 tyX2_ok nmX2 hown hK hP hD hS 0 rfl rfl 0 (by decide) k_fieldLink_RX2_16__KeyLetters_History___size___I_ (fun _ h9 => h9) rfl (ty := .int) (v := .int ((Hy_32.1 0 0) + (1 : Int32))) (by decide +kernel) rfl rfl (Nat.le_of_ble_eq_true rfl) (ws' := (ww_X2_keep cs ad raHy raHR raHS raS Hyv35 HSv34 S)) (by rw [eHyv35]; rfl) dX2_keep_60 (fun H locs hP hD hS => ?_)
      have hf := Option.some.inj hf
      subst hf
      exact c_vret hx hb hr hlocks hP hK hD hS dX2_keep_63
    have hf := (if_neg hs36).symm.trans hf
    by_cases hs41 : v1 = 7
    · have hf := (if_pos hs41).symm.trans hf
      rw [hs41]
      refine va_aldq (f := fun j => some (raHS j 0)) hx hb hK hP 1 5 rfl rfl (show ¬ ((7 : Int32) < 0 ∨ 8 ≤ (7 : Int32).toNatClampNeg) by decide +kernel) dX2_keep_48 ?_
      refine kt_v (show va_rf (some (raHS (7 : Int32).toNatClampNeg 0)) = Value.ref (raHS 7 0) from rfl) ?_
      refine lv_aload_n hx hb dX2_keep_49 rfl (lv_at hl 1 rfl) ?_
      obtain ⟨HSv38, hq37, hf⟩ := bo_e hf
      refine g_callv (isC := [37, 38, 39, 40, 41, 42, 43, 44, 45, 46]) (isR := [0, 1, 2, 3, 4, 5, 6, 7, 8, 9, 10, 11, 12, 13, 14, 15, 16, 17, 18, 19, 20, 21, 22, 23, 24, 25, 26, 27, 28, 29, 30, 31, 32, 33, 34, 35, 36]) (wc := (ww_X9_copyFrom cs ad (raHS 7) raS (HS_32 7) S)) (wz := (ww_X9_copyFrom cs ad (raHS 7) raS zD zD)) (w1 := (ww_X9_copyFrom cs ad (raHS 7) raS HSv38 S)) (ws' := (ww_X2_keep cs ad raHy raHR raHS raS Hy_32 (upF HS_32 7 HSv38) S)) (va_runVN (As := [.ref (raS 0)]) (rest := []) ⟨hx, hb, hml, hown, hts⟩ (c_X9_copyFrom l dC dI cs ad (raHS 7) raS _ (HS_32 7) S HSv38 hq37) ⟨va_cnB 1 hts gX2_keep_X9_copyFrom_n23 rfl rfl rfl (hN _ (List.mem_of_getElem? (i := 102) rfl)) k_initialized_RX9 (by decide +kernel) ⟨Nat.le_of_ble_eq_true rfl, Nat.le_of_ble_eq_true rfl⟩, k_instanceMethod_yX9_copyFrom, k_selects_RX9_yX9_copyFrom_yX9_copyFrom⟩ ⟨fun a U g mk q => ⟨q.1, (fun _ _ _ _ => cPw_bl) a U g mk q.2⟩, va_recv hK hP (ci := 10) (q0 := 37) rfl rfl, fun U hU hW => ⟨rfl, ⟨by rw [hU], by rw [hU]; exact (hP.sub (ws' := (ww_X9_copyFrom cs ad (raHS 7) raS (HS_32 7) S)) [37, 38, 39, 40, 41, 42, 43, 44, 45, 46] rfl), va_K.moved hW.alike hK, (hD.sub (ws' := (ww_X9_copyFrom cs ad (raHS 7) raS (HS_32 7) S)) [37, 38, 39, 40, 41, 42, 43, 44, 45, 46] (by decide) rfl).weaken (fun _ _ _ _ => trivial), kN_warm hW hN⟩⟩⟩ rfl rfl hl.1 rfl (lv_room (Nat.le_of_ble_eq_true rfl)) dX2_keep_50 ⟨Nat.le_refl _, Nat.le_refl _⟩) hP hD hS hA rfl rfl (wr := ((wX2 cs ad raHy raHR Hy_32) ++ (([(raHR, .inl (cs 5, 8, .inr (.inr (.inr (.inr (fun j => some (raHS j 0)))))))]) ++ ([(raHS 0 0, .inr (10, fX9 ad (raHS 0) (HS_32 0))), (raHS 0 5, .inl (cs 1, 6, .inl ((HS_32 0).1 5))), (raHS 0 6, .inl (cs 1, 6, .inl ((HS_32 0).1 6))), (raHS 0 7, .inl (cs 1, 6, .inl ((HS_32 0).1 7))), (raHS 0 8, .inl (cs 1, 36, .inl ((HS_32 0).1 8))), (raHS 1 0, .inr (10, fX9 ad (raHS 1) (HS_32 1))), (raHS 1 5, .inl (cs 1, 6, .inl ((HS_32 1).1 5))), (raHS 1 6, .inl (cs 1, 6, .inl ((HS_32 1).1 6))), (raHS 1 7, .inl (cs 1, 6, .inl ((HS_32 1).1 7))), (raHS 1 8, .inl (cs 1, 36, .inl ((HS_32 1).1 8))), (raHS 2 0, .inr (10, fX9 ad (raHS 2) (HS_32 2))), (raHS 2 5, .inl (cs 1, 6, .inl ((HS_32 2).1 5))), (raHS 2 6, .inl (cs 1, 6, .inl ((HS_32 2).1 6))), (raHS 2 7, .inl (cs 1, 6, .inl ((HS_32 2).1 7))), (raHS 2 8, .inl (cs 1, 36, .inl ((HS_32 2).1 8))), (raHS 3 0, .inr (10, fX9 ad (raHS 3) (HS_32 3))), (raHS 3 5, .inl (cs 1, 6, .inl ((HS_32 3).1 5))), (raHS 3 6, .inl (cs 1, 6, .inl ((HS_32 3).1 6))), (raHS 3 7, .inl (cs 1, 6, .inl ((HS_32 3).1 7))), (raHS 3 8, .inl (cs 1, 36, .inl ((HS_32 3).1 8))), (raHS 4 0, .inr (10, fX9 ad (raHS 4) (HS_32 4))), (raHS 4 5, .inl (cs 1, 6, .inl ((HS_32 4).1 5))), (raHS 4 6, .inl (cs 1, 6, .inl ((HS_32 4).1 6))), (raHS 4 7, .inl (cs 1, 6, .inl ((HS_32 4).1 7))), (raHS 4 8, .inl (cs 1, 36, .inl ((HS_32 4).1 8))), (raHS 5 0, .inr (10, fX9 ad (raHS 5) (HS_32 5))), (raHS 5 5, .inl (cs 1, 6, .inl ((HS_32 5).1 5))), (raHS 5 6, .inl (cs 1, 6, .inl ((HS_32 5).1 6))), (raHS 5 7, .inl (cs 1, 6, .inl ((HS_32 5).1 7))), (raHS 5 8, .inl (cs 1, 36, .inl ((HS_32 5).1 8))), (raHS 6 0, .inr (10, fX9 ad (raHS 6) (HS_32 6))), (raHS 6 5, .inl (cs 1, 6, .inl ((HS_32 6).1 5))), (raHS 6 6, .inl (cs 1, 6, .inl ((HS_32 6).1 6))), (raHS 6 7, .inl (cs 1, 6, .inl ((HS_32 6).1 7))), (raHS 6 8, .inl (cs 1, 36, .inl ((HS_32 6).1 8)))])))) rfl rfl rfl (nw := 47) rfl (by decide +kernel) rfl (fun H locs hP hD hS => ?_)
      obtain ⟨HSv39, eHSv39, hf⟩ := bd1_e hf
      rw [← eHSv39] at hP hD
      refine lv_aload_n hx hb dX2_keep_53 rfl (lv_at hl 0 rfl) ?_
      refine lv_dup hx hb dX2_keep_54 rfl ?_
      refine va_get (D := (dC, dI)) (ci := 3) (C := RX2) (T := TX2) (N := 3) hx hb hts hinX2 hown hK hP 0 rfl rfl 0 (by decide) (v := .int (Hy_32.1 0 0)) k_fieldLink_RX2_16__KeyLetters_History___size___I_ (fun _ h9 => h9) rfl dX2_keep_55 ?_
      refine lv_iconst (v := 1) hx hb dX2_keep_58 (by decide) ?_
      refine lv_iadd hx hb dX2_keep_59 ?_
      obtain ⟨Hyv40, eHyv40, hf⟩ := bd1_e hf
      refine g_put (D := (dC, dI)) (ci := 3) (C := RX2) (T := TX2) (N := 3) hx hb hts hinX2 tyX2 tyX2_ok nmX2 hown hK hP hD hS 0 rfl rfl 0 (by decide) k_fieldLink_RX2_16__KeyLetters_History___size___I_ (fun _ h9 => h9) rfl (ty := .int) (v := .int ((Hy_32.1 0 0) + (1 : Int32))) (by decide +kernel) rfl rfl (Nat.le_of_ble_eq_true rfl) (ws' := (ww_X2_keep cs ad raHy raHR raHS raS Hyv40 HSv39 S)) (by rw [eHyv40]; rfl) dX2_keep_60 (fun H locs hP hD hS => ?_)
      have hf := Option.some.inj hf
      subst hf
      exact c_vret hx hb hr hlocks hP hK hD hS dX2_keep_63
    have hf := (if_neg hs41).symm.trans hf
    cases hf
  refine lv_aload_n hx hb dX2_keep_0 rfl (lv_at hl 0 rfl) ?_
  refine va_get (D := (dC, dI)) (ci := 3) (C := RX2) (T := TX2) (N := 3) hx hb hts hinX2 hown hK hP 0 rfl rfl 0 (by decide) (v := .int (Hy.1 0 0)) k_fieldLink_RX2_16__KeyLetters_History___size___I_ (fun _ h9 => h9) rfl dX2_keep_1 ?_
  refine lv_bipush (v := 8) hx hb dX2_keep_4 (by decide) ?_
  refine lv_icmp_ne (tgt := 32) hx hb dX2_keep_6 (by decide) (fun hb44 => ?_) (fun hb44 => ?_)
  · have hf := (if_neg hb44).symm.trans hf
    exact h_32 Hy HS ls _ _ hl hP hD hS hf
  · have hf := (if_pos hb44).symm.trans hf
    refine lv_aload_n hx hb dX2_keep_9 rfl (lv_at hl 0 rfl) ?_
    refine lv_aload_n hx hb dX2_keep_10 rfl (lv_at hl 0 rfl) ?_
    refine va_get (D := (dC, dI)) (ci := 3) (C := RX2) (T := TX2) (N := 3) hx hb hts hinX2 hown hK hP 0 rfl rfl 1 (by decide) (v := .int (Hy.1 0 1)) k_fieldLink_RX2_20__KeyLetters_History___oldest___I_ (fun _ h9 => h9) rfl dX2_keep_11 ?_
    refine lv_iconst (v := 1) hx hb dX2_keep_14 (by decide) ?_
    refine lv_iadd hx hb dX2_keep_15 ?_
    refine lv_bipush (v := 8) hx hb dX2_keep_16 (by decide) ?_
    refine lv_irem hx hb dX2_keep_18 (by decide) ?_
    obtain ⟨Hyv42, eHyv42, hf⟩ := bd1_e hf
    refine g_put (D := (dC, dI)) (ci := 3) (C := RX2) (T := TX2) (N := 3) hx hb hts hinX2 tyX2 tyX2_ok nmX2 hown hK hP hD hS 0 rfl rfl 1 (by decide) k_fieldLink_RX2_20__KeyLetters_History___oldest___I_ (fun _ h9 => h9) rfl (ty := .int) (v := .int (kRem ((Hy.1 0 1) + (1 : Int32)) (8 : Int32))) (by decide +kernel) rfl rfl (Nat.le_of_ble_eq_true rfl) (ws' := (ww_X2_keep cs ad raHy raHR raHS raS Hyv42 HS S)) (by rw [eHyv42]; rfl) dX2_keep_19 (fun H locs hP hD hS => ?_)
    refine lv_aload_n hx hb dX2_keep_22 rfl (lv_at hl 0 rfl) ?_
    refine lv_dup hx hb dX2_keep_23 rfl ?_
    refine va_get (D := (dC, dI)) (ci := 3) (C := RX2) (T := TX2) (N := 3) hx hb hts hinX2 hown hK hP 0 rfl rfl 0 (by decide) (v := .int (Hyv42.1 0 0)) k_fieldLink_RX2_16__KeyLetters_History___size___I_ (fun _ h9 => h9) rfl dX2_keep_24 ?_
    refine lv_iconst (v := 1) hx hb dX2_keep_27 (by decide) ?_
    refine lv_isub hx hb dX2_keep_28 ?_
    obtain ⟨Hyv43, eHyv43, hf⟩ := bd1_e hf
    refine g_put (D := (dC, dI)) (ci := 3) (C := RX2) (T := TX2) (N := 3) hx hb hts hinX2 tyX2 tyX2_ok nmX2 hown hK hP hD hS 0 rfl rfl 0 (by decide) k_fieldLink_RX2_16__KeyLetters_History___size___I_ (fun _ h9 => h9) rfl (ty := .int) (v := .int ((Hyv42.1 0 0) - (1 : Int32))) (by decide +kernel) rfl rfl (Nat.le_of_ble_eq_true rfl) (ws' := (ww_X2_keep cs ad raHy raHR raHS raS Hyv43 HS S)) (by rw [eHyv43]; rfl) dX2_keep_29 (fun H locs hP hD hS => ?_)
    exact h_32 Hyv43 HS ls _ _ hl hP hD hS hf

def ww_X2_takeBack (cs : Nat → ClassId) (ad : Nat → Nat) (raHy : Nat → Nat) (raHR : Nat) (raHS : Nat → Nat → Nat) (raS : Nat → Nat) (Hy : kD) (HS : Nat → kD) (S : kD) : va_W := (wX2 cs ad raHy raHR Hy ++ ([(raHR, .inl (cs 5, 8, .inr (.inr (.inr (.inr (fun j => some (raHS j 0)))))))] ++ (wX9x8 cs ad raHS HS ++ (wX9 cs ad raS S))))
abbrev rm_X2_takeBack : Room := { frames := 2, cells := 0, slots := 0, locals := 61 }
set_option maxHeartbeats 4000000 in
set_option maxRecDepth 100000 in
theorem c_X2_takeBack (l : Launch) (dC : Nat → ClassId) (dI : Nat → Nat → Nat) (cs : Nat → ClassId) (ad : Nat → Nat) (raHy : Nat → Nat) (raHR : Nat) (raHS : Nat → Nat → Nat) (raS : Nat → Nat) (sz : Nat) (Hy : kD) (HS : Nat → kD) (S : kD) (r : Int32 × kD × kD) (hf : f_X2_takeBack Hy HS S = some r) : Met l yX2_takeBack wsX2_takeBack rm_X2_takeBack (va_Pc [.ref (raHy 0), .ref (raS 0)] (cPw dC dI cs sz (ww_X2_takeBack cs ad raHy raHR raHS raS Hy HS S))) (cQi dC dI cs (va_A (ww_X2_takeBack cs ad raHy raHR raHS raS zD (fun _ => zD) zD) sz) r.1 (ww_X2_takeBack cs ad raHy raHR raHS raS r.2.1 HS r.2.2)) 0 0 (va_A (ww_X2_takeBack cs ad raHy raHR raHS raS zD (fun _ => zD) zD) sz) := by
  refine Met.ofW (cc := cX2_takeBack) (maxL := 2) (ret := (some .boolean)) (by decide) rfl ?_
  intro p e s m args below meth c s₁ B hml hv
  obtain ⟨hav, hsz, hP, hK, hD0, hN⟩ := hv
  have hx := B.exec
  have hb := B.bytes
  have hr := B.returns
  have hts := atoms_spec (ws := wsX2_takeBack) B.pre
  have hown : s.vm.findClass RX2 = some m.cls := findClass_of_methodNamed B.named
  have hlocks := B.notSynchronized
  subst hsz
  have hA : ∀ q, s.heap.size ≤ q → va_A (ww_X2_takeBack cs ad raHy raHR raHS raS zD (fun _ => zD) zD) s.heap.size q := fun q h => Or.inr h
  have hD : va_D (va_A (ww_X2_takeBack cs ad raHy raHR raHS raS zD (fun _ => zD) zD) s.heap.size) (ww_X2_takeBack cs ad raHy raHR raHS raS Hy HS S) := hD0.weaken (fun k q h _ => cA_in (ws := (ww_X2_takeBack cs ad raHy raHR raHS raS Hy HS S)) (ws' := (ww_X2_takeBack cs ad raHy raHR raHS raS zD (fun _ => zD) zD)) rfl h)
  have hS : va_S (va_A (ww_X2_takeBack cs ad raHy raHR raHS raS zD (fun _ => zD) zD) s.heap.size) s.heap s.heap [] := va_S.rf
  have hinX2 := (show ∀ w ∈ wsX20, w ∈ wsX2_takeBack from fun w h => List.mem_cons_of_mem _ (List.mem_append_left _ (List.mem_append_right _ h)))
  have k_fieldLink_RX2_16__KeyLetters_History___size___I_ := hts (.fieldLink RX2 16 "KeyLetters$History" "size" "I") (List.mem_of_getElem? (i := 1) rfl)
  have k_fieldLink_RX2_20__KeyLetters_History___oldest___I_ := hts (.fieldLink RX2 20 "KeyLetters$History" "oldest" "I") (List.mem_of_getElem? (i := 3) rfl)
  have k_initialized_RX9 := hts (.initialized RX9) (List.mem_of_getElem? (i := 5) rfl)
  have k_instanceMethod_yX9_copyFrom := hts (.instanceMethod yX9_copyFrom) (List.mem_of_getElem? (i := 4) rfl)
  have k_selects_RX9_yX9_copyFrom_yX9_copyFrom := hts (.selects RX9 yX9_copyFrom yX9_copyFrom) (List.mem_of_getElem? (i := 6) rfl)
  have kk_RX2_11__KeyLetters_History___states____LKeyLetters_State__ := hts (.fieldLink RX2 11 "KeyLetters$History" "states" "[LKeyLetters$State;") (List.mem_of_getElem? (i := 2) rfl)
  have hl := lv_entry ([.ref (raHy 0), .ref (raS 0)]) (n := 2) (Nat.le_of_ble_eq_true rfl)
  rw [show entryFrame m args 2 = entryFrame m ([.ref (raHy 0), .ref (raS 0)] : List Value).toArray 2 from by rw [hav], lg_entry_eq]
  generalize (lg_sl ([.ref (raHy 0), .ref (raS 0)]) ++ List.replicate (2 - (lg_sl ([.ref (raHy 0), .ref (raS 0)])).length) Slot.unset).toArray = ls at hl ⊢
  have hl : lv_has ls 2 [(0, .ref (raHy 0)), (1, .ref (raS 0))] := hl
  unfold f_X2_takeBack at hf
  refine lv_aload_n hx hb dX2_takeBack_0 rfl (lv_at hl 0 rfl) ?_
  refine va_get (D := (dC, dI)) (ci := 3) (C := RX2) (T := TX2) (N := 3) hx hb hts hinX2 hown hK hP 0 rfl rfl 0 (by decide) (v := .int (Hy.1 0 0)) k_fieldLink_RX2_16__KeyLetters_History___size___I_ (fun _ h9 => h9) rfl dX2_takeBack_1 ?_
  refine lv_if_ne (tgt := 9) hx hb dX2_takeBack_4 (by decide) (fun hb27 => ?_) (fun hb27 => ?_)
  · have hf := (if_neg hb27).symm.trans hf
    refine lv_aload_n hx hb dX2_takeBack_9 rfl (lv_at hl 0 rfl) ?_
    refine lv_dup hx hb dX2_takeBack_10 rfl ?_
    refine va_get (D := (dC, dI)) (ci := 3) (C := RX2) (T := TX2) (N := 3) hx hb hts hinX2 hown hK hP 0 rfl rfl 0 (by decide) (v := .int (Hy.1 0 0)) k_fieldLink_RX2_16__KeyLetters_History___size___I_ (fun _ h9 => h9) rfl dX2_takeBack_11 ?_
    refine lv_iconst (v := 1) hx hb dX2_takeBack_14 (by decide) ?_
    refine lv_isub hx hb dX2_takeBack_15 ?_
    obtain ⟨Hyv1, eHyv1, hf⟩ := bd1_e hf
    refine g_put (D := (dC, dI)) (ci := 3) (C := RX2) (T := TX2) (N := 3) hx hb hts hinX2 tyX2 tyX2_ok nmX2 hown hK hP hD hS 0 rfl rfl 0 (by decide) k_fieldLink_RX2_16__KeyLetters_History___size___I_ (fun _ h9 => h9) rfl (ty := .int) (v := .int ((Hy.1 0 0) - (1 : Int32))) (by decide +kernel) rfl rfl (Nat.le_of_ble_eq_true rfl) (ws' := (ww_X2_takeBack cs ad raHy raHR raHS raS Hyv1 HS S)) (by rw [eHyv1]; rfl) dX2_takeBack_16 (fun H locs hP hD hS => ?_)
    refine lv_aload_n hx hb dX2_takeBack_19 rfl (lv_at hl 1 rfl) ?_
    refine lv_aload_n hx hb dX2_takeBack_20 rfl (lv_at hl 0 rfl) ?_
    refine va_get (D := (dC, dI)) (ci := 3) (C := RX2) (T := TX2) (N := 3) hx hb hts hinX2 hown hK hP 0 rfl rfl 2 (by decide) (v := .ref raHR) kk_RX2_11__KeyLetters_History___states____LKeyLetters_State__ (fun _ h9 => h9) rfl dX2_takeBack_21 ?_
    refine lv_aload_n hx hb dX2_takeBack_24 rfl (lv_at hl 0 rfl) ?_
    refine va_get (D := (dC, dI)) (ci := 3) (C := RX2) (T := TX2) (N := 3) hx hb hts hinX2 hown hK hP 0 rfl rfl 1 (by decide) (v := .int (Hyv1.1 0 1)) k_fieldLink_RX2_20__KeyLetters_History___oldest___I_ (fun _ h9 => h9) rfl dX2_takeBack_25 ?_
    refine lv_aload_n hx hb dX2_takeBack_28 rfl (lv_at hl 0 rfl) ?_
    refine va_get (D := (dC, dI)) (ci := 3) (C := RX2) (T := TX2) (N := 3) hx hb hts hinX2 hown hK hP 0 rfl rfl 0 (by decide) (v := .int (Hyv1.1 0 0)) k_fieldLink_RX2_16__KeyLetters_History___size___I_ (fun _ h9 => h9) rfl dX2_takeBack_29 ?_
    refine lv_iadd hx hb dX2_takeBack_32 ?_
    refine lv_bipush (v := 8) hx hb dX2_takeBack_33 (by decide) ?_
    refine lv_irem hx hb dX2_takeBack_35 (by decide) ?_
    obtain ⟨v2, ev2, hf⟩ := bd1_e hf
    refine kt_i ev2 ?_
    by_cases hs5 : v2 = 0
    · have hf := (if_pos hs5).symm.trans hf
      rw [hs5]
      refine va_aldq (f := fun j => some (raHS j 0)) hx hb hK hP 1 5 rfl rfl (show ¬ ((0 : Int32) < 0 ∨ 8 ≤ (0 : Int32).toNatClampNeg) by decide +kernel) dX2_takeBack_36 ?_
      refine kt_v (show va_rf (some (raHS (0 : Int32).toNatClampNeg 0)) = Value.ref (raHS 0 0) from rfl) ?_
      obtain ⟨Sv4, hq3, hf⟩ := bo_e hf
      refine g_callv (isC := [42, 43, 44, 45, 46, 2, 3, 4, 5, 6]) (isR := [0, 1, 7, 8, 9, 10, 11, 12, 13, 14, 15, 16, 17, 18, 19, 20, 21, 22, 23, 24, 25, 26, 27, 28, 29, 30, 31, 32, 33, 34, 35, 36, 37, 38, 39, 40, 41]) (wc := (ww_X9_copyFrom cs ad raS (raHS 0) S (HS 0))) (wz := (ww_X9_copyFrom cs ad raS (raHS 0) zD zD)) (w1 := (ww_X9_copyFrom cs ad raS (raHS 0) Sv4 (HS 0))) (ws' := (ww_X2_takeBack cs ad raHy raHR raHS raS Hyv1 HS Sv4)) (va_runVN (As := [.ref (raHS 0 0)]) (rest := []) ⟨hx, hb, hml, hown, hts⟩ (c_X9_copyFrom l dC dI cs ad raS (raHS 0) _ S (HS 0) Sv4 hq3) ⟨va_cnB 1 hts gX2_takeBack_X9_copyFrom_n23 rfl rfl rfl (hN _ (List.mem_of_getElem? (i := 102) rfl)) k_initialized_RX9 (by decide +kernel) ⟨Nat.le_of_ble_eq_true rfl, Nat.le_of_ble_eq_true rfl⟩, k_instanceMethod_yX9_copyFrom, k_selects_RX9_yX9_copyFrom_yX9_copyFrom⟩ ⟨fun a U g mk q => ⟨q.1, (fun _ _ _ _ => cPw_bl) a U g mk q.2⟩, va_recv hK hP (ci := 10) (q0 := 42) rfl rfl, fun U hU hW => ⟨rfl, ⟨by rw [hU], by rw [hU]; exact (hP.sub (ws' := (ww_X9_copyFrom cs ad raS (raHS 0) S (HS 0))) [42, 43, 44, 45, 46, 2, 3, 4, 5, 6] rfl), va_K.moved hW.alike hK, (hD.sub (ws' := (ww_X9_copyFrom cs ad raS (raHS 0) S (HS 0))) [42, 43, 44, 45, 46, 2, 3, 4, 5, 6] (by decide) rfl).weaken (fun _ _ _ _ => trivial), kN_warm hW hN⟩⟩⟩ rfl rfl hl.1 rfl (lv_room (Nat.le_of_ble_eq_true rfl)) dX2_takeBack_37 ⟨Nat.le_refl _, Nat.le_refl _⟩) hP hD hS hA rfl rfl (wr := ((wX2 cs ad raHy raHR Hyv1) ++ (([(raHR, .inl (cs 5, 8, .inr (.inr (.inr (.inr (fun j => some (raHS j 0)))))))]) ++ ([(raHS 1 0, .inr (10, fX9 ad (raHS 1) (HS 1))), (raHS 1 5, .inl (cs 1, 6, .inl ((HS 1).1 5))), (raHS 1 6, .inl (cs 1, 6, .inl ((HS 1).1 6))), (raHS 1 7, .inl (cs 1, 6, .inl ((HS 1).1 7))), (raHS 1 8, .inl (cs 1, 36, .inl ((HS 1).1 8))), (raHS 2 0, .inr (10, fX9 ad (raHS 2) (HS 2))), (raHS 2 5, .inl (cs 1, 6, .inl ((HS 2).1 5))), (raHS 2 6, .inl (cs 1, 6, .inl ((HS 2).1 6))), (raHS 2 7, .inl (cs 1, 6, .inl ((HS 2).1 7))), (raHS 2 8, .inl (cs 1, 36, .inl ((HS 2).1 8))), (raHS 3 0, .inr (10, fX9 ad (raHS 3) (HS 3))), (raHS 3 5, .inl (cs 1, 6, .inl ((HS 3).1 5))), (raHS 3 6, .inl (cs 1, 6, .inl ((HS 3).1 6))), (raHS 3 7, .inl (cs 1, 6, .inl ((HS 3).1 7))), (raHS 3 8, .inl (cs 1, 36, .inl ((HS 3).1 8))), (raHS 4 0, .inr (10, fX9 ad (raHS 4) (HS 4))), (raHS 4 5, .inl (cs 1, 6, .inl ((HS 4).1 5))), (raHS 4 6, .inl (cs 1, 6, .inl ((HS 4).1 6))), (raHS 4 7, .inl (cs 1, 6, .inl ((HS 4).1 7))), (raHS 4 8, .inl (cs 1, 36, .inl ((HS 4).1 8))), (raHS 5 0, .inr (10, fX9 ad (raHS 5) (HS 5))), (raHS 5 5, .inl (cs 1, 6, .inl ((HS 5).1 5))), (raHS 5 6, .inl (cs 1, 6, .inl ((HS 5).1 6))), (raHS 5 7, .inl (cs 1, 6, .inl ((HS 5).1 7))), (raHS 5 8, .inl (cs 1, 36, .inl ((HS 5).1 8))), (raHS 6 0, .inr (10, fX9 ad (raHS 6) (HS 6))), (raHS 6 5, .inl (cs 1, 6, .inl ((HS 6).1 5))), (raHS 6 6, .inl (cs 1, 6, .inl ((HS 6).1 6))), (raHS 6 7, .inl (cs 1, 6, .inl ((HS 6).1 7))), (raHS 6 8, .inl (cs 1, 36, .inl ((HS 6).1 8))), (raHS 7 0, .inr (10, fX9 ad (raHS 7) (HS 7))), (raHS 7 5, .inl (cs 1, 6, .inl ((HS 7).1 5))), (raHS 7 6, .inl (cs 1, 6, .inl ((HS 7).1 6))), (raHS 7 7, .inl (cs 1, 6, .inl ((HS 7).1 7))), (raHS 7 8, .inl (cs 1, 36, .inl ((HS 7).1 8)))])))) rfl rfl rfl (nw := 47) rfl (by decide +kernel) rfl (fun H locs hP hD hS => ?_)
      refine lv_iconst (v := 1) hx hb dX2_takeBack_40 (by decide) ?_
      have hf := Option.some.inj hf
      subst hf
      exact c_zret (v := (1 : Int32)) hx hb hr rfl hlocks hP hK hD hS dX2_takeBack_41
    have hf := (if_neg hs5).symm.trans hf
    by_cases hs8 : v2 = 1
    · have hf := (if_pos hs8).symm.trans hf
      rw [hs8]
      refine va_aldq (f := fun j => some (raHS j 0)) hx hb hK hP 1 5 rfl rfl (show ¬ ((1 : Int32) < 0 ∨ 8 ≤ (1 : Int32).toNatClampNeg) by decide +kernel) dX2_takeBack_36 ?_
      refine kt_v (show va_rf (some (raHS (1 : Int32).toNatClampNeg 0)) = Value.ref (raHS 1 0) from rfl) ?_
      obtain ⟨Sv7, hq6, hf⟩ := bo_e hf
      refine g_callv (isC := [42, 43, 44, 45, 46, 7, 8, 9, 10, 11]) (isR := [0, 1, 2, 3, 4, 5, 6, 12, 13, 14, 15, 16, 17, 18, 19, 20, 21, 22, 23, 24, 25, 26, 27, 28, 29, 30, 31, 32, 33, 34, 35, 36, 37, 38, 39, 40, 41]) (wc := (ww_X9_copyFrom cs ad raS (raHS 1) S (HS 1))) (wz := (ww_X9_copyFrom cs ad raS (raHS 1) zD zD)) (w1 := (ww_X9_copyFrom cs ad raS (raHS 1) Sv7 (HS 1))) (ws' := (ww_X2_takeBack cs ad raHy raHR raHS raS Hyv1 HS Sv7)) (va_runVN (As := [.ref (raHS 1 0)]) (rest := []) ⟨hx, hb, hml, hown, hts⟩ (c_X9_copyFrom l dC dI cs ad raS (raHS 1) _ S (HS 1) Sv7 hq6) ⟨va_cnB 1 hts gX2_takeBack_X9_copyFrom_n23 rfl rfl rfl (hN _ (List.mem_of_getElem? (i := 102) rfl)) k_initialized_RX9 (by decide +kernel) ⟨Nat.le_of_ble_eq_true rfl, Nat.le_of_ble_eq_true rfl⟩, k_instanceMethod_yX9_copyFrom, k_selects_RX9_yX9_copyFrom_yX9_copyFrom⟩ ⟨fun a U g mk q => ⟨q.1, (fun _ _ _ _ => cPw_bl) a U g mk q.2⟩, va_recv hK hP (ci := 10) (q0 := 42) rfl rfl, fun U hU hW => ⟨rfl, ⟨by rw [hU], by rw [hU]; exact (hP.sub (ws' := (ww_X9_copyFrom cs ad raS (raHS 1) S (HS 1))) [42, 43, 44, 45, 46, 7, 8, 9, 10, 11] rfl), va_K.moved hW.alike hK, (hD.sub (ws' := (ww_X9_copyFrom cs ad raS (raHS 1) S (HS 1))) [42, 43, 44, 45, 46, 7, 8, 9, 10, 11] (by decide) rfl).weaken (fun _ _ _ _ => trivial), kN_warm hW hN⟩⟩⟩ rfl rfl hl.1 rfl (lv_room (Nat.le_of_ble_eq_true rfl)) dX2_takeBack_37 ⟨Nat.le_refl _, Nat.le_refl _⟩) hP hD hS hA rfl rfl (wr := ((wX2 cs ad raHy raHR Hyv1) ++ (([(raHR, .inl (cs 5, 8, .inr (.inr (.inr (.inr (fun j => some (raHS j 0)))))))]) ++ ([(raHS 0 0, .inr (10, fX9 ad (raHS 0) (HS 0))), (raHS 0 5, .inl (cs 1, 6, .inl ((HS 0).1 5))), (raHS 0 6, .inl (cs 1, 6, .inl ((HS 0).1 6))), (raHS 0 7, .inl (cs 1, 6, .inl ((HS 0).1 7))), (raHS 0 8, .inl (cs 1, 36, .inl ((HS 0).1 8))), (raHS 2 0, .inr (10, fX9 ad (raHS 2) (HS 2))), (raHS 2 5, .inl (cs 1, 6, .inl ((HS 2).1 5))), (raHS 2 6, .inl (cs 1, 6, .inl ((HS 2).1 6))), (raHS 2 7, .inl (cs 1, 6, .inl ((HS 2).1 7))), (raHS 2 8, .inl (cs 1, 36, .inl ((HS 2).1 8))), (raHS 3 0, .inr (10, fX9 ad (raHS 3) (HS 3))), (raHS 3 5, .inl (cs 1, 6, .inl ((HS 3).1 5))), (raHS 3 6, .inl (cs 1, 6, .inl ((HS 3).1 6))), (raHS 3 7, .inl (cs 1, 6, .inl ((HS 3).1 7))), (raHS 3 8, .inl (cs 1, 36, .inl ((HS 3).1 8))), (raHS 4 0, .inr (10, fX9 ad (raHS 4) (HS 4))), (raHS 4 5, .inl (cs 1, 6, .inl ((HS 4).1 5))), (raHS 4 6, .inl (cs 1, 6, .inl ((HS 4).1 6))), (raHS 4 7, .inl (cs 1, 6, .inl ((HS 4).1 7))), (raHS 4 8, .inl (cs 1, 36, .inl ((HS 4).1 8))), (raHS 5 0, .inr (10, fX9 ad (raHS 5) (HS 5))), (raHS 5 5, .inl (cs 1, 6, .inl ((HS 5).1 5))), (raHS 5 6, .inl (cs 1, 6, .inl ((HS 5).1 6))), (raHS 5 7, .inl (cs 1, 6, .inl ((HS 5).1 7))), (raHS 5 8, .inl (cs 1, 36, .inl ((HS 5).1 8))), (raHS 6 0, .inr (10, fX9 ad (raHS 6) (HS 6))), (raHS 6 5, .inl (cs 1, 6, .inl ((HS 6).1 5))), (raHS 6 6, .inl (cs 1, 6, .inl ((HS 6).1 6))), (raHS 6 7, .inl (cs 1, 6, .inl ((HS 6).1 7))), (raHS 6 8, .inl (cs 1, 36, .inl ((HS 6).1 8))), (raHS 7 0, .inr (10, fX9 ad (raHS 7) (HS 7))), (raHS 7 5, .inl (cs 1, 6, .inl ((HS 7).1 5))), (raHS 7 6, .inl (cs 1, 6, .inl ((HS 7).1 6))), (raHS 7 7, .inl (cs 1, 6, .inl ((HS 7).1 7))), (raHS 7 8, .inl (cs 1, 36, .inl ((HS 7).1 8)))])))) rfl rfl rfl (nw := 47) rfl (by decide +kernel) rfl (fun H locs hP hD hS => ?_)
      refine lv_iconst (v := 1) hx hb dX2_takeBack_40 (by decide) ?_
      have hf := Option.some.inj hf
      subst hf
      exact c_zret (v := (1 : Int32)) hx hb hr rfl hlocks hP hK hD hS dX2_takeBack_41
    have hf := (if_neg hs8).symm.trans hf
    by_cases hs11 : v2 = 2
    · have hf := (if_pos hs11).symm.trans hf
      rw [hs11]
      refine va_aldq (f := fun j => some (raHS j 0)) hx hb hK hP 1 5 rfl rfl (show ¬ ((2 : Int32) < 0 ∨ 8 ≤ (2 : Int32).toNatClampNeg) by decide +kernel) dX2_takeBack_36 ?_
      refine kt_v (show va_rf (some (raHS (2 : Int32).toNatClampNeg 0)) = Value.ref (raHS 2 0) from rfl) ?_
      obtain ⟨Sv10, hq9, hf⟩ := bo_e hf
      refine g_callv (isC := [42, 43, 44, 45, 46, 12, 13, 14, 15, 16]) (isR := [0, 1, 2, 3, 4, 5, 6, 7, 8, 9, 10, 11, 17, 18, 19, 20, 21, 22, 23, 24, 25, 26, 27, 28, 29, 30, 31, 32, 33, 34, 35, 36, 37, 38, 39, 40, 41]) (wc := (ww_X9_copyFrom cs ad raS (raHS 2) S (HS 2))) (wz := (ww_X9_copyFrom cs ad raS (raHS 2) zD zD)) (w1 := (ww_X9_copyFrom cs ad raS (raHS 2) Sv10 (HS 2))) (ws' := (ww_X2_takeBack cs ad raHy raHR raHS raS Hyv1 HS Sv10)) (va_runVN (As := [.ref (raHS 2 0)]) (rest := []) ⟨hx, hb, hml, hown, hts⟩ (c_X9_copyFrom l dC dI cs ad raS (raHS 2) _ S (HS 2) Sv10 hq9) ⟨va_cnB 1 hts gX2_takeBack_X9_copyFrom_n23 rfl rfl rfl (hN _ (List.mem_of_getElem? (i := 102) rfl)) k_initialized_RX9 (by decide +kernel) ⟨Nat.le_of_ble_eq_true rfl, Nat.le_of_ble_eq_true rfl⟩, k_instanceMethod_yX9_copyFrom, k_selects_RX9_yX9_copyFrom_yX9_copyFrom⟩ ⟨fun a U g mk q => ⟨q.1, (fun _ _ _ _ => cPw_bl) a U g mk q.2⟩, va_recv hK hP (ci := 10) (q0 := 42) rfl rfl, fun U hU hW => ⟨rfl, ⟨by rw [hU], by rw [hU]; exact (hP.sub (ws' := (ww_X9_copyFrom cs ad raS (raHS 2) S (HS 2))) [42, 43, 44, 45, 46, 12, 13, 14, 15, 16] rfl), va_K.moved hW.alike hK, (hD.sub (ws' := (ww_X9_copyFrom cs ad raS (raHS 2) S (HS 2))) [42, 43, 44, 45, 46, 12, 13, 14, 15, 16] (by decide) rfl).weaken (fun _ _ _ _ => trivial), kN_warm hW hN⟩⟩⟩ rfl rfl hl.1 rfl (lv_room (Nat.le_of_ble_eq_true rfl)) dX2_takeBack_37 ⟨Nat.le_refl _, Nat.le_refl _⟩) hP hD hS hA rfl rfl (wr := ((wX2 cs ad raHy raHR Hyv1) ++ (([(raHR, .inl (cs 5, 8, .inr (.inr (.inr (.inr (fun j => some (raHS j 0)))))))]) ++ ([(raHS 0 0, .inr (10, fX9 ad (raHS 0) (HS 0))), (raHS 0 5, .inl (cs 1, 6, .inl ((HS 0).1 5))), (raHS 0 6, .inl (cs 1, 6, .inl ((HS 0).1 6))), (raHS 0 7, .inl (cs 1, 6, .inl ((HS 0).1 7))), (raHS 0 8, .inl (cs 1, 36, .inl ((HS 0).1 8))), (raHS 1 0, .inr (10, fX9 ad (raHS 1) (HS 1))), (raHS 1 5, .inl (cs 1, 6, .inl ((HS 1).1 5))), (raHS 1 6, .inl (cs 1, 6, .inl ((HS 1).1 6))), (raHS 1 7, .inl (cs 1, 6, .inl ((HS 1).1 7))), (raHS 1 8, .inl (cs 1, 36, .inl ((HS 1).1 8))), (raHS 3 0, .inr (10, fX9 ad (raHS 3) (HS 3))), (raHS 3 5, .inl (cs 1, 6, .inl ((HS 3).1 5))), (raHS 3 6, .inl (cs 1, 6, .inl ((HS 3).1 6))), (raHS 3 7, .inl (cs 1, 6, .inl ((HS 3).1 7))), (raHS 3 8, .inl (cs 1, 36, .inl ((HS 3).1 8))), (raHS 4 0, .inr (10, fX9 ad (raHS 4) (HS 4))), (raHS 4 5, .inl (cs 1, 6, .inl ((HS 4).1 5))), (raHS 4 6, .inl (cs 1, 6, .inl ((HS 4).1 6))), (raHS 4 7, .inl (cs 1, 6, .inl ((HS 4).1 7))), (raHS 4 8, .inl (cs 1, 36, .inl ((HS 4).1 8))), (raHS 5 0, .inr (10, fX9 ad (raHS 5) (HS 5))), (raHS 5 5, .inl (cs 1, 6, .inl ((HS 5).1 5))), (raHS 5 6, .inl (cs 1, 6, .inl ((HS 5).1 6))), (raHS 5 7, .inl (cs 1, 6, .inl ((HS 5).1 7))), (raHS 5 8, .inl (cs 1, 36, .inl ((HS 5).1 8))), (raHS 6 0, .inr (10, fX9 ad (raHS 6) (HS 6))), (raHS 6 5, .inl (cs 1, 6, .inl ((HS 6).1 5))), (raHS 6 6, .inl (cs 1, 6, .inl ((HS 6).1 6))), (raHS 6 7, .inl (cs 1, 6, .inl ((HS 6).1 7))), (raHS 6 8, .inl (cs 1, 36, .inl ((HS 6).1 8))), (raHS 7 0, .inr (10, fX9 ad (raHS 7) (HS 7))), (raHS 7 5, .inl (cs 1, 6, .inl ((HS 7).1 5))), (raHS 7 6, .inl (cs 1, 6, .inl ((HS 7).1 6))), (raHS 7 7, .inl (cs 1, 6, .inl ((HS 7).1 7))), (raHS 7 8, .inl (cs 1, 36, .inl ((HS 7).1 8)))])))) rfl rfl rfl (nw := 47) rfl (by decide +kernel) rfl (fun H locs hP hD hS => ?_)
      refine lv_iconst (v := 1) hx hb dX2_takeBack_40 (by decide) ?_
      have hf := Option.some.inj hf
      subst hf
      exact c_zret (v := (1 : Int32)) hx hb hr rfl hlocks hP hK hD hS dX2_takeBack_41
    have hf := (if_neg hs11).symm.trans hf
    by_cases hs14 : v2 = 3
    · have hf := (if_pos hs14).symm.trans hf
      rw [hs14]
      refine va_aldq (f := fun j => some (raHS j 0)) hx hb hK hP 1 5 rfl rfl (show ¬ ((3 : Int32) < 0 ∨ 8 ≤ (3 : Int32).toNatClampNeg) by decide +kernel) dX2_takeBack_36 ?_
      refine kt_v (show va_rf (some (raHS (3 : Int32).toNatClampNeg 0)) = Value.ref (raHS 3 0) from rfl) ?_
      obtain ⟨Sv13, hq12, hf⟩ := bo_e hf
      refine g_callv (isC := [42, 43, 44, 45, 46, 17, 18, 19, 20, 21]) (isR := [0, 1, 2, 3, 4, 5, 6, 7, 8, 9, 10, 11, 12, 13, 14, 15, 16, 22, 23, 24, 25, 26, 27, 28, 29, 30, 31, 32, 33, 34, 35, 36, 37, 38, 39, 40, 41]) (wc := (ww_X9_copyFrom cs ad raS (raHS 3) S (HS 3))) (wz := (ww_X9_copyFrom cs ad raS (raHS 3) zD zD)) (w1 := (ww_X9_copyFrom cs ad raS (raHS 3) Sv13 (HS 3))) (ws' := (ww_X2_takeBack cs ad raHy raHR raHS raS Hyv1 HS Sv13)) (va_runVN (As := [.ref (raHS 3 0)]) (rest := []) ⟨hx, hb, hml, hown, hts⟩ (c_X9_copyFrom l dC dI cs ad raS (raHS 3) _ S (HS 3) Sv13 hq12) ⟨va_cnB 1 hts gX2_takeBack_X9_copyFrom_n23 rfl rfl rfl (hN _ (List.mem_of_getElem? (i := 102) rfl)) k_initialized_RX9 (by decide +kernel) ⟨Nat.le_of_ble_eq_true rfl, Nat.le_of_ble_eq_true rfl⟩, k_instanceMethod_yX9_copyFrom, k_selects_RX9_yX9_copyFrom_yX9_copyFrom⟩ ⟨fun a U g mk q => ⟨q.1, (fun _ _ _ _ => cPw_bl) a U g mk q.2⟩, va_recv hK hP (ci := 10) (q0 := 42) rfl rfl, fun U hU hW => ⟨rfl, ⟨by rw [hU], by rw [hU]; exact (hP.sub (ws' := (ww_X9_copyFrom cs ad raS (raHS 3) S (HS 3))) [42, 43, 44, 45, 46, 17, 18, 19, 20, 21] rfl), va_K.moved hW.alike hK, (hD.sub (ws' := (ww_X9_copyFrom cs ad raS (raHS 3) S (HS 3))) [42, 43, 44, 45, 46, 17, 18, 19, 20, 21] (by decide) rfl).weaken (fun _ _ _ _ => trivial), kN_warm hW hN⟩⟩⟩ rfl rfl hl.1 rfl (lv_room (Nat.le_of_ble_eq_true rfl)) dX2_takeBack_37 ⟨Nat.le_refl _, Nat.le_refl _⟩) hP hD hS hA rfl rfl (wr := ((wX2 cs ad raHy raHR Hyv1) ++ (([(raHR, .inl (cs 5, 8, .inr (.inr (.inr (.inr (fun j => some (raHS j 0)))))))]) ++ ([(raHS 0 0, .inr (10, fX9 ad (raHS 0) (HS 0))), (raHS 0 5, .inl (cs 1, 6, .inl ((HS 0).1 5))), (raHS 0 6, .inl (cs 1, 6, .inl ((HS 0).1 6))), (raHS 0 7, .inl (cs 1, 6, .inl ((HS 0).1 7))), (raHS 0 8, .inl (cs 1, 36, .inl ((HS 0).1 8))), (raHS 1 0, .inr (10, fX9 ad (raHS 1) (HS 1))), (raHS 1 5, .inl (cs 1, 6, .inl ((HS 1).1 5))), (raHS 1 6, .inl (cs 1, 6, .inl ((HS 1).1 6))), (raHS 1 7, .inl (cs 1, 6, .inl ((HS 1).1 7))), (raHS 1 8, .inl (cs 1, 36, .inl ((HS 1).1 8))), (raHS 2 0, .inr (10, fX9 ad (raHS 2) (HS 2))), (raHS 2 5, .inl (cs 1, 6, .inl ((HS 2).1 5))), (raHS 2 6, .inl (cs 1, 6, .inl ((HS 2).1 6))), (raHS 2 7, .inl (cs 1, 6, .inl ((HS 2).1 7))), (raHS 2 8, .inl (cs 1, 36, .inl ((HS 2).1 8))), (raHS 4 0, .inr (10, fX9 ad (raHS 4) (HS 4))), (raHS 4 5, .inl (cs 1, 6, .inl ((HS 4).1 5))), (raHS 4 6, .inl (cs 1, 6, .inl ((HS 4).1 6))), (raHS 4 7, .inl (cs 1, 6, .inl ((HS 4).1 7))), (raHS 4 8, .inl (cs 1, 36, .inl ((HS 4).1 8))), (raHS 5 0, .inr (10, fX9 ad (raHS 5) (HS 5))), (raHS 5 5, .inl (cs 1, 6, .inl ((HS 5).1 5))), (raHS 5 6, .inl (cs 1, 6, .inl ((HS 5).1 6))), (raHS 5 7, .inl (cs 1, 6, .inl ((HS 5).1 7))), (raHS 5 8, .inl (cs 1, 36, .inl ((HS 5).1 8))), (raHS 6 0, .inr (10, fX9 ad (raHS 6) (HS 6))), (raHS 6 5, .inl (cs 1, 6, .inl ((HS 6).1 5))), (raHS 6 6, .inl (cs 1, 6, .inl ((HS 6).1 6))), (raHS 6 7, .inl (cs 1, 6, .inl ((HS 6).1 7))), (raHS 6 8, .inl (cs 1, 36, .inl ((HS 6).1 8))), (raHS 7 0, .inr (10, fX9 ad (raHS 7) (HS 7))), (raHS 7 5, .inl (cs 1, 6, .inl ((HS 7).1 5))), (raHS 7 6, .inl (cs 1, 6, .inl ((HS 7).1 6))), (raHS 7 7, .inl (cs 1, 6, .inl ((HS 7).1 7))), (raHS 7 8, .inl (cs 1, 36, .inl ((HS 7).1 8)))])))) rfl rfl rfl (nw := 47) rfl (by decide +kernel) rfl (fun H locs hP hD hS => ?_)
      refine lv_iconst (v := 1) hx hb dX2_takeBack_40 (by decide) ?_
      have hf := Option.some.inj hf
      subst hf
      exact c_zret (v := (1 : Int32)) hx hb hr rfl hlocks hP hK hD hS dX2_takeBack_41
    have hf := (if_neg hs14).symm.trans hf
    by_cases hs17 : v2 = 4
    · have hf := (if_pos hs17).symm.trans hf
      rw [hs17]
      refine va_aldq (f := fun j => some (raHS j 0)) hx hb hK hP 1 5 rfl rfl (show ¬ ((4 : Int32) < 0 ∨ 8 ≤ (4 : Int32).toNatClampNeg) by decide +kernel) dX2_takeBack_36 ?_
      refine kt_v (show va_rf (some (raHS (4 : Int32).toNatClampNeg 0)) = Value.ref (raHS 4 0) from rfl) ?_
      obtain ⟨Sv16, hq15, hf⟩ := bo_e hf
      refine g_callv (isC := [42, 43, 44, 45, 46, 22, 23, 24, 25, 26]) (isR := [0, 1, 2, 3, 4, 5, 6, 7, 8, 9, 10, 11, 12, 13, 14, 15, 16, 17, 18, 19, 20, 21, 27, 28, 29, 30, 31, 32, 33, 34, 35, 36, 37, 38, 39, 40, 41]) (wc := (ww_X9_copyFrom cs ad raS (raHS 4) S (HS 4))) (wz := (ww_X9_copyFrom cs ad raS (raHS 4) zD zD)) (w1 := (ww_X9_copyFrom cs ad raS (raHS 4) Sv16 (HS 4))) (ws' := (ww_X2_takeBack cs ad raHy raHR raHS raS Hyv1 HS Sv16)) (va_runVN (As := [.ref (raHS 4 0)]) (rest := []) ⟨hx, hb, hml, hown, hts⟩ (c_X9_copyFrom l dC dI cs ad raS (raHS 4) _ S (HS 4) Sv16 hq15) ⟨va_cnB 1 hts gX2_takeBack_X9_copyFrom_n23 rfl rfl rfl (hN _ (List.mem_of_getElem? (i := 102) rfl)) k_initialized_RX9 (by decide +kernel) ⟨Nat.le_of_ble_eq_true rfl, Nat.le_of_ble_eq_true rfl⟩, k_instanceMethod_yX9_copyFrom, k_selects_RX9_yX9_copyFrom_yX9_copyFrom⟩ ⟨fun a U g mk q => ⟨q.1, (fun _ _ _ _ => cPw_bl) a U g mk q.2⟩, va_recv hK hP (ci := 10) (q0 := 42) rfl rfl, fun U hU hW => ⟨rfl, ⟨by rw [hU], by rw [hU]; exact (hP.sub (ws' := (ww_X9_copyFrom cs ad raS (raHS 4) S (HS 4))) [42, 43, 44, 45, 46, 22, 23, 24, 25, 26] rfl), va_K.moved hW.alike hK, (hD.sub (ws' := (ww_X9_copyFrom cs ad raS (raHS 4) S (HS 4))) [42, 43, 44, 45, 46, 22, 23, 24, 25, 26] (by decide) rfl).weaken (fun _ _ _ _ => trivial), kN_warm hW hN⟩⟩⟩ rfl rfl hl.1 rfl (lv_room (Nat.le_of_ble_eq_true rfl)) dX2_takeBack_37 ⟨Nat.le_refl _, Nat.le_refl _⟩) hP hD hS hA rfl rfl (wr := ((wX2 cs ad raHy raHR Hyv1) ++ (([(raHR, .inl (cs 5, 8, .inr (.inr (.inr (.inr (fun j => some (raHS j 0)))))))]) ++ ([(raHS 0 0, .inr (10, fX9 ad (raHS 0) (HS 0))), (raHS 0 5, .inl (cs 1, 6, .inl ((HS 0).1 5))), (raHS 0 6, .inl (cs 1, 6, .inl ((HS 0).1 6))), (raHS 0 7, .inl (cs 1, 6, .inl ((HS 0).1 7))), (raHS 0 8, .inl (cs 1, 36, .inl ((HS 0).1 8))), (raHS 1 0, .inr (10, fX9 ad (raHS 1) (HS 1))), (raHS 1 5, .inl (cs 1, 6, .inl ((HS 1).1 5))), (raHS 1 6, .inl (cs 1, 6, .inl ((HS 1).1 6))), (raHS 1 7, .inl (cs 1, 6, .inl ((HS 1).1 7))), (raHS 1 8, .inl (cs 1, 36, .inl ((HS 1).1 8))), (raHS 2 0, .inr (10, fX9 ad (raHS 2) (HS 2))), (raHS 2 5, .inl (cs 1, 6, .inl ((HS 2).1 5))), (raHS 2 6, .inl (cs 1, 6, .inl ((HS 2).1 6))), (raHS 2 7, .inl (cs 1, 6, .inl ((HS 2).1 7))), (raHS 2 8, .inl (cs 1, 36, .inl ((HS 2).1 8))), (raHS 3 0, .inr (10, fX9 ad (raHS 3) (HS 3))), (raHS 3 5, .inl (cs 1, 6, .inl ((HS 3).1 5))), (raHS 3 6, .inl (cs 1, 6, .inl ((HS 3).1 6))), (raHS 3 7, .inl (cs 1, 6, .inl ((HS 3).1 7))), (raHS 3 8, .inl (cs 1, 36, .inl ((HS 3).1 8))), (raHS 5 0, .inr (10, fX9 ad (raHS 5) (HS 5))), (raHS 5 5, .inl (cs 1, 6, .inl ((HS 5).1 5))), (raHS 5 6, .inl (cs 1, 6, .inl ((HS 5).1 6))), (raHS 5 7, .inl (cs 1, 6, .inl ((HS 5).1 7))), (raHS 5 8, .inl (cs 1, 36, .inl ((HS 5).1 8))), (raHS 6 0, .inr (10, fX9 ad (raHS 6) (HS 6))), (raHS 6 5, .inl (cs 1, 6, .inl ((HS 6).1 5))), (raHS 6 6, .inl (cs 1, 6, .inl ((HS 6).1 6))), (raHS 6 7, .inl (cs 1, 6, .inl ((HS 6).1 7))), (raHS 6 8, .inl (cs 1, 36, .inl ((HS 6).1 8))), (raHS 7 0, .inr (10, fX9 ad (raHS 7) (HS 7))), (raHS 7 5, .inl (cs 1, 6, .inl ((HS 7).1 5))), (raHS 7 6, .inl (cs 1, 6, .inl ((HS 7).1 6))), (raHS 7 7, .inl (cs 1, 6, .inl ((HS 7).1 7))), (raHS 7 8, .inl (cs 1, 36, .inl ((HS 7).1 8)))])))) rfl rfl rfl (nw := 47) rfl (by decide +kernel) rfl (fun H locs hP hD hS => ?_)
      refine lv_iconst (v := 1) hx hb dX2_takeBack_40 (by decide) ?_
      have hf := Option.some.inj hf
      subst hf
      exact c_zret (v := (1 : Int32)) hx hb hr rfl hlocks hP hK hD hS dX2_takeBack_41
    have hf := (if_neg hs17).symm.trans hf
    by_cases hs20 : v2 = 5
    · have hf := (if_pos hs20).symm.trans hf
      rw [hs20]
      refine va_aldq (f := fun j => some (raHS j 0)) hx hb hK hP 1 5 rfl rfl (show ¬ ((5 : Int32) < 0 ∨ 8 ≤ (5 : Int32).toNatClampNeg) by decide +kernel) dX2_takeBack_36 ?_
      refine kt_v (show va_rf (some (raHS (5 : Int32).toNatClampNeg 0)) = Value.ref (raHS 5 0) from rfl) ?_
      obtain ⟨Sv19, hq18, hf⟩ := bo_e hf
      refine g_callv (isC := [42, 43, 44, 45, 46, 27, 28, 29, 30, 31]) (isR := [0, 1, 2, 3, 4, 5, 6, 7, 8, 9, 10, 11, 12, 13, 14, 15, 16, 17, 18, 19, 20, 21, 22, 23, 24, 25, 26, 32, 33, 34, 35, 36, 37, 38, 39, 40, 41]) (wc := (ww_X9_copyFrom cs ad raS (raHS 5) S (HS 5))) (wz := (ww_X9_copyFrom cs ad raS (raHS 5) zD zD)) (w1 := (ww_X9_copyFrom cs ad raS (raHS 5) Sv19 (HS 5))) (ws' := (ww_X2_takeBack cs ad raHy raHR raHS raS Hyv1 HS Sv19)) (va_runVN (As := [.ref (raHS 5 0)]) (rest := []) ⟨hx, hb, hml, hown, hts⟩ (c_X9_copyFrom l dC dI cs ad raS (raHS 5) _ S (HS 5) Sv19 hq18) ⟨va_cnB 1 hts gX2_takeBack_X9_copyFrom_n23 rfl rfl rfl (hN _ (List.mem_of_getElem? (i := 102) rfl)) k_initialized_RX9 (by decide +kernel) ⟨Nat.le_of_ble_eq_true rfl, Nat.le_of_ble_eq_true rfl⟩, k_instanceMethod_yX9_copyFrom, k_selects_RX9_yX9_copyFrom_yX9_copyFrom⟩ ⟨fun a U g mk q => ⟨q.1, (fun _ _ _ _ => cPw_bl) a U g mk q.2⟩, va_recv hK hP (ci := 10) (q0 := 42) rfl rfl, fun U hU hW => ⟨rfl, ⟨by rw [hU], by rw [hU]; exact (hP.sub (ws' := (ww_X9_copyFrom cs ad raS (raHS 5) S (HS 5))) [42, 43, 44, 45, 46, 27, 28, 29, 30, 31] rfl), va_K.moved hW.alike hK, (hD.sub (ws' := (ww_X9_copyFrom cs ad raS (raHS 5) S (HS 5))) [42, 43, 44, 45, 46, 27, 28, 29, 30, 31] (by decide) rfl).weaken (fun _ _ _ _ => trivial), kN_warm hW hN⟩⟩⟩ rfl rfl hl.1 rfl (lv_room (Nat.le_of_ble_eq_true rfl)) dX2_takeBack_37 ⟨Nat.le_refl _, Nat.le_refl _⟩) hP hD hS hA rfl rfl (wr := ((wX2 cs ad raHy raHR Hyv1) ++ (([(raHR, .inl (cs 5, 8, .inr (.inr (.inr (.inr (fun j => some (raHS j 0)))))))]) ++ ([(raHS 0 0, .inr (10, fX9 ad (raHS 0) (HS 0))), (raHS 0 5, .inl (cs 1, 6, .inl ((HS 0).1 5))), (raHS 0 6, .inl (cs 1, 6, .inl ((HS 0).1 6))), (raHS 0 7, .inl (cs 1, 6, .inl ((HS 0).1 7))), (raHS 0 8, .inl (cs 1, 36, .inl ((HS 0).1 8))), (raHS 1 0, .inr (10, fX9 ad (raHS 1) (HS 1))), (raHS 1 5, .inl (cs 1, 6, .inl ((HS 1).1 5))), (raHS 1 6, .inl (cs 1, 6, .inl ((HS 1).1 6))), (raHS 1 7, .inl (cs 1, 6, .inl ((HS 1).1 7))), (raHS 1 8, .inl (cs 1, 36, .inl ((HS 1).1 8))), (raHS 2 0, .inr (10, fX9 ad (raHS 2) (HS 2))), (raHS 2 5, .inl (cs 1, 6, .inl ((HS 2).1 5))), (raHS 2 6, .inl (cs 1, 6, .inl ((HS 2).1 6))), (raHS 2 7, .inl (cs 1, 6, .inl ((HS 2).1 7))), (raHS 2 8, .inl (cs 1, 36, .inl ((HS 2).1 8))), (raHS 3 0, .inr (10, fX9 ad (raHS 3) (HS 3))), (raHS 3 5, .inl (cs 1, 6, .inl ((HS 3).1 5))), (raHS 3 6, .inl (cs 1, 6, .inl ((HS 3).1 6))), (raHS 3 7, .inl (cs 1, 6, .inl ((HS 3).1 7))), (raHS 3 8, .inl (cs 1, 36, .inl ((HS 3).1 8))), (raHS 4 0, .inr (10, fX9 ad (raHS 4) (HS 4))), (raHS 4 5, .inl (cs 1, 6, .inl ((HS 4).1 5))), (raHS 4 6, .inl (cs 1, 6, .inl ((HS 4).1 6))), (raHS 4 7, .inl (cs 1, 6, .inl ((HS 4).1 7))), (raHS 4 8, .inl (cs 1, 36, .inl ((HS 4).1 8))), (raHS 6 0, .inr (10, fX9 ad (raHS 6) (HS 6))), (raHS 6 5, .inl (cs 1, 6, .inl ((HS 6).1 5))), (raHS 6 6, .inl (cs 1, 6, .inl ((HS 6).1 6))), (raHS 6 7, .inl (cs 1, 6, .inl ((HS 6).1 7))), (raHS 6 8, .inl (cs 1, 36, .inl ((HS 6).1 8))), (raHS 7 0, .inr (10, fX9 ad (raHS 7) (HS 7))), (raHS 7 5, .inl (cs 1, 6, .inl ((HS 7).1 5))), (raHS 7 6, .inl (cs 1, 6, .inl ((HS 7).1 6))), (raHS 7 7, .inl (cs 1, 6, .inl ((HS 7).1 7))), (raHS 7 8, .inl (cs 1, 36, .inl ((HS 7).1 8)))])))) rfl rfl rfl (nw := 47) rfl (by decide +kernel) rfl (fun H locs hP hD hS => ?_)
      refine lv_iconst (v := 1) hx hb dX2_takeBack_40 (by decide) ?_
      have hf := Option.some.inj hf
      subst hf
      exact c_zret (v := (1 : Int32)) hx hb hr rfl hlocks hP hK hD hS dX2_takeBack_41
    have hf := (if_neg hs20).symm.trans hf
    by_cases hs23 : v2 = 6
    · have hf := (if_pos hs23).symm.trans hf
      rw [hs23]
      refine va_aldq (f := fun j => some (raHS j 0)) hx hb hK hP 1 5 rfl rfl (show ¬ ((6 : Int32) < 0 ∨ 8 ≤ (6 : Int32).toNatClampNeg) by decide +kernel) dX2_takeBack_36 ?_
      refine kt_v (show va_rf (some (raHS (6 : Int32).toNatClampNeg 0)) = Value.ref (raHS 6 0) from rfl) ?_
      obtain ⟨Sv22, hq21, hf⟩ := bo_e hf
      refine g_callv (isC := [42, 43, 44, 45, 46, 32, 33, 34, 35, 36]) (isR := [0, 1, 2, 3, 4, 5, 6, 7, 8, 9, 10, 11, 12, 13, 14, 15, 16, 17, 18, 19, 20, 21, 22, 23, 24, 25, 26, 27, 28, 29, 30, 31, 37, 38, 39, 40, 41]) (wc := (ww_X9_copyFrom cs ad raS (raHS 6) S (HS 6))) (wz := (ww_X9_copyFrom cs ad raS (raHS 6) zD zD)) (w1 := (ww_X9_copyFrom cs ad raS (raHS 6) Sv22 (HS 6))) (ws' := (ww_X2_takeBack cs ad raHy raHR raHS raS Hyv1 HS Sv22)) (va_runVN (As := [.ref (raHS 6 0)]) (rest := []) ⟨hx, hb, hml, hown, hts⟩ (c_X9_copyFrom l dC dI cs ad raS (raHS 6) _ S (HS 6) Sv22 hq21) ⟨va_cnB 1 hts gX2_takeBack_X9_copyFrom_n23 rfl rfl rfl (hN _ (List.mem_of_getElem? (i := 102) rfl)) k_initialized_RX9 (by decide +kernel) ⟨Nat.le_of_ble_eq_true rfl, Nat.le_of_ble_eq_true rfl⟩, k_instanceMethod_yX9_copyFrom, k_selects_RX9_yX9_copyFrom_yX9_copyFrom⟩ ⟨fun a U g mk q => ⟨q.1, (fun _ _ _ _ => cPw_bl) a U g mk q.2⟩, va_recv hK hP (ci := 10) (q0 := 42) rfl rfl, fun U hU hW => ⟨rfl, ⟨by rw [hU], by rw [hU]; exact (hP.sub (ws' := (ww_X9_copyFrom cs ad raS (raHS 6) S (HS 6))) [42, 43, 44, 45, 46, 32, 33, 34, 35, 36] rfl), va_K.moved hW.alike hK, (hD.sub (ws' := (ww_X9_copyFrom cs ad raS (raHS 6) S (HS 6))) [42, 43, 44, 45, 46, 32, 33, 34, 35, 36] (by decide) rfl).weaken (fun _ _ _ _ => trivial), kN_warm hW hN⟩⟩⟩ rfl rfl hl.1 rfl (lv_room (Nat.le_of_ble_eq_true rfl)) dX2_takeBack_37 ⟨Nat.le_refl _, Nat.le_refl _⟩) hP hD hS hA rfl rfl (wr := ((wX2 cs ad raHy raHR Hyv1) ++ (([(raHR, .inl (cs 5, 8, .inr (.inr (.inr (.inr (fun j => some (raHS j 0)))))))]) ++ ([(raHS 0 0, .inr (10, fX9 ad (raHS 0) (HS 0))), (raHS 0 5, .inl (cs 1, 6, .inl ((HS 0).1 5))), (raHS 0 6, .inl (cs 1, 6, .inl ((HS 0).1 6))), (raHS 0 7, .inl (cs 1, 6, .inl ((HS 0).1 7))), (raHS 0 8, .inl (cs 1, 36, .inl ((HS 0).1 8))), (raHS 1 0, .inr (10, fX9 ad (raHS 1) (HS 1))), (raHS 1 5, .inl (cs 1, 6, .inl ((HS 1).1 5))), (raHS 1 6, .inl (cs 1, 6, .inl ((HS 1).1 6))), (raHS 1 7, .inl (cs 1, 6, .inl ((HS 1).1 7))), (raHS 1 8, .inl (cs 1, 36, .inl ((HS 1).1 8))), (raHS 2 0, .inr (10, fX9 ad (raHS 2) (HS 2))), (raHS 2 5, .inl (cs 1, 6, .inl ((HS 2).1 5))), (raHS 2 6, .inl (cs 1, 6, .inl ((HS 2).1 6))), (raHS 2 7, .inl (cs 1, 6, .inl ((HS 2).1 7))), (raHS 2 8, .inl (cs 1, 36, .inl ((HS 2).1 8))), (raHS 3 0, .inr (10, fX9 ad (raHS 3) (HS 3))), (raHS 3 5, .inl (cs 1, 6, .inl ((HS 3).1 5))), (raHS 3 6, .inl (cs 1, 6, .inl ((HS 3).1 6))), (raHS 3 7, .inl (cs 1, 6, .inl ((HS 3).1 7))), (raHS 3 8, .inl (cs 1, 36, .inl ((HS 3).1 8))), (raHS 4 0, .inr (10, fX9 ad (raHS 4) (HS 4))), (raHS 4 5, .inl (cs 1, 6, .inl ((HS 4).1 5))), (raHS 4 6, .inl (cs 1, 6, .inl ((HS 4).1 6))), (raHS 4 7, .inl (cs 1, 6, .inl ((HS 4).1 7))), (raHS 4 8, .inl (cs 1, 36, .inl ((HS 4).1 8))), (raHS 5 0, .inr (10, fX9 ad (raHS 5) (HS 5))), (raHS 5 5, .inl (cs 1, 6, .inl ((HS 5).1 5))), (raHS 5 6, .inl (cs 1, 6, .inl ((HS 5).1 6))), (raHS 5 7, .inl (cs 1, 6, .inl ((HS 5).1 7))), (raHS 5 8, .inl (cs 1, 36, .inl ((HS 5).1 8))), (raHS 7 0, .inr (10, fX9 ad (raHS 7) (HS 7))), (raHS 7 5, .inl (cs 1, 6, .inl ((HS 7).1 5))), (raHS 7 6, .inl (cs 1, 6, .inl ((HS 7).1 6))), (raHS 7 7, .inl (cs 1, 6, .inl ((HS 7).1 7))), (raHS 7 8, .inl (cs 1, 36, .inl ((HS 7).1 8)))])))) rfl rfl rfl (nw := 47) rfl (by decide +kernel) rfl (fun H locs hP hD hS => ?_)
      refine lv_iconst (v := 1) hx hb dX2_takeBack_40 (by decide) ?_
      have hf := Option.some.inj hf
      subst hf
      exact c_zret (v := (1 : Int32)) hx hb hr rfl hlocks hP hK hD hS dX2_takeBack_41
    have hf := (if_neg hs23).symm.trans hf
    by_cases hs26 : v2 = 7
    · have hf := (if_pos hs26).symm.trans hf
      rw [hs26]
      refine va_aldq (f := fun j => some (raHS j 0)) hx hb hK hP 1 5 rfl rfl (show ¬ ((7 : Int32) < 0 ∨ 8 ≤ (7 : Int32).toNatClampNeg) by decide +kernel) dX2_takeBack_36 ?_
      refine kt_v (show va_rf (some (raHS (7 : Int32).toNatClampNeg 0)) = Value.ref (raHS 7 0) from rfl) ?_
      obtain ⟨Sv25, hq24, hf⟩ := bo_e hf
      refine g_callv (isC := [42, 43, 44, 45, 46, 37, 38, 39, 40, 41]) (isR := [0, 1, 2, 3, 4, 5, 6, 7, 8, 9, 10, 11, 12, 13, 14, 15, 16, 17, 18, 19, 20, 21, 22, 23, 24, 25, 26, 27, 28, 29, 30, 31, 32, 33, 34, 35, 36]) (wc := (ww_X9_copyFrom cs ad raS (raHS 7) S (HS 7))) (wz := (ww_X9_copyFrom cs ad raS (raHS 7) zD zD)) (w1 := (ww_X9_copyFrom cs ad raS (raHS 7) Sv25 (HS 7))) (ws' := (ww_X2_takeBack cs ad raHy raHR raHS raS Hyv1 HS Sv25)) (va_runVN (As := [.ref (raHS 7 0)]) (rest := []) ⟨hx, hb, hml, hown, hts⟩ (c_X9_copyFrom l dC dI cs ad raS (raHS 7) _ S (HS 7) Sv25 hq24) ⟨va_cnB 1 hts gX2_takeBack_X9_copyFrom_n23 rfl rfl rfl (hN _ (List.mem_of_getElem? (i := 102) rfl)) k_initialized_RX9 (by decide +kernel) ⟨Nat.le_of_ble_eq_true rfl, Nat.le_of_ble_eq_true rfl⟩, k_instanceMethod_yX9_copyFrom, k_selects_RX9_yX9_copyFrom_yX9_copyFrom⟩ ⟨fun a U g mk q => ⟨q.1, (fun _ _ _ _ => cPw_bl) a U g mk q.2⟩, va_recv hK hP (ci := 10) (q0 := 42) rfl rfl, fun U hU hW => ⟨rfl, ⟨by rw [hU], by rw [hU]; exact (hP.sub (ws' := (ww_X9_copyFrom cs ad raS (raHS 7) S (HS 7))) [42, 43, 44, 45, 46, 37, 38, 39, 40, 41] rfl), va_K.moved hW.alike hK, (hD.sub (ws' := (ww_X9_copyFrom cs ad raS (raHS 7) S (HS 7))) [42, 43, 44, 45, 46, 37, 38, 39, 40, 41] (by decide) rfl).weaken (fun _ _ _ _ => trivial), kN_warm hW hN⟩⟩⟩ rfl rfl hl.1 rfl (lv_room (Nat.le_of_ble_eq_true rfl)) dX2_takeBack_37 ⟨Nat.le_refl _, Nat.le_refl _⟩) hP hD hS hA rfl rfl (wr := ((wX2 cs ad raHy raHR Hyv1) ++ (([(raHR, .inl (cs 5, 8, .inr (.inr (.inr (.inr (fun j => some (raHS j 0)))))))]) ++ ([(raHS 0 0, .inr (10, fX9 ad (raHS 0) (HS 0))), (raHS 0 5, .inl (cs 1, 6, .inl ((HS 0).1 5))), (raHS 0 6, .inl (cs 1, 6, .inl ((HS 0).1 6))), (raHS 0 7, .inl (cs 1, 6, .inl ((HS 0).1 7))), (raHS 0 8, .inl (cs 1, 36, .inl ((HS 0).1 8))), (raHS 1 0, .inr (10, fX9 ad (raHS 1) (HS 1))), (raHS 1 5, .inl (cs 1, 6, .inl ((HS 1).1 5))), (raHS 1 6, .inl (cs 1, 6, .inl ((HS 1).1 6))), (raHS 1 7, .inl (cs 1, 6, .inl ((HS 1).1 7))), (raHS 1 8, .inl (cs 1, 36, .inl ((HS 1).1 8))), (raHS 2 0, .inr (10, fX9 ad (raHS 2) (HS 2))), (raHS 2 5, .inl (cs 1, 6, .inl ((HS 2).1 5))), (raHS 2 6, .inl (cs 1, 6, .inl ((HS 2).1 6))), (raHS 2 7, .inl (cs 1, 6, .inl ((HS 2).1 7))), (raHS 2 8, .inl (cs 1, 36, .inl ((HS 2).1 8))), (raHS 3 0, .inr (10, fX9 ad (raHS 3) (HS 3))), (raHS 3 5, .inl (cs 1, 6, .inl ((HS 3).1 5))), (raHS 3 6, .inl (cs 1, 6, .inl ((HS 3).1 6))), (raHS 3 7, .inl (cs 1, 6, .inl ((HS 3).1 7))), (raHS 3 8, .inl (cs 1, 36, .inl ((HS 3).1 8))), (raHS 4 0, .inr (10, fX9 ad (raHS 4) (HS 4))), (raHS 4 5, .inl (cs 1, 6, .inl ((HS 4).1 5))), (raHS 4 6, .inl (cs 1, 6, .inl ((HS 4).1 6))), (raHS 4 7, .inl (cs 1, 6, .inl ((HS 4).1 7))), (raHS 4 8, .inl (cs 1, 36, .inl ((HS 4).1 8))), (raHS 5 0, .inr (10, fX9 ad (raHS 5) (HS 5))), (raHS 5 5, .inl (cs 1, 6, .inl ((HS 5).1 5))), (raHS 5 6, .inl (cs 1, 6, .inl ((HS 5).1 6))), (raHS 5 7, .inl (cs 1, 6, .inl ((HS 5).1 7))), (raHS 5 8, .inl (cs 1, 36, .inl ((HS 5).1 8))), (raHS 6 0, .inr (10, fX9 ad (raHS 6) (HS 6))), (raHS 6 5, .inl (cs 1, 6, .inl ((HS 6).1 5))), (raHS 6 6, .inl (cs 1, 6, .inl ((HS 6).1 6))), (raHS 6 7, .inl (cs 1, 6, .inl ((HS 6).1 7))), (raHS 6 8, .inl (cs 1, 36, .inl ((HS 6).1 8)))])))) rfl rfl rfl (nw := 47) rfl (by decide +kernel) rfl (fun H locs hP hD hS => ?_)
      refine lv_iconst (v := 1) hx hb dX2_takeBack_40 (by decide) ?_
      have hf := Option.some.inj hf
      subst hf
      exact c_zret (v := (1 : Int32)) hx hb hr rfl hlocks hP hK hD hS dX2_takeBack_41
    have hf := (if_neg hs26).symm.trans hf
    cases hf
  · have hf := (if_pos hb27).symm.trans hf
    refine lv_iconst (v := 0) hx hb dX2_takeBack_7 (by decide) ?_
    have hf := Option.some.inj hf
    subst hf
    exact c_zret (v := (0 : Int32)) hx hb hr rfl hlocks hP hK hD hS dX2_takeBack_8

def ww_X3_copyFrom (cs : Nat → ClassId) (ad : Nat → Nat) (raO : Nat → Nat) (raO2 : Nat → Nat) (O : kD) (O2 : kD) : va_W := (wX3 cs ad raO O ++ (wX3 cs ad raO2 O2))
abbrev rm_X3_copyFrom : Room := { frames := 1, cells := 0, slots := 0, locals := 40 }
set_option maxHeartbeats 4000000 in
set_option maxRecDepth 100000 in
theorem c_X3_copyFrom (l : Launch) (dC : Nat → ClassId) (dI : Nat → Nat → Nat) (cs : Nat → ClassId) (ad : Nat → Nat) (raO : Nat → Nat) (raO2 : Nat → Nat) (sz : Nat) (O : kD) (O2 : kD) (r : kD) (hf : f_X3_copyFrom O O2 = some r) : Met l yX3_copyFrom wsX3_copyFrom rm_X3_copyFrom (va_Pc [.ref (raO 0), .ref (raO2 0)] (cPw dC dI cs sz (ww_X3_copyFrom cs ad raO raO2 O O2))) (cQv dC dI cs (va_A (ww_X3_copyFrom cs ad raO raO2 zD zD) sz) (ww_X3_copyFrom cs ad raO raO2 r O2)) 0 0 (va_A (ww_X3_copyFrom cs ad raO raO2 zD zD) sz) := by
  refine Met.ofW (cc := cX3_copyFrom) (maxL := 2) (ret := none) (by decide) rfl ?_
  intro p e s m args below meth c s₁ B hml hv
  obtain ⟨hav, hsz, hP, hK, hD0, hN⟩ := hv
  have hx := B.exec
  have hb := B.bytes
  have hr := B.returns
  have hts := atoms_spec (ws := wsX3_copyFrom) B.pre
  have hown : s.vm.findClass RX3 = some m.cls := findClass_of_methodNamed B.named
  have hlocks := B.notSynchronized
  subst hsz
  have hA : ∀ q, s.heap.size ≤ q → va_A (ww_X3_copyFrom cs ad raO raO2 zD zD) s.heap.size q := fun q h => Or.inr h
  have hD : va_D (va_A (ww_X3_copyFrom cs ad raO raO2 zD zD) s.heap.size) (ww_X3_copyFrom cs ad raO raO2 O O2) := hD0.weaken (fun k q h _ => cA_in (ws := (ww_X3_copyFrom cs ad raO raO2 O O2)) (ws' := (ww_X3_copyFrom cs ad raO raO2 zD zD)) rfl h)
  have hS : va_S (va_A (ww_X3_copyFrom cs ad raO raO2 zD zD) s.heap.size) s.heap s.heap [] := va_S.rf
  have hinX3 := (show ∀ w ∈ wsX30, w ∈ wsX3_copyFrom from fun w h => List.mem_cons_of_mem _ (List.mem_append_right _ h))
  have k_fieldLink_RX3_15__KeyLetters_Office___ink____I_ := hts (.fieldLink RX3 15 "KeyLetters$Office" "ink" "[I") (List.mem_of_getElem? (i := 10) rfl)
  have k_fieldLink_RX3_19__KeyLetters_Office___known____I_ := hts (.fieldLink RX3 19 "KeyLetters$Office" "known" "[I") (List.mem_of_getElem? (i := 11) rfl)
  have k_fieldLink_RX3_22__KeyLetters_Office___phraseNames____J_ := hts (.fieldLink RX3 22 "KeyLetters$Office" "phraseNames" "[J") (List.mem_of_getElem? (i := 12) rfl)
  have k_fieldLink_RX3_25__KeyLetters_Office___sizes____I_ := hts (.fieldLink RX3 25 "KeyLetters$Office" "sizes" "[I") (List.mem_of_getElem? (i := 13) rfl)
  have k_fieldLink_RX3_28__KeyLetters_Office___claims____I_ := hts (.fieldLink RX3 28 "KeyLetters$Office" "claims" "[I") (List.mem_of_getElem? (i := 14) rfl)
  have k_fieldLink_RX3_31__KeyLetters_Office___answers____I_ := hts (.fieldLink RX3 31 "KeyLetters$Office" "answers" "[I") (List.mem_of_getElem? (i := 15) rfl)
  have k_fieldLink_RX3_34__KeyLetters_Office___lines___I_ := hts (.fieldLink RX3 34 "KeyLetters$Office" "lines" "I") (List.mem_of_getElem? (i := 1) rfl)
  have k_fieldLink_RX3_38__KeyLetters_Office___machines___I_ := hts (.fieldLink RX3 38 "KeyLetters$Office" "machines" "I") (List.mem_of_getElem? (i := 2) rfl)
  have k_fieldLink_RX3_41__KeyLetters_Office___phrases___I_ := hts (.fieldLink RX3 41 "KeyLetters$Office" "phrases" "I") (List.mem_of_getElem? (i := 3) rfl)
  have k_fieldLink_RX3_44__KeyLetters_Office___answersTold___I_ := hts (.fieldLink RX3 44 "KeyLetters$Office" "answersTold" "I") (List.mem_of_getElem? (i := 4) rfl)
  have k_fieldLink_RX3_9__KeyLetters_Office___machineNames____J_ := hts (.fieldLink RX3 9 "KeyLetters$Office" "machineNames" "[J") (List.mem_of_getElem? (i := 5) rfl)
  have k_initialized__java_lang_System_ := hts (.initialized "java/lang/System") (List.mem_of_getElem? (i := 9) rfl)
  have k_methodLink_RX3_47_arraycopyName := hts (.methodLink RX3 47 arraycopyName) (List.mem_of_getElem? (i := 6) rfl)
  have k_native_arraycopyName := hts (.native arraycopyName) (List.mem_of_getElem? (i := 7) rfl)
  have k_static_arraycopyName := hts (.static arraycopyName) (List.mem_of_getElem? (i := 8) rfl)
  have hl := lv_entry ([.ref (raO 0), .ref (raO2 0)]) (n := 2) (Nat.le_of_ble_eq_true rfl)
  rw [show entryFrame m args 2 = entryFrame m ([.ref (raO 0), .ref (raO2 0)] : List Value).toArray 2 from by rw [hav], lg_entry_eq]
  generalize (lg_sl ([.ref (raO 0), .ref (raO2 0)]) ++ List.replicate (2 - (lg_sl ([.ref (raO 0), .ref (raO2 0)])).length) Slot.unset).toArray = ls at hl ⊢
  have hl : lv_has ls 2 [(0, .ref (raO 0)), (1, .ref (raO2 0))] := hl
  unfold f_X3_copyFrom at hf
  refine lv_aload_n hx hb dX3_copyFrom_0 rfl (lv_at hl 0 rfl) ?_
  refine lv_aload_n hx hb dX3_copyFrom_1 rfl (lv_at hl 1 rfl) ?_
  refine va_get (D := (dC, dI)) (ci := 4) (C := RX3) (T := TX3) (N := 11) hx hb hts hinX3 hown hK hP 8 rfl rfl 0 (by decide) (v := .int (O2.1 0 0)) k_fieldLink_RX3_34__KeyLetters_Office___lines___I_ (fun _ h9 => h9) rfl dX3_copyFrom_2 ?_
  obtain ⟨Ov1, eOv1, hf⟩ := bd1_e hf
  refine g_put (D := (dC, dI)) (ci := 4) (C := RX3) (T := TX3) (N := 11) hx hb hts hinX3 tyX3 tyX3_ok nmX3 hown hK hP hD hS 0 rfl rfl 0 (by decide) k_fieldLink_RX3_34__KeyLetters_Office___lines___I_ (fun _ h9 => h9) rfl (ty := .int) (v := .int (O2.1 0 0)) (by decide +kernel) rfl rfl (Nat.le_of_ble_eq_true rfl) (ws' := (ww_X3_copyFrom cs ad raO raO2 Ov1 O2)) (by rw [eOv1]; rfl) dX3_copyFrom_5 (fun H locs hP hD hS => ?_)
  refine lv_aload_n hx hb dX3_copyFrom_8 rfl (lv_at hl 0 rfl) ?_
  refine lv_aload_n hx hb dX3_copyFrom_9 rfl (lv_at hl 1 rfl) ?_
  refine va_get (D := (dC, dI)) (ci := 4) (C := RX3) (T := TX3) (N := 11) hx hb hts hinX3 hown hK hP 8 rfl rfl 1 (by decide) (v := .int (O2.1 0 1)) k_fieldLink_RX3_38__KeyLetters_Office___machines___I_ (fun _ h9 => h9) rfl dX3_copyFrom_10 ?_
  obtain ⟨Ov2, eOv2, hf⟩ := bd1_e hf
  refine g_put (D := (dC, dI)) (ci := 4) (C := RX3) (T := TX3) (N := 11) hx hb hts hinX3 tyX3 tyX3_ok nmX3 hown hK hP hD hS 0 rfl rfl 1 (by decide) k_fieldLink_RX3_38__KeyLetters_Office___machines___I_ (fun _ h9 => h9) rfl (ty := .int) (v := .int (O2.1 0 1)) (by decide +kernel) rfl rfl (Nat.le_of_ble_eq_true rfl) (ws' := (ww_X3_copyFrom cs ad raO raO2 Ov2 O2)) (by rw [eOv2]; rfl) dX3_copyFrom_13 (fun H locs hP hD hS => ?_)
  refine lv_aload_n hx hb dX3_copyFrom_16 rfl (lv_at hl 0 rfl) ?_
  refine lv_aload_n hx hb dX3_copyFrom_17 rfl (lv_at hl 1 rfl) ?_
  refine va_get (D := (dC, dI)) (ci := 4) (C := RX3) (T := TX3) (N := 11) hx hb hts hinX3 hown hK hP 8 rfl rfl 2 (by decide) (v := .int (O2.1 0 2)) k_fieldLink_RX3_41__KeyLetters_Office___phrases___I_ (fun _ h9 => h9) rfl dX3_copyFrom_18 ?_
  obtain ⟨Ov3, eOv3, hf⟩ := bd1_e hf
  refine g_put (D := (dC, dI)) (ci := 4) (C := RX3) (T := TX3) (N := 11) hx hb hts hinX3 tyX3 tyX3_ok nmX3 hown hK hP hD hS 0 rfl rfl 2 (by decide) k_fieldLink_RX3_41__KeyLetters_Office___phrases___I_ (fun _ h9 => h9) rfl (ty := .int) (v := .int (O2.1 0 2)) (by decide +kernel) rfl rfl (Nat.le_of_ble_eq_true rfl) (ws' := (ww_X3_copyFrom cs ad raO raO2 Ov3 O2)) (by rw [eOv3]; rfl) dX3_copyFrom_21 (fun H locs hP hD hS => ?_)
  refine lv_aload_n hx hb dX3_copyFrom_24 rfl (lv_at hl 0 rfl) ?_
  refine lv_aload_n hx hb dX3_copyFrom_25 rfl (lv_at hl 1 rfl) ?_
  refine va_get (D := (dC, dI)) (ci := 4) (C := RX3) (T := TX3) (N := 11) hx hb hts hinX3 hown hK hP 8 rfl rfl 3 (by decide) (v := .int (O2.1 0 3)) k_fieldLink_RX3_44__KeyLetters_Office___answersTold___I_ (fun _ h9 => h9) rfl dX3_copyFrom_26 ?_
  obtain ⟨Ov4, eOv4, hf⟩ := bd1_e hf
  refine g_put (D := (dC, dI)) (ci := 4) (C := RX3) (T := TX3) (N := 11) hx hb hts hinX3 tyX3 tyX3_ok nmX3 hown hK hP hD hS 0 rfl rfl 3 (by decide) k_fieldLink_RX3_44__KeyLetters_Office___answersTold___I_ (fun _ h9 => h9) rfl (ty := .int) (v := .int (O2.1 0 3)) (by decide +kernel) rfl rfl (Nat.le_of_ble_eq_true rfl) (ws' := (ww_X3_copyFrom cs ad raO raO2 Ov4 O2)) (by rw [eOv4]; rfl) dX3_copyFrom_29 (fun H locs hP hD hS => ?_)
  refine lv_aload_n hx hb dX3_copyFrom_32 rfl (lv_at hl 1 rfl) ?_
  refine va_get (D := (dC, dI)) (ci := 4) (C := RX3) (T := TX3) (N := 11) hx hb hts hinX3 hown hK hP 8 rfl rfl 4 (by decide) (v := .ref (raO2 4)) k_fieldLink_RX3_9__KeyLetters_Office___machineNames____J_ (fun _ h9 => h9) rfl dX3_copyFrom_33 ?_
  refine lv_iconst (v := 0) hx hb dX3_copyFrom_36 (by decide) ?_
  refine lv_aload_n hx hb dX3_copyFrom_37 rfl (lv_at hl 0 rfl) ?_
  refine va_get (D := (dC, dI)) (ci := 4) (C := RX3) (T := TX3) (N := 11) hx hb hts hinX3 hown hK hP 0 rfl rfl 4 (by decide) (v := .ref (raO 4)) k_fieldLink_RX3_9__KeyLetters_Office___machineNames____J_ (fun _ h9 => h9) rfl dX3_copyFrom_38 ?_
  refine lv_iconst (v := 0) hx hb dX3_copyFrom_41 (by decide) ?_
  refine lv_bipush (v := 6) hx hb dX3_copyFrom_42 (by decide) ?_
  obtain ⟨Ov5, eOv5, hf⟩ := bd1_e hf
  refine va_copyl hx hb (hml.trans hl.1.symm) hown k_methodLink_RX3_47_arraycopyName k_native_arraycopyName k_static_arraycopyName k_initialized__java_lang_System_ hK hP hD hS 9 1 2 2 rfl rfl rfl rfl rfl (by decide) (by decide) (by decide) (by decide) (by decide) (fun i hi => rfl) (Nat.le_of_ble_eq_true rfl) (Nat.le_of_ble_eq_true rfl) dX3_copyFrom_44 (fun H locs hP hD hS => ?_)
  have hP : va_P (dC, dI) vwCl (ww_X3_copyFrom cs ad raO raO2 Ov5 O2) H := g_toP (by rw [eOv5]; rfl) hP
  have hD : va_D (va_A (ww_X3_copyFrom cs ad raO raO2 zD zD) s.heap.size) (ww_X3_copyFrom cs ad raO raO2 Ov5 O2) := g_toD (by rw [eOv5]; rfl) hD
  refine lv_aload_n hx hb dX3_copyFrom_47 rfl (lv_at hl 1 rfl) ?_
  refine va_get (D := (dC, dI)) (ci := 4) (C := RX3) (T := TX3) (N := 11) hx hb hts hinX3 hown hK hP 8 rfl rfl 5 (by decide) (v := .ref (raO2 5)) k_fieldLink_RX3_15__KeyLetters_Office___ink____I_ (fun _ h9 => h9) rfl dX3_copyFrom_48 ?_
  refine lv_iconst (v := 0) hx hb dX3_copyFrom_51 (by decide) ?_
  refine lv_aload_n hx hb dX3_copyFrom_52 rfl (lv_at hl 0 rfl) ?_
  refine va_get (D := (dC, dI)) (ci := 4) (C := RX3) (T := TX3) (N := 11) hx hb hts hinX3 hown hK hP 0 rfl rfl 5 (by decide) (v := .ref (raO 5)) k_fieldLink_RX3_15__KeyLetters_Office___ink____I_ (fun _ h9 => h9) rfl dX3_copyFrom_53 ?_
  refine lv_iconst (v := 0) hx hb dX3_copyFrom_56 (by decide) ?_
  refine lv_bipush (v := 6) hx hb dX3_copyFrom_57 (by decide) ?_
  obtain ⟨Ov6, eOv6, hf⟩ := bd1_e hf
  refine va_copyi hx hb (hml.trans hl.1.symm) hown k_methodLink_RX3_47_arraycopyName k_native_arraycopyName k_static_arraycopyName k_initialized__java_lang_System_ hK hP hD hS 10 2 1 1 rfl rfl rfl rfl rfl (by decide) (by decide) (by decide) (by decide) (by decide) (fun i hi => rfl) (Nat.le_of_ble_eq_true rfl) (Nat.le_of_ble_eq_true rfl) dX3_copyFrom_59 (fun H locs hP hD hS => ?_)
  have hP : va_P (dC, dI) vwCl (ww_X3_copyFrom cs ad raO raO2 Ov6 O2) H := g_toP (by rw [eOv6]; rfl) hP
  have hD : va_D (va_A (ww_X3_copyFrom cs ad raO raO2 zD zD) s.heap.size) (ww_X3_copyFrom cs ad raO raO2 Ov6 O2) := g_toD (by rw [eOv6]; rfl) hD
  refine lv_aload_n hx hb dX3_copyFrom_62 rfl (lv_at hl 1 rfl) ?_
  refine va_get (D := (dC, dI)) (ci := 4) (C := RX3) (T := TX3) (N := 11) hx hb hts hinX3 hown hK hP 8 rfl rfl 6 (by decide) (v := .ref (raO2 6)) k_fieldLink_RX3_19__KeyLetters_Office___known____I_ (fun _ h9 => h9) rfl dX3_copyFrom_63 ?_
  refine lv_iconst (v := 0) hx hb dX3_copyFrom_66 (by decide) ?_
  refine lv_aload_n hx hb dX3_copyFrom_67 rfl (lv_at hl 0 rfl) ?_
  refine va_get (D := (dC, dI)) (ci := 4) (C := RX3) (T := TX3) (N := 11) hx hb hts hinX3 hown hK hP 0 rfl rfl 6 (by decide) (v := .ref (raO 6)) k_fieldLink_RX3_19__KeyLetters_Office___known____I_ (fun _ h9 => h9) rfl dX3_copyFrom_68 ?_
  refine lv_iconst (v := 0) hx hb dX3_copyFrom_71 (by decide) ?_
  refine lv_bipush (v := 6) hx hb dX3_copyFrom_72 (by decide) ?_
  obtain ⟨Ov7, eOv7, hf⟩ := bd1_e hf
  refine va_copyi hx hb (hml.trans hl.1.symm) hown k_methodLink_RX3_47_arraycopyName k_native_arraycopyName k_static_arraycopyName k_initialized__java_lang_System_ hK hP hD hS 11 3 1 1 rfl rfl rfl rfl rfl (by decide) (by decide) (by decide) (by decide) (by decide) (fun i hi => rfl) (Nat.le_of_ble_eq_true rfl) (Nat.le_of_ble_eq_true rfl) dX3_copyFrom_74 (fun H locs hP hD hS => ?_)
  have hP : va_P (dC, dI) vwCl (ww_X3_copyFrom cs ad raO raO2 Ov7 O2) H := g_toP (by rw [eOv7]; rfl) hP
  have hD : va_D (va_A (ww_X3_copyFrom cs ad raO raO2 zD zD) s.heap.size) (ww_X3_copyFrom cs ad raO raO2 Ov7 O2) := g_toD (by rw [eOv7]; rfl) hD
  refine lv_aload_n hx hb dX3_copyFrom_77 rfl (lv_at hl 1 rfl) ?_
  refine va_get (D := (dC, dI)) (ci := 4) (C := RX3) (T := TX3) (N := 11) hx hb hts hinX3 hown hK hP 8 rfl rfl 7 (by decide) (v := .ref (raO2 7)) k_fieldLink_RX3_22__KeyLetters_Office___phraseNames____J_ (fun _ h9 => h9) rfl dX3_copyFrom_78 ?_
  refine lv_iconst (v := 0) hx hb dX3_copyFrom_81 (by decide) ?_
  refine lv_aload_n hx hb dX3_copyFrom_82 rfl (lv_at hl 0 rfl) ?_
  refine va_get (D := (dC, dI)) (ci := 4) (C := RX3) (T := TX3) (N := 11) hx hb hts hinX3 hown hK hP 0 rfl rfl 7 (by decide) (v := .ref (raO 7)) k_fieldLink_RX3_22__KeyLetters_Office___phraseNames____J_ (fun _ h9 => h9) rfl dX3_copyFrom_83 ?_
  refine lv_iconst (v := 0) hx hb dX3_copyFrom_86 (by decide) ?_
  refine lv_bipush (v := 8) hx hb dX3_copyFrom_87 (by decide) ?_
  obtain ⟨Ov8, eOv8, hf⟩ := bd1_e hf
  refine va_copyl hx hb (hml.trans hl.1.symm) hown k_methodLink_RX3_47_arraycopyName k_native_arraycopyName k_static_arraycopyName k_initialized__java_lang_System_ hK hP hD hS 12 4 2 2 rfl rfl rfl rfl rfl (by decide) (by decide) (by decide) (by decide) (by decide) (fun i hi => rfl) (Nat.le_of_ble_eq_true rfl) (Nat.le_of_ble_eq_true rfl) dX3_copyFrom_89 (fun H locs hP hD hS => ?_)
  have hP : va_P (dC, dI) vwCl (ww_X3_copyFrom cs ad raO raO2 Ov8 O2) H := g_toP (by rw [eOv8]; rfl) hP
  have hD : va_D (va_A (ww_X3_copyFrom cs ad raO raO2 zD zD) s.heap.size) (ww_X3_copyFrom cs ad raO raO2 Ov8 O2) := g_toD (by rw [eOv8]; rfl) hD
  refine lv_aload_n hx hb dX3_copyFrom_92 rfl (lv_at hl 1 rfl) ?_
  refine va_get (D := (dC, dI)) (ci := 4) (C := RX3) (T := TX3) (N := 11) hx hb hts hinX3 hown hK hP 8 rfl rfl 8 (by decide) (v := .ref (raO2 8)) k_fieldLink_RX3_25__KeyLetters_Office___sizes____I_ (fun _ h9 => h9) rfl dX3_copyFrom_93 ?_
  refine lv_iconst (v := 0) hx hb dX3_copyFrom_96 (by decide) ?_
  refine lv_aload_n hx hb dX3_copyFrom_97 rfl (lv_at hl 0 rfl) ?_
  refine va_get (D := (dC, dI)) (ci := 4) (C := RX3) (T := TX3) (N := 11) hx hb hts hinX3 hown hK hP 0 rfl rfl 8 (by decide) (v := .ref (raO 8)) k_fieldLink_RX3_25__KeyLetters_Office___sizes____I_ (fun _ h9 => h9) rfl dX3_copyFrom_98 ?_
  refine lv_iconst (v := 0) hx hb dX3_copyFrom_101 (by decide) ?_
  refine lv_bipush (v := 8) hx hb dX3_copyFrom_102 (by decide) ?_
  obtain ⟨Ov9, eOv9, hf⟩ := bd1_e hf
  refine va_copyi hx hb (hml.trans hl.1.symm) hown k_methodLink_RX3_47_arraycopyName k_native_arraycopyName k_static_arraycopyName k_initialized__java_lang_System_ hK hP hD hS 13 5 1 1 rfl rfl rfl rfl rfl (by decide) (by decide) (by decide) (by decide) (by decide) (fun i hi => rfl) (Nat.le_of_ble_eq_true rfl) (Nat.le_of_ble_eq_true rfl) dX3_copyFrom_104 (fun H locs hP hD hS => ?_)
  have hP : va_P (dC, dI) vwCl (ww_X3_copyFrom cs ad raO raO2 Ov9 O2) H := g_toP (by rw [eOv9]; rfl) hP
  have hD : va_D (va_A (ww_X3_copyFrom cs ad raO raO2 zD zD) s.heap.size) (ww_X3_copyFrom cs ad raO raO2 Ov9 O2) := g_toD (by rw [eOv9]; rfl) hD
  refine lv_aload_n hx hb dX3_copyFrom_107 rfl (lv_at hl 1 rfl) ?_
  refine va_get (D := (dC, dI)) (ci := 4) (C := RX3) (T := TX3) (N := 11) hx hb hts hinX3 hown hK hP 8 rfl rfl 9 (by decide) (v := .ref (raO2 9)) k_fieldLink_RX3_28__KeyLetters_Office___claims____I_ (fun _ h9 => h9) rfl dX3_copyFrom_108 ?_
  refine lv_iconst (v := 0) hx hb dX3_copyFrom_111 (by decide) ?_
  refine lv_aload_n hx hb dX3_copyFrom_112 rfl (lv_at hl 0 rfl) ?_
  refine va_get (D := (dC, dI)) (ci := 4) (C := RX3) (T := TX3) (N := 11) hx hb hts hinX3 hown hK hP 0 rfl rfl 9 (by decide) (v := .ref (raO 9)) k_fieldLink_RX3_28__KeyLetters_Office___claims____I_ (fun _ h9 => h9) rfl dX3_copyFrom_113 ?_
  refine lv_iconst (v := 0) hx hb dX3_copyFrom_116 (by decide) ?_
  refine lv_bipush (v := 8) hx hb dX3_copyFrom_117 (by decide) ?_
  obtain ⟨Ov10, eOv10, hf⟩ := bd1_e hf
  refine va_copyi hx hb (hml.trans hl.1.symm) hown k_methodLink_RX3_47_arraycopyName k_native_arraycopyName k_static_arraycopyName k_initialized__java_lang_System_ hK hP hD hS 14 6 1 1 rfl rfl rfl rfl rfl (by decide) (by decide) (by decide) (by decide) (by decide) (fun i hi => rfl) (Nat.le_of_ble_eq_true rfl) (Nat.le_of_ble_eq_true rfl) dX3_copyFrom_119 (fun H locs hP hD hS => ?_)
  have hP : va_P (dC, dI) vwCl (ww_X3_copyFrom cs ad raO raO2 Ov10 O2) H := g_toP (by rw [eOv10]; rfl) hP
  have hD : va_D (va_A (ww_X3_copyFrom cs ad raO raO2 zD zD) s.heap.size) (ww_X3_copyFrom cs ad raO raO2 Ov10 O2) := g_toD (by rw [eOv10]; rfl) hD
  refine lv_aload_n hx hb dX3_copyFrom_122 rfl (lv_at hl 1 rfl) ?_
  refine va_get (D := (dC, dI)) (ci := 4) (C := RX3) (T := TX3) (N := 11) hx hb hts hinX3 hown hK hP 8 rfl rfl 10 (by decide) (v := .ref (raO2 10)) k_fieldLink_RX3_31__KeyLetters_Office___answers____I_ (fun _ h9 => h9) rfl dX3_copyFrom_123 ?_
  refine lv_iconst (v := 0) hx hb dX3_copyFrom_126 (by decide) ?_
  refine lv_aload_n hx hb dX3_copyFrom_127 rfl (lv_at hl 0 rfl) ?_
  refine va_get (D := (dC, dI)) (ci := 4) (C := RX3) (T := TX3) (N := 11) hx hb hts hinX3 hown hK hP 0 rfl rfl 10 (by decide) (v := .ref (raO 10)) k_fieldLink_RX3_31__KeyLetters_Office___answers____I_ (fun _ h9 => h9) rfl dX3_copyFrom_128 ?_
  refine lv_iconst (v := 0) hx hb dX3_copyFrom_131 (by decide) ?_
  refine lv_bipush (v := 8) hx hb dX3_copyFrom_132 (by decide) ?_
  obtain ⟨Ov11, eOv11, hf⟩ := bd1_e hf
  refine va_copyi hx hb (hml.trans hl.1.symm) hown k_methodLink_RX3_47_arraycopyName k_native_arraycopyName k_static_arraycopyName k_initialized__java_lang_System_ hK hP hD hS 15 7 1 1 rfl rfl rfl rfl rfl (by decide) (by decide) (by decide) (by decide) (by decide) (fun i hi => rfl) (Nat.le_of_ble_eq_true rfl) (Nat.le_of_ble_eq_true rfl) dX3_copyFrom_134 (fun H locs hP hD hS => ?_)
  have hP : va_P (dC, dI) vwCl (ww_X3_copyFrom cs ad raO raO2 Ov11 O2) H := g_toP (by rw [eOv11]; rfl) hP
  have hD : va_D (va_A (ww_X3_copyFrom cs ad raO raO2 zD zD) s.heap.size) (ww_X3_copyFrom cs ad raO raO2 Ov11 O2) := g_toD (by rw [eOv11]; rfl) hD
  have hf := Option.some.inj hf
  subst hf
  exact c_vret hx hb hr hlocks hP hK hD hS dX3_copyFrom_137

def ww_X3_answeredBy (cs : Nat → ClassId) (ad : Nat → Nat) (raO : Nat → Nat) (O : kD) : va_W := (wX3 cs ad raO O)
abbrev rm_X3_answeredBy : Room := { frames := 2, cells := 0, slots := 0, locals := 43 }
set_option maxHeartbeats 4000000 in
set_option maxRecDepth 100000 in
theorem c_X3_answeredBy (l : Launch) (dC : Nat → ClassId) (dI : Nat → Nat → Nat) (cs : Nat → ClassId) (ad : Nat → Nat) (raO : Nat → Nat) (O : kD) (a0 : Int32) (r : Int32) (hf : f_X3_answeredBy a0 O = some r) : Met l yX3_answeredBy wsX3_answeredBy rm_X3_answeredBy (va_Pc [.ref (raO 0), .int a0] (cPr dC dI cs (ww_X3_answeredBy cs ad raO O))) (kQ (some (.int r))) 0 0 (kF) := by
  refine Met.ofW (cc := cX3_answeredBy) (maxL := 4) (ret := (some .int)) (by decide) rfl ?_
  intro p e s m args below meth c s₁ B hml hv
  obtain ⟨hav, hP, hK, hN⟩ := hv
  have hx := B.exec
  have hb := B.bytes
  have hr := B.returns
  have hts := atoms_spec (ws := wsX3_answeredBy) B.pre
  have hown : s.vm.findClass RX3 = some m.cls := findClass_of_methodNamed B.named
  have hlocks := B.notSynchronized
  have hinX3 := (show ∀ w ∈ wsX30, w ∈ wsX3_answeredBy from fun w h => List.mem_cons_of_mem _ (List.mem_append_right _ h))
  have k_fieldLink_RX3_41__KeyLetters_Office___phrases___I_ := hts (.fieldLink RX3 41 "KeyLetters$Office" "phrases" "I") (List.mem_of_getElem? (i := 1) rfl)
  have hl := lv_entry ([.ref (raO 0), .int a0]) (n := 4) (Nat.le_of_ble_eq_true rfl)
  rw [show entryFrame m args 4 = entryFrame m ([.ref (raO 0), .int a0] : List Value).toArray 4 from by rw [hav], lg_entry_eq]
  generalize (lg_sl ([.ref (raO 0), .int a0]) ++ List.replicate (4 - (lg_sl ([.ref (raO 0), .int a0])).length) Slot.unset).toArray = ls at hl ⊢
  have hl : lv_has ls 4 [(0, .ref (raO 0)), (1, .int a0)] := hl
  unfold f_X3_answeredBy at hf
  have h_4 := lp_ind (z := (fun _ _ _ => none)) (b := (g_X3_answeredBy_4 O)) (fun (rc_4 : Int32 → Int32 → Int32 → Option Int32) => ∀ (x1_4 : Int32) (x2_4 : Int32) (x3_4 : Int32) (ls : Array Slot), lv_has ls 4 [(0, .ref (raO 0)), (1, .int x1_4), (2, .int x2_4), (3, .int x3_4)] → rc_4 x1_4 x2_4 x3_4 = some r → W p l e (headSpec wsX3_answeredBy rm_X3_answeredBy).room s m args below meth c s.heap [] 0 0 (MQ below (kQ (some (.int r))) args s 0 0 (kF)) (F0 m 4 ls [])) (by
      intro x1_4 x2_4 x3_4 ls hl hf
      cases hf) (by
      intro rc_4 ih_4 x1_4 x2_4 x3_4 ls hl hf
      unfold g_X3_answeredBy_4 at hf
      have h_27 : ∀ (x1_27 : Int32) (x2_27 : Int32) (x3_27 : Int32) (ls : Array Slot), lv_has ls 4 [(0, .ref (raO 0)), (1, .int x1_27), (2, .int x2_27), (3, .int x3_27)] → g_X3_answeredBy_27 rc_4 O x1_27 x2_27 x3_27 = some r → W p l e (headSpec wsX3_answeredBy rm_X3_answeredBy).room s m args below meth c s.heap [] 0 0 (MQ below (kQ (some (.int r))) args s 0 0 (kF)) (F0 m 27 ls []) := by
        intro x1_27 x2_27 x3_27 ls hl hf
        unfold g_X3_answeredBy_27 at hf
        obtain ⟨v1, ev1, hf⟩ := bd1_e hf
        refine lv_iinc (k := 3) (x := x3_27) (v := v1) (nL := 4) (lv' := [(3, .int v1), (0, .ref (raO 0)), (1, .int x1_27), (2, .int x2_27)]) hx hb dX3_answeredBy_27 hl rfl (kt_inc (w := 1) (by decide) ev1) (by decide) rfl (fun ls hl => ?_)
        refine lv_goto (tgt := 4) hx hb dX3_answeredBy_30 (by decide) ?_
        exact ih_4 x1_27 x2_27 v1 ls (lv_sub hl [1, 2, 3, 0] rfl) hf
      refine lv_iload_n hx hb dX3_answeredBy_4 rfl (lv_at hl 3 rfl) ?_
      refine lv_aload_n hx hb dX3_answeredBy_5 rfl (lv_at hl 0 rfl) ?_
      refine va_get (D := (dC, dI)) (ci := 4) (C := RX3) (T := TX3) (N := 11) hx hb hts hinX3 hown hK hP 0 rfl rfl 2 (by decide) (v := .int (O.1 0 2)) k_fieldLink_RX3_41__KeyLetters_Office___phrases___I_ (fun _ h9 => h9) rfl dX3_answeredBy_6 ?_
      refine lv_icmp_ge (tgt := 33) hx hb dX3_answeredBy_9 (by decide) (fun hb6 => ?_) (fun hb6 => ?_)
      · have hf := (if_pos hb6).symm.trans hf
        refine lv_iload_n hx hb dX3_answeredBy_33 rfl (lv_at hl 2 rfl) ?_
        have hf := Option.some.inj hf
        subst hf
        exact W.iret (v := x2_4) hx hb hr (fun t ht hW => ⟨rfl, ht⟩) (fun _ h => nomatch h) dX3_answeredBy_34
      · have hf := (if_neg hb6).symm.trans hf
        refine lv_aload_n hx hb dX3_answeredBy_12 rfl (lv_at hl 0 rfl) ?_
        refine lv_iload_n hx hb dX3_answeredBy_13 rfl (lv_at hl 1 rfl) ?_
        refine lv_iload_n hx hb dX3_answeredBy_14 rfl (lv_at hl 3 rfl) ?_
        obtain ⟨v3, hq2, hf⟩ := bo_e hf
        refine ko_call (v := some (.int v3)) (va_runV (As := [.int x1_4, .int x3_4]) (rest := []) ⟨hx, hb, hml, hown, hts⟩ (c_X3_isAnswer l dC dI cs ad raO O x1_4 x3_4 v3 hq2) (cwV 2 hts gX3_answeredBy_X3_isAnswer rfl rfl rfl (by decide +kernel) ⟨Nat.le_of_ble_eq_true rfl, Nat.le_of_ble_eq_true rfl⟩) ⟨fun a U g mk q => ⟨q.1, (fun _ _ _ _ => cPr_bl) a U g mk q.2⟩, va_recv hK hP (ci := 4) (q0 := 0) rfl rfl, fun U hU hW => ⟨rfl, ⟨by rw [hU]; exact (hP.sub (ws' := (ww_X3_isAnswer cs ad raO O)) [0, 1, 2, 3, 4, 5, 6, 7] rfl), va_K.moved hW.alike hK, kN_warm hW hN⟩⟩⟩ rfl rfl hl.1 rfl (lv_room (Nat.le_of_ble_eq_true rfl)) dX3_answeredBy_15 ⟨Nat.le_refl _, Nat.le_refl _⟩) ?_
        refine lv_if_eq (tgt := 27) hx hb dX3_answeredBy_18 (by decide) (fun hb5 => ?_) (fun hb5 => ?_)
        · have hf := (if_pos hb5).symm.trans hf
          exact h_27 x1_4 x2_4 x3_4 ls hl hf
        · have hf := (if_neg hb5).symm.trans hf
          refine lv_iload_n hx hb dX3_answeredBy_21 rfl (lv_at hl 2 rfl) ?_
          refine lv_iconst (v := 1) hx hb dX3_answeredBy_22 (by decide) ?_
          refine lv_iload_n hx hb dX3_answeredBy_23 rfl (lv_at hl 3 rfl) ?_
          refine lv_ishl hx hb dX3_answeredBy_24 ?_
          refine lv_ior hx hb dX3_answeredBy_25 ?_
          obtain ⟨v4, ev4, hf⟩ := bd1_e hf
          refine kt_i ev4 ?_
          refine lv_istore_n (nL := 4) (lv' := [(2, .int v4), (0, .ref (raO 0)), (1, .int x1_4), (3, .int x3_4)]) hx hb dX3_answeredBy_26 rfl hl (by decide) rfl (fun ls hl => ?_)
          exact h_27 x1_4 v4 x3_4 ls (lv_sub hl [1, 2, 0, 3] rfl) hf) 2000
  refine lv_iconst (v := 0) hx hb dX3_answeredBy_0 (by decide) ?_
  refine lv_istore_n (nL := 4) (lv' := [(2, .int (0 : Int32)), (0, .ref (raO 0)), (1, .int a0)]) hx hb dX3_answeredBy_1 rfl hl (by decide) rfl (fun ls hl => ?_)
  refine lv_iconst (v := 0) hx hb dX3_answeredBy_2 (by decide) ?_
  refine lv_istore_n (nL := 4) (lv' := [(3, .int (0 : Int32)), (2, .int (0 : Int32)), (0, .ref (raO 0)), (1, .int a0)]) hx hb dX3_answeredBy_3 rfl hl (by decide) rfl (fun ls hl => ?_)
  exact h_4 a0 (0 : Int32) (0 : Int32) ls (lv_sub hl [2, 3, 1, 0] rfl) hf

def ww_X3_machinesKnowing (cs : Nat → ClassId) (ad : Nat → Nat) (raO : Nat → Nat) (O : kD) : va_W := (wX3 cs ad raO O)
abbrev rm_X3_machinesKnowing : Room := { frames := 2, cells := 0, slots := 0, locals := 43 }
set_option maxHeartbeats 4000000 in
set_option maxRecDepth 100000 in
theorem c_X3_machinesKnowing (l : Launch) (dC : Nat → ClassId) (dI : Nat → Nat → Nat) (cs : Nat → ClassId) (ad : Nat → Nat) (raO : Nat → Nat) (O : kD) (a0 : Int32) (r : Int32) (hf : f_X3_machinesKnowing a0 O = some r) : Met l yX3_machinesKnowing wsX3_machinesKnowing rm_X3_machinesKnowing (va_Pc [.ref (raO 0), .int a0] (cPr dC dI cs (ww_X3_machinesKnowing cs ad raO O))) (kQ (some (.int r))) 0 0 (kF) := by
  refine Met.ofW (cc := cX3_machinesKnowing) (maxL := 4) (ret := (some .int)) (by decide) rfl ?_
  intro p e s m args below meth c s₁ B hml hv
  obtain ⟨hav, hP, hK, hN⟩ := hv
  have hx := B.exec
  have hb := B.bytes
  have hr := B.returns
  have hts := atoms_spec (ws := wsX3_machinesKnowing) B.pre
  have hown : s.vm.findClass RX3 = some m.cls := findClass_of_methodNamed B.named
  have hlocks := B.notSynchronized
  have hinX3 := (show ∀ w ∈ wsX30, w ∈ wsX3_machinesKnowing from fun w h => List.mem_cons_of_mem _ (List.mem_append_right _ h))
  have k_fieldLink_RX3_38__KeyLetters_Office___machines___I_ := hts (.fieldLink RX3 38 "KeyLetters$Office" "machines" "I") (List.mem_of_getElem? (i := 1) rfl)
  have hl := lv_entry ([.ref (raO 0), .int a0]) (n := 4) (Nat.le_of_ble_eq_true rfl)
  rw [show entryFrame m args 4 = entryFrame m ([.ref (raO 0), .int a0] : List Value).toArray 4 from by rw [hav], lg_entry_eq]
  generalize (lg_sl ([.ref (raO 0), .int a0]) ++ List.replicate (4 - (lg_sl ([.ref (raO 0), .int a0])).length) Slot.unset).toArray = ls at hl ⊢
  have hl : lv_has ls 4 [(0, .ref (raO 0)), (1, .int a0)] := hl
  unfold f_X3_machinesKnowing at hf
  have h_4 := lp_ind (z := (fun _ _ _ => none)) (b := (g_X3_machinesKnowing_4 O)) (fun (rc_4 : Int32 → Int32 → Int32 → Option Int32) => ∀ (x1_4 : Int32) (x2_4 : Int32) (x3_4 : Int32) (ls : Array Slot), lv_has ls 4 [(0, .ref (raO 0)), (1, .int x1_4), (2, .int x2_4), (3, .int x3_4)] → rc_4 x1_4 x2_4 x3_4 = some r → W p l e (headSpec wsX3_machinesKnowing rm_X3_machinesKnowing).room s m args below meth c s.heap [] 0 0 (MQ below (kQ (some (.int r))) args s 0 0 (kF)) (F0 m 4 ls [])) (by
      intro x1_4 x2_4 x3_4 ls hl hf
      cases hf) (by
      intro rc_4 ih_4 x1_4 x2_4 x3_4 ls hl hf
      unfold g_X3_machinesKnowing_4 at hf
      have h_27 : ∀ (x1_27 : Int32) (x2_27 : Int32) (x3_27 : Int32) (ls : Array Slot), lv_has ls 4 [(0, .ref (raO 0)), (1, .int x1_27), (2, .int x2_27), (3, .int x3_27)] → g_X3_machinesKnowing_27 rc_4 O x1_27 x2_27 x3_27 = some r → W p l e (headSpec wsX3_machinesKnowing rm_X3_machinesKnowing).room s m args below meth c s.heap [] 0 0 (MQ below (kQ (some (.int r))) args s 0 0 (kF)) (F0 m 27 ls []) := by
        intro x1_27 x2_27 x3_27 ls hl hf
        unfold g_X3_machinesKnowing_27 at hf
        obtain ⟨v1, ev1, hf⟩ := bd1_e hf
        refine lv_iinc (k := 3) (x := x3_27) (v := v1) (nL := 4) (lv' := [(3, .int v1), (0, .ref (raO 0)), (1, .int x1_27), (2, .int x2_27)]) hx hb dX3_machinesKnowing_27 hl rfl (kt_inc (w := 1) (by decide) ev1) (by decide) rfl (fun ls hl => ?_)
        refine lv_goto (tgt := 4) hx hb dX3_machinesKnowing_30 (by decide) ?_
        exact ih_4 x1_27 x2_27 v1 ls (lv_sub hl [1, 2, 3, 0] rfl) hf
      refine lv_iload_n hx hb dX3_machinesKnowing_4 rfl (lv_at hl 3 rfl) ?_
      refine lv_aload_n hx hb dX3_machinesKnowing_5 rfl (lv_at hl 0 rfl) ?_
      refine va_get (D := (dC, dI)) (ci := 4) (C := RX3) (T := TX3) (N := 11) hx hb hts hinX3 hown hK hP 0 rfl rfl 1 (by decide) (v := .int (O.1 0 1)) k_fieldLink_RX3_38__KeyLetters_Office___machines___I_ (fun _ h9 => h9) rfl dX3_machinesKnowing_6 ?_
      refine lv_icmp_ge (tgt := 33) hx hb dX3_machinesKnowing_9 (by decide) (fun hb6 => ?_) (fun hb6 => ?_)
      · have hf := (if_pos hb6).symm.trans hf
        refine lv_iload_n hx hb dX3_machinesKnowing_33 rfl (lv_at hl 2 rfl) ?_
        have hf := Option.some.inj hf
        subst hf
        exact W.iret (v := x2_4) hx hb hr (fun t ht hW => ⟨rfl, ht⟩) (fun _ h => nomatch h) dX3_machinesKnowing_34
      · have hf := (if_neg hb6).symm.trans hf
        refine lv_aload_n hx hb dX3_machinesKnowing_12 rfl (lv_at hl 0 rfl) ?_
        refine lv_iload_n hx hb dX3_machinesKnowing_13 rfl (lv_at hl 3 rfl) ?_
        refine lv_iload_n hx hb dX3_machinesKnowing_14 rfl (lv_at hl 1 rfl) ?_
        obtain ⟨v3, hq2, hf⟩ := bo_e hf
        refine ko_call (v := some (.int v3)) (va_runV (As := [.int x3_4, .int x1_4]) (rest := []) ⟨hx, hb, hml, hown, hts⟩ (c_X3_knowsOf l dC dI cs ad raO O x3_4 x1_4 v3 hq2) (cwV 2 hts gX3_machinesKnowing_X3_knowsOf rfl rfl rfl (by decide +kernel) ⟨Nat.le_of_ble_eq_true rfl, Nat.le_of_ble_eq_true rfl⟩) ⟨fun a U g mk q => ⟨q.1, (fun _ _ _ _ => cPr_bl) a U g mk q.2⟩, va_recv hK hP (ci := 4) (q0 := 0) rfl rfl, fun U hU hW => ⟨rfl, ⟨by rw [hU]; exact (hP.sub (ws' := (ww_X3_knowsOf cs ad raO O)) [0, 1, 2, 3, 4, 5, 6, 7] rfl), va_K.moved hW.alike hK, kN_warm hW hN⟩⟩⟩ rfl rfl hl.1 rfl (lv_room (Nat.le_of_ble_eq_true rfl)) dX3_machinesKnowing_15 ⟨Nat.le_refl _, Nat.le_refl _⟩) ?_
        refine lv_if_eq (tgt := 27) hx hb dX3_machinesKnowing_18 (by decide) (fun hb5 => ?_) (fun hb5 => ?_)
        · have hf := (if_pos hb5).symm.trans hf
          exact h_27 x1_4 x2_4 x3_4 ls hl hf
        · have hf := (if_neg hb5).symm.trans hf
          refine lv_iload_n hx hb dX3_machinesKnowing_21 rfl (lv_at hl 2 rfl) ?_
          refine lv_iconst (v := 1) hx hb dX3_machinesKnowing_22 (by decide) ?_
          refine lv_iload_n hx hb dX3_machinesKnowing_23 rfl (lv_at hl 3 rfl) ?_
          refine lv_ishl hx hb dX3_machinesKnowing_24 ?_
          refine lv_ior hx hb dX3_machinesKnowing_25 ?_
          obtain ⟨v4, ev4, hf⟩ := bd1_e hf
          refine kt_i ev4 ?_
          refine lv_istore_n (nL := 4) (lv' := [(2, .int v4), (0, .ref (raO 0)), (1, .int x1_4), (3, .int x3_4)]) hx hb dX3_machinesKnowing_26 rfl hl (by decide) rfl (fun ls hl => ?_)
          exact h_27 x1_4 v4 x3_4 ls (lv_sub hl [1, 2, 0, 3] rfl) hf) 2000
  refine lv_iconst (v := 0) hx hb dX3_machinesKnowing_0 (by decide) ?_
  refine lv_istore_n (nL := 4) (lv' := [(2, .int (0 : Int32)), (0, .ref (raO 0)), (1, .int a0)]) hx hb dX3_machinesKnowing_1 rfl hl (by decide) rfl (fun ls hl => ?_)
  refine lv_iconst (v := 0) hx hb dX3_machinesKnowing_2 (by decide) ?_
  refine lv_istore_n (nL := 4) (lv' := [(3, .int (0 : Int32)), (2, .int (0 : Int32)), (0, .ref (raO 0)), (1, .int a0)]) hx hb dX3_machinesKnowing_3 rfl hl (by decide) rfl (fun ls hl => ?_)
  exact h_4 a0 (0 : Int32) (0 : Int32) ls (lv_sub hl [2, 3, 1, 0] rfl) hf

def ww_X4_needsName (cs : Nat → ClassId) (ad : Nat → Nat) (raR : Nat → Nat) (raT : Nat) (xR : Nat) (nT : Nat) (R : kD) (T : Nat → Int32) : va_W := (wX4 cs ad raR xR raT R ++ ([(raT, .inl (cs 1, nT, .inl T))]))
abbrev rm_X4_needsName : Room := { frames := 1, cells := 0, slots := 0, locals := 21 }
set_option maxHeartbeats 4000000 in
set_option maxRecDepth 100000 in
theorem c_X4_needsName (l : Launch) (dC : Nat → ClassId) (dI : Nat → Nat → Nat) (cs : Nat → ClassId) (ad : Nat → Nat) (raR : Nat → Nat) (raT : Nat) (xR : Nat) (nT : Nat) (sz : Nat) (R : kD) (T : Nat → Int32) (r : Int32 × kD) (hf : f_X4_needsName nT R T = some r) : Met l yX4_needsName wsX4_needsName rm_X4_needsName (va_Pc [.ref (raR 0)] (cPe ad (va_A (ww_X4_needsName cs ad raR raT xR nT zD (fun _ => 0)) sz) (cPw dC dI cs sz (ww_X4_needsName cs ad raR raT xR nT R T)))) (cQi dC dI cs (va_A (ww_X4_needsName cs ad raR raT xR nT zD (fun _ => 0)) sz) r.1 (ww_X4_needsName cs ad raR raT xR nT r.2 T)) 0 0 (va_A (ww_X4_needsName cs ad raR raT xR nT zD (fun _ => 0)) sz) := by
  refine Met.ofW (cc := cX4_needsName) (maxL := 1) (ret := (some .boolean)) (by decide) rfl ?_
  intro p e s m args below meth c s₁ B hml hv
  obtain ⟨hav, hE, hsz, hP, hK, hD0, hN⟩ := hv
  have hx := B.exec
  have hb := B.bytes
  have hr := B.returns
  have hts := atoms_spec (ws := wsX4_needsName) B.pre
  have hown : s.vm.findClass RX4 = some m.cls := findClass_of_methodNamed B.named
  have hlocks := B.notSynchronized
  subst hsz
  have hA : ∀ q, s.heap.size ≤ q → va_A (ww_X4_needsName cs ad raR raT xR nT zD (fun _ => 0)) s.heap.size q := fun q h => Or.inr h
  have hD : va_D (va_A (ww_X4_needsName cs ad raR raT xR nT zD (fun _ => 0)) s.heap.size) (ww_X4_needsName cs ad raR raT xR nT R T) := hD0.weaken (fun k q h _ => cA_in (ws := (ww_X4_needsName cs ad raR raT xR nT R T)) (ws' := (ww_X4_needsName cs ad raR raT xR nT zD (fun _ => 0))) rfl h)
  have hS : va_S (va_A (ww_X4_needsName cs ad raR raT xR nT zD (fun _ => 0)) s.heap.size) s.heap s.heap [] := va_S.rf
  have keldLink_RX4_15__KeyLetters_Word___OTHER___LKeyLetters_Word__ := hts (.fieldLink RX4 15 "KeyLetters$Word" "OTHER" "LKeyLetters$Word;") (List.mem_of_getElem? (i := 1) rfl)
  have hl := lv_entry ([.ref (raR 0)]) (n := 1) (Nat.le_of_ble_eq_true rfl)
  rw [show entryFrame m args 1 = entryFrame m ([.ref (raR 0)] : List Value).toArray 1 from by rw [hav], lg_entry_eq]
  generalize (lg_sl ([.ref (raR 0)]) ++ List.replicate (1 - (lg_sl ([.ref (raR 0)])).length) Slot.unset).toArray = ls at hl ⊢
  have hl : lv_has ls 1 [(0, .ref (raR 0))] := hl
  unfold f_X4_needsName at hf
  refine lv_aload_n hx hb dX4_needsName_0 rfl (lv_at hl 0 rfl) ?_
  refine va_gets hx hb (show va_Z "KeyLetters$Word" "OTHER" "LKeyLetters$Word;" (.ref (ad 0)) _ s s.heap from (hE.1.1 0 (by decide)).1) hS hown keldLink_RX4_15__KeyLetters_Word___OTHER___LKeyLetters_Word__ (fun _ h9 => h9) dX4_needsName_1 ?_
  obtain ⟨v2, hq1, hf⟩ := bo_e hf
  have hEc := cE_subF hE hS
  refine ko_call (v := some (.int v2)) (va_runV (As := [.ref (ad (0 : Int32).toNatClampNeg)]) (rest := []) ⟨hx, hb, hml, hown, hts⟩ (c_X4_seesWord l dC dI cs ad raR raT xR nT R T (0 : Int32) v2 hq1) (cwV 1 hts gX4_needsName_X4_seesWord rfl rfl rfl (by decide +kernel) ⟨Nat.le_of_ble_eq_true rfl, Nat.le_of_ble_eq_true rfl⟩) ⟨fun a U g mk q => ⟨q.1, (fun _ _ _ _ => cPe_bl (fun h => cPr_bl h)) a U g mk q.2⟩, va_recv hK hP (ci := 5) (q0 := 0) rfl rfl, fun U hU hW => ⟨rfl, ⟨hEc U hU hW, ⟨by rw [hU]; exact (hP.sub (ws' := (ww_X4_seesWord cs ad raR raT xR nT R T)) [0, 1] rfl), va_K.moved hW.alike hK, kN_warm hW hN⟩⟩⟩⟩ rfl rfl hl.1 rfl (lv_room (Nat.le_of_ble_eq_true rfl)) dX4_needsName_4 ⟨Nat.le_refl _, Nat.le_refl _⟩) ?_
  refine lv_if_ne (tgt := 18) hx hb dX4_needsName_7 (by decide) (fun hb7 => ?_) (fun hb7 => ?_)
  · have hf := (if_neg hb7).symm.trans hf
    refine lv_iconst (v := 1) hx hb dX4_needsName_18 (by decide) ?_
    refine lv_goto (tgt := 23) hx hb dX4_needsName_19 (by decide) ?_
    have hf := Option.some.inj hf
    subst hf
    exact c_zret (v := (1 : Int32)) hx hb hr rfl hlocks hP hK hD hS dX4_needsName_23
  · have hf := (if_pos hb7).symm.trans hf
    refine lv_aload_n hx hb dX4_needsName_10 rfl (lv_at hl 0 rfl) ?_
    refine lv_iconst (v := 1) hx hb dX4_needsName_11 (by decide) ?_
    obtain ⟨v4, Rv5, hq3, hf⟩ := bo2_e hf
    refine g_callw (isC := [0, 1]) (isR := []) (wc := (ww_X4_refuse cs ad raR raT xR nT R T)) (wz := (ww_X4_refuse cs ad raR raT xR nT zD (fun _ => 0))) (w1 := (ww_X4_refuse cs ad raR raT xR nT Rv5 T)) (ws' := (ww_X4_needsName cs ad raR raT xR nT Rv5 T)) (v := v4) (va_runV (As := [.int (1 : Int32)]) (rest := []) ⟨hx, hb, hml, hown, hts⟩ (c_X4_refuse l dC dI cs ad raR raT xR nT _ R T (1 : Int32) (v4, Rv5) hq3) (cwV 1 hts gX4_needsName_X4_refuse rfl rfl rfl (by decide +kernel) ⟨Nat.le_of_ble_eq_true rfl, Nat.le_of_ble_eq_true rfl⟩) ⟨fun a U g mk q => ⟨q.1, (fun _ _ _ _ => cPw_bl) a U g mk q.2⟩, va_recv hK hP (ci := 5) (q0 := 0) rfl rfl, fun U hU hW => ⟨rfl, ⟨by rw [hU], by rw [hU]; exact (hP.sub (ws' := (ww_X4_refuse cs ad raR raT xR nT R T)) [0, 1] rfl), va_K.moved hW.alike hK, (hD.sub (ws' := (ww_X4_refuse cs ad raR raT xR nT R T)) [0, 1] (by decide) rfl).weaken (fun _ _ _ _ => trivial), kN_warm hW hN⟩⟩⟩ rfl rfl hl.1 rfl (lv_room (Nat.le_of_ble_eq_true rfl)) dX4_needsName_12 ⟨Nat.le_refl _, Nat.le_refl _⟩) hP hD hS hA rfl rfl (wr := ([] : va_W)) rfl rfl rfl (nw := 2) rfl (by decide +kernel) rfl (fun H locs hP hD hS => ?_)
    refine lv_if_eq (tgt := 22) hx hb dX4_needsName_15 (by decide) (fun hb6 => ?_) (fun hb6 => ?_)
    · have hf := (if_pos hb6).symm.trans hf
      refine lv_iconst (v := 0) hx hb dX4_needsName_22 (by decide) ?_
      have hf := Option.some.inj hf
      subst hf
      exact c_zret (v := (0 : Int32)) hx hb hr rfl hlocks hP hK hD hS dX4_needsName_23
    · have hf := (if_neg hb6).symm.trans hf
      refine lv_iconst (v := 1) hx hb dX4_needsName_18 (by decide) ?_
      refine lv_goto (tgt := 23) hx hb dX4_needsName_19 (by decide) ?_
      have hf := Option.some.inj hf
      subst hf
      exact c_zret (v := (1 : Int32)) hx hb hr rfl hlocks hP hK hD hS dX4_needsName_23

def ww_X3_needsNewName (cs : Nat → ClassId) (ad : Nat → Nat) (raO : Nat → Nat) (raR : Nat → Nat) (raT : Nat) (xR : Nat) (nT : Nat) (O : kD) (R : kD) (T : Nat → Int32) : va_W := (wX3 cs ad raO O ++ (wX4 cs ad raR xR raT R ++ ([(raT, .inl (cs 1, nT, .inl T))])))
abbrev rm_X3_needsNewName : Room := { frames := 2, cells := 0, slots := 0, locals := 41 }
set_option maxHeartbeats 4000000 in
set_option maxRecDepth 100000 in
theorem c_X3_needsNewName (l : Launch) (dC : Nat → ClassId) (dI : Nat → Nat → Nat) (cs : Nat → ClassId) (ad : Nat → Nat) (raO : Nat → Nat) (raR : Nat → Nat) (raT : Nat) (xR : Nat) (nT : Nat) (sz : Nat) (O : kD) (R : kD) (T : Nat → Int32) (r : Int32 × kD) (hf : f_X3_needsNewName nT O R T = some r) : Met l yX3_needsNewName wsX3_needsNewName rm_X3_needsNewName (va_Pc [.ref (raO 0), .ref (raR 0)] (cPe ad (va_A (ww_X3_needsNewName cs ad raO raR raT xR nT zD zD (fun _ => 0)) sz) (cPw dC dI cs sz (ww_X3_needsNewName cs ad raO raR raT xR nT O R T)))) (cQi dC dI cs (va_A (ww_X3_needsNewName cs ad raO raR raT xR nT zD zD (fun _ => 0)) sz) r.1 (ww_X3_needsNewName cs ad raO raR raT xR nT O r.2 T)) 0 0 (va_A (ww_X3_needsNewName cs ad raO raR raT xR nT zD zD (fun _ => 0)) sz) := by
  refine Met.ofW (cc := cX3_needsNewName) (maxL := 3) (ret := (some .boolean)) (by decide) rfl ?_
  intro p e s m args below meth c s₁ B hml hv
  obtain ⟨hav, hE, hsz, hP, hK, hD0, hN⟩ := hv
  have hx := B.exec
  have hb := B.bytes
  have hr := B.returns
  have hts := atoms_spec (ws := wsX3_needsNewName) B.pre
  have hown : s.vm.findClass RX3 = some m.cls := findClass_of_methodNamed B.named
  have hlocks := B.notSynchronized
  subst hsz
  have hA : ∀ q, s.heap.size ≤ q → va_A (ww_X3_needsNewName cs ad raO raR raT xR nT zD zD (fun _ => 0)) s.heap.size q := fun q h => Or.inr h
  have hD : va_D (va_A (ww_X3_needsNewName cs ad raO raR raT xR nT zD zD (fun _ => 0)) s.heap.size) (ww_X3_needsNewName cs ad raO raR raT xR nT O R T) := hD0.weaken (fun k q h _ => cA_in (ws := (ww_X3_needsNewName cs ad raO raR raT xR nT O R T)) (ws' := (ww_X3_needsNewName cs ad raO raR raT xR nT zD zD (fun _ => 0))) rfl h)
  have hS : va_S (va_A (ww_X3_needsNewName cs ad raO raR raT xR nT zD zD (fun _ => 0)) s.heap.size) s.heap s.heap [] := va_S.rf
  have hinX3 := (show ∀ w ∈ wsX30, w ∈ wsX3_needsNewName from fun w h => List.mem_cons_of_mem _ (List.mem_append_right _ h))
  have hinX4 := (show ∀ w ∈ wsX40, w ∈ wsX3_needsNewName from fun w h => List.mem_cons_of_mem _ (List.mem_append_left _ (List.mem_append_right _ h)))
  have k_fieldLink_RX3_22__KeyLetters_Office___phraseNames____J_ := hts (.fieldLink RX3 22 "KeyLetters$Office" "phraseNames" "[J") (List.mem_of_getElem? (i := 3) rfl)
  have k_fieldLink_RX3_38__KeyLetters_Office___machines___I_ := hts (.fieldLink RX3 38 "KeyLetters$Office" "machines" "I") (List.mem_of_getElem? (i := 2) rfl)
  have k_fieldLink_RX3_41__KeyLetters_Office___phrases___I_ := hts (.fieldLink RX3 41 "KeyLetters$Office" "phrases" "I") (List.mem_of_getElem? (i := 4) rfl)
  have k_fieldLink_RX3_9__KeyLetters_Office___machineNames____J_ := hts (.fieldLink RX3 9 "KeyLetters$Office" "machineNames" "[J") (List.mem_of_getElem? (i := 1) rfl)
  have k_initialized_RX11 := hts (.initialized RX11) (List.mem_of_getElem? (i := 24) rfl)
  have k_initialized_RX4 := hts (.initialized RX4) (List.mem_of_getElem? (i := 6) rfl)
  have k_instanceMethod_yX4_needsName := hts (.instanceMethod yX4_needsName) (List.mem_of_getElem? (i := 5) rfl)
  have k_instanceMethod_yX4_refuse := hts (.instanceMethod yX4_refuse) (List.mem_of_getElem? (i := 17) rfl)
  have k_selects_RX4_yX4_needsName_yX4_needsName := hts (.selects RX4 yX4_needsName yX4_needsName) (List.mem_of_getElem? (i := 7) rfl)
  have k_selects_RX4_yX4_refuse_yX4_refuse := hts (.selects RX4 yX4_refuse yX4_refuse) (List.mem_of_getElem? (i := 18) rfl)
  have k_static_yX11_placeOf := hts (.static yX11_placeOf) (List.mem_of_getElem? (i := 23) rfl)
  have hl := lv_entry ([.ref (raO 0), .ref (raR 0)]) (n := 3) (Nat.le_of_ble_eq_true rfl)
  rw [show entryFrame m args 3 = entryFrame m ([.ref (raO 0), .ref (raR 0)] : List Value).toArray 3 from by rw [hav], lg_entry_eq]
  generalize (lg_sl ([.ref (raO 0), .ref (raR 0)]) ++ List.replicate (3 - (lg_sl ([.ref (raO 0), .ref (raR 0)])).length) Slot.unset).toArray = ls at hl ⊢
  have hl : lv_has ls 3 [(0, .ref (raO 0)), (1, .ref (raR 0))] := hl
  unfold f_X3_needsNewName at hf
  have h_52 : ∀ (t0_52 : Int32) (R_52 : kD) (ls : Array Slot) (H : Heap) (locs : List Loc), lv_has ls 3 [(1, .ref (raR 0))] → va_P (dC, dI) vwCl (ww_X3_needsNewName cs ad raO raR raT xR nT O R_52 T) H → va_D (va_A (ww_X3_needsNewName cs ad raO raR raT xR nT zD zD (fun _ => 0)) s.heap.size) (ww_X3_needsNewName cs ad raO raR raT xR nT O R_52 T) → va_S (va_A (ww_X3_needsNewName cs ad raO raR raT xR nT zD zD (fun _ => 0)) s.heap.size) s.heap H locs → g_X3_needsNewName_52 nT O T t0_52 R_52 = some r → W p l e (headSpec wsX3_needsNewName rm_X3_needsNewName).room s m args below meth c H locs 0 0 (MQ below (cQi dC dI cs (va_A (ww_X3_needsNewName cs ad raO raR raT xR nT zD zD (fun _ => 0)) s.heap.size) r.1 (ww_X3_needsNewName cs ad raO raR raT xR nT O r.2 T)) args s 0 0 (va_A (ww_X3_needsNewName cs ad raO raR raT xR nT zD zD (fun _ => 0)) s.heap.size)) (F0 m 52 ls [.int t0_52]) := by
    intro t0_52 R_52 ls H locs hl hP hD hS hf
    unfold g_X3_needsNewName_52 at hf
    refine lv_istore_n (nL := 3) (lv' := [(2, .int t0_52), (1, .ref (raR 0))]) hx hb dX3_needsNewName_52 rfl hl (by decide) rfl (fun ls hl => ?_)
    refine lv_iload_n hx hb dX3_needsNewName_53 rfl (lv_at hl 0 rfl) ?_
    refine lv_if_ne (tgt := 65) hx hb dX3_needsNewName_54 (by decide) (fun hb5 => ?_) (fun hb5 => ?_)
    · have hf := (if_neg hb5).symm.trans hf
      refine lv_iconst (v := 1) hx hb dX3_needsNewName_65 (by decide) ?_
      refine lv_goto (tgt := 70) hx hb dX3_needsNewName_66 (by decide) ?_
      have hf := Option.some.inj hf
      subst hf
      exact c_zret (v := (1 : Int32)) hx hb hr rfl hlocks hP hK hD hS dX3_needsNewName_70
    · have hf := (if_pos hb5).symm.trans hf
      refine lv_aload_n hx hb dX3_needsNewName_57 rfl (lv_at hl 1 rfl) ?_
      refine lv_iconst (v := 3) hx hb dX3_needsNewName_58 (by decide) ?_
      obtain ⟨v2, Rv3, hq1, hf⟩ := bo2_e hf
      refine g_callw (isC := [8, 9]) (isR := [0, 1, 2, 3, 4, 5, 6, 7]) (wc := (ww_X4_refuse cs ad raR raT xR nT R_52 T)) (wz := (ww_X4_refuse cs ad raR raT xR nT zD (fun _ => 0))) (w1 := (ww_X4_refuse cs ad raR raT xR nT Rv3 T)) (ws' := (ww_X3_needsNewName cs ad raO raR raT xR nT O Rv3 T)) (v := v2) (va_runVN (As := [.int (3 : Int32)]) (rest := []) ⟨hx, hb, hml, hown, hts⟩ (c_X4_refuse l dC dI cs ad raR raT xR nT _ R_52 T (3 : Int32) (v2, Rv3) hq1) ⟨va_cnB 1 hts gX3_needsNewName_X4_refuse_n117 rfl rfl rfl (hN _ (List.mem_of_getElem? (i := 75) rfl)) k_initialized_RX4 (by decide +kernel) ⟨Nat.le_of_ble_eq_true rfl, Nat.le_of_ble_eq_true rfl⟩, k_instanceMethod_yX4_refuse, k_selects_RX4_yX4_refuse_yX4_refuse⟩ ⟨fun a U g mk q => ⟨q.1, (fun _ _ _ _ => cPw_bl) a U g mk q.2⟩, va_recv hK hP (ci := 5) (q0 := 8) rfl rfl, fun U hU hW => ⟨rfl, ⟨by rw [hU], by rw [hU]; exact (hP.sub (ws' := (ww_X4_refuse cs ad raR raT xR nT R_52 T)) [8, 9] rfl), va_K.moved hW.alike hK, (hD.sub (ws' := (ww_X4_refuse cs ad raR raT xR nT R_52 T)) [8, 9] (by decide) rfl).weaken (fun _ _ _ _ => trivial), kN_warm hW hN⟩⟩⟩ rfl rfl hl.1 rfl (lv_room (Nat.le_of_ble_eq_true rfl)) dX3_needsNewName_59 ⟨Nat.le_refl _, Nat.le_refl _⟩) hP hD hS hA rfl rfl (wr := ((wX3 cs ad raO O))) rfl rfl rfl (nw := 10) rfl (by decide +kernel) rfl (fun H locs hP hD hS => ?_)
      refine lv_if_eq (tgt := 69) hx hb dX3_needsNewName_62 (by decide) (fun hb4 => ?_) (fun hb4 => ?_)
      · have hf := (if_pos hb4).symm.trans hf
        refine lv_iconst (v := 0) hx hb dX3_needsNewName_69 (by decide) ?_
        have hf := Option.some.inj hf
        subst hf
        exact c_zret (v := (0 : Int32)) hx hb hr rfl hlocks hP hK hD hS dX3_needsNewName_70
      · have hf := (if_neg hb4).symm.trans hf
        refine lv_iconst (v := 1) hx hb dX3_needsNewName_65 (by decide) ?_
        refine lv_goto (tgt := 70) hx hb dX3_needsNewName_66 (by decide) ?_
        have hf := Option.some.inj hf
        subst hf
        exact c_zret (v := (1 : Int32)) hx hb hr rfl hlocks hP hK hD hS dX3_needsNewName_70
  have h_51 : ∀ (R_51 : kD) (ls : Array Slot) (H : Heap) (locs : List Loc), lv_has ls 3 [(1, .ref (raR 0))] → va_P (dC, dI) vwCl (ww_X3_needsNewName cs ad raO raR raT xR nT O R_51 T) H → va_D (va_A (ww_X3_needsNewName cs ad raO raR raT xR nT zD zD (fun _ => 0)) s.heap.size) (ww_X3_needsNewName cs ad raO raR raT xR nT O R_51 T) → va_S (va_A (ww_X3_needsNewName cs ad raO raR raT xR nT zD zD (fun _ => 0)) s.heap.size) s.heap H locs → g_X3_needsNewName_51 nT O T R_51 = some r → W p l e (headSpec wsX3_needsNewName rm_X3_needsNewName).room s m args below meth c H locs 0 0 (MQ below (cQi dC dI cs (va_A (ww_X3_needsNewName cs ad raO raR raT xR nT zD zD (fun _ => 0)) s.heap.size) r.1 (ww_X3_needsNewName cs ad raO raR raT xR nT O r.2 T)) args s 0 0 (va_A (ww_X3_needsNewName cs ad raO raR raT xR nT zD zD (fun _ => 0)) s.heap.size)) (F0 m 51 ls []) := by
    intro R_51 ls H locs hl hP hD hS hf
    unfold g_X3_needsNewName_51 at hf
    refine lv_iconst (v := 0) hx hb dX3_needsNewName_51 (by decide) ?_
    exact h_52 (0 : Int32) R_51 ls _ _ hl hP hD hS hf
  refine lv_aload_n hx hb dX3_needsNewName_0 rfl (lv_at hl 1 rfl) ?_
  obtain ⟨v7, Rv8, hq6, hf⟩ := bo2_e hf
  have hEc := cE_sub (A1 := va_A (ww_X4_needsName cs ad raR raT xR nT zD (fun _ => 0)) _) hE hS (cA_free (isC := [8, 9]) (wc := (ww_X4_needsName cs ad raR raT xR nT R T)) (wz := (ww_X4_needsName cs ad raR raT xR nT zD (fun _ => 0))) rfl rfl hD hS hA)
  refine g_callw (isC := [8, 9]) (isR := [0, 1, 2, 3, 4, 5, 6, 7]) (wc := (ww_X4_needsName cs ad raR raT xR nT R T)) (wz := (ww_X4_needsName cs ad raR raT xR nT zD (fun _ => 0))) (w1 := (ww_X4_needsName cs ad raR raT xR nT Rv8 T)) (ws' := (ww_X3_needsNewName cs ad raO raR raT xR nT O Rv8 T)) (v := v7) (va_runVN (As := []) (rest := []) ⟨hx, hb, hml, hown, hts⟩ (c_X4_needsName l dC dI cs ad raR raT xR nT _ R T (v7, Rv8) hq6) ⟨va_cnB 0 hts gX3_needsNewName_X4_needsName_n140 rfl rfl rfl (hN _ (List.mem_of_getElem? (i := 77) rfl)) k_initialized_RX4 (by decide +kernel) ⟨Nat.le_of_ble_eq_true rfl, Nat.le_of_ble_eq_true rfl⟩, k_instanceMethod_yX4_needsName, k_selects_RX4_yX4_needsName_yX4_needsName⟩ ⟨fun a U g mk q => ⟨q.1, (fun _ _ _ _ => cPe_bl (fun h => cPw_bl h)) a U g mk q.2⟩, va_recv hK hP (ci := 5) (q0 := 8) rfl rfl, fun U hU hW => ⟨rfl, ⟨hEc U hU hW, ⟨by rw [hU], by rw [hU]; exact (hP.sub (ws' := (ww_X4_needsName cs ad raR raT xR nT R T)) [8, 9] rfl), va_K.moved hW.alike hK, (hD.sub (ws' := (ww_X4_needsName cs ad raR raT xR nT R T)) [8, 9] (by decide) rfl).weaken (fun _ _ _ _ => trivial), kN_warm hW hN⟩⟩⟩⟩ rfl rfl hl.1 rfl (lv_room (Nat.le_of_ble_eq_true rfl)) dX3_needsNewName_1 ⟨Nat.le_refl _, Nat.le_refl _⟩) hP hD hS hA rfl rfl (wr := ((wX3 cs ad raO O))) rfl rfl rfl (nw := 10) rfl (by decide +kernel) rfl (fun H locs hP hD hS => ?_)
  refine lv_if_ne (tgt := 9) hx hb dX3_needsNewName_4 (by decide) (fun hb15 => ?_) (fun hb15 => ?_)
  · have hf := (if_neg hb15).symm.trans hf
    refine lv_aload_n hx hb dX3_needsNewName_9 rfl (lv_at hl 1 rfl) ?_
    refine va_getN (D := (dC, dI)) (ci := 5) (C := RX4) (T := TX4) (N := 11) hx hb hts hinX4 hown hK hP 8 rfl rfl 7 (by decide) (v := .long (Rv8.2 0 7)) (va_Nw.use rfl (hN _ (List.mem_of_getElem? (i := 2) rfl))) (fun _ h9 => h9) rfl dX3_needsNewName_10 ?_
    refine lv_aload_n hx hb dX3_needsNewName_13 rfl (lv_at hl 0 rfl) ?_
    refine va_get (D := (dC, dI)) (ci := 4) (C := RX3) (T := TX3) (N := 11) hx hb hts hinX3 hown hK hP 0 rfl rfl 4 (by decide) (v := .ref (raO 4)) k_fieldLink_RX3_9__KeyLetters_Office___machineNames____J_ (fun _ h9 => h9) rfl dX3_needsNewName_14 ?_
    refine lv_aload_n hx hb dX3_needsNewName_17 rfl (lv_at hl 0 rfl) ?_
    refine va_get (D := (dC, dI)) (ci := 4) (C := RX3) (T := TX3) (N := 11) hx hb hts hinX3 hown hK hP 0 rfl rfl 1 (by decide) (v := .int (O.1 0 1)) k_fieldLink_RX3_38__KeyLetters_Office___machines___I_ (fun _ h9 => h9) rfl dX3_needsNewName_18 ?_
    obtain ⟨v10, hq9, hf⟩ := bo_e hf
    refine ko_call (v := some (.int v10)) (va_runSN (As := [.long (Rv8.2 0 7), .ref (raO 4), .int (O.1 0 1)]) (rest := []) ⟨hx, hb, hml, hown, hts⟩ (c_X11_placeOf l dC dI cs ad (raO 4) 6 (O.2 4) (Rv8.2 0 7) (O.1 0 1) v10 hq9) ⟨va_cnB 3 hts gX3_needsNewName_X11_placeOf_n143 rfl rfl rfl (hN _ (List.mem_of_getElem? (i := 78) rfl)) k_initialized_RX11 (by decide +kernel) ⟨Nat.le_of_ble_eq_true rfl, Nat.le_of_ble_eq_true rfl⟩, k_static_yX11_placeOf, trivial⟩ ⟨fun a U g mk q => ⟨q.1, (fun _ _ _ _ => cPr_bl) a U g mk q.2⟩, fun U hU hW => ⟨rfl, ⟨by rw [hU]; exact (hP.sub (ws' := (ww_X11_placeOf cs ad (raO 4) 6 (O.2 4))) [1] rfl), va_K.moved hW.alike hK, kN_warm hW hN⟩⟩⟩ rfl rfl hl.1 rfl (lv_room (Nat.le_of_ble_eq_true rfl)) dX3_needsNewName_21 ⟨Nat.le_refl _, Nat.le_refl _⟩) ?_
    refine lv_iconst (v := -1) hx hb dX3_needsNewName_24 (by decide) ?_
    refine lv_icmp_ne (tgt := 51) hx hb dX3_needsNewName_25 (by decide) (fun hb14 => ?_) (fun hb14 => ?_)
    · have hf := (if_neg hb14).symm.trans hf
      exact h_51 Rv8 ls _ _ (lv_sub hl [1] rfl) hP hD hS hf
    · have hf := (if_pos hb14).symm.trans hf
      refine lv_aload_n hx hb dX3_needsNewName_28 rfl (lv_at hl 1 rfl) ?_
      refine va_getN (D := (dC, dI)) (ci := 5) (C := RX4) (T := TX4) (N := 11) hx hb hts hinX4 hown hK hP 8 rfl rfl 7 (by decide) (v := .long (Rv8.2 0 7)) (va_Nw.use rfl (hN _ (List.mem_of_getElem? (i := 2) rfl))) (fun _ h9 => h9) rfl dX3_needsNewName_29 ?_
      refine lv_aload_n hx hb dX3_needsNewName_32 rfl (lv_at hl 0 rfl) ?_
      refine va_get (D := (dC, dI)) (ci := 4) (C := RX3) (T := TX3) (N := 11) hx hb hts hinX3 hown hK hP 0 rfl rfl 7 (by decide) (v := .ref (raO 7)) k_fieldLink_RX3_22__KeyLetters_Office___phraseNames____J_ (fun _ h9 => h9) rfl dX3_needsNewName_33 ?_
      refine lv_aload_n hx hb dX3_needsNewName_36 rfl (lv_at hl 0 rfl) ?_
      refine va_get (D := (dC, dI)) (ci := 4) (C := RX3) (T := TX3) (N := 11) hx hb hts hinX3 hown hK hP 0 rfl rfl 2 (by decide) (v := .int (O.1 0 2)) k_fieldLink_RX3_41__KeyLetters_Office___phrases___I_ (fun _ h9 => h9) rfl dX3_needsNewName_37 ?_
      obtain ⟨v12, hq11, hf⟩ := bo_e hf
      refine ko_call (v := some (.int v12)) (va_runSN (As := [.long (Rv8.2 0 7), .ref (raO 7), .int (O.1 0 2)]) (rest := []) ⟨hx, hb, hml, hown, hts⟩ (c_X11_placeOf l dC dI cs ad (raO 7) 8 (O.2 7) (Rv8.2 0 7) (O.1 0 2) v12 hq11) ⟨va_cnB 3 hts gX3_needsNewName_X11_placeOf_n143 rfl rfl rfl (hN _ (List.mem_of_getElem? (i := 78) rfl)) k_initialized_RX11 (by decide +kernel) ⟨Nat.le_of_ble_eq_true rfl, Nat.le_of_ble_eq_true rfl⟩, k_static_yX11_placeOf, trivial⟩ ⟨fun a U g mk q => ⟨q.1, (fun _ _ _ _ => cPr_bl) a U g mk q.2⟩, fun U hU hW => ⟨rfl, ⟨by rw [hU]; exact (hP.sub (ws' := (ww_X11_placeOf cs ad (raO 7) 8 (O.2 7))) [4] rfl), va_K.moved hW.alike hK, kN_warm hW hN⟩⟩⟩ rfl rfl hl.1 rfl (lv_room (Nat.le_of_ble_eq_true rfl)) dX3_needsNewName_40 ⟨Nat.le_refl _, Nat.le_refl _⟩) ?_
      refine lv_iconst (v := -1) hx hb dX3_needsNewName_43 (by decide) ?_
      refine lv_icmp_ne (tgt := 51) hx hb dX3_needsNewName_44 (by decide) (fun hb13 => ?_) (fun hb13 => ?_)
      · have hf := (if_neg hb13).symm.trans hf
        exact h_51 Rv8 ls _ _ (lv_sub hl [1] rfl) hP hD hS hf
      · have hf := (if_pos hb13).symm.trans hf
        refine lv_iconst (v := 1) hx hb dX3_needsNewName_47 (by decide) ?_
        refine lv_goto (tgt := 52) hx hb dX3_needsNewName_48 (by decide) ?_
        exact h_52 (1 : Int32) Rv8 ls _ _ (lv_sub hl [1] rfl) hP hD hS hf
  · have hf := (if_pos hb15).symm.trans hf
    refine lv_iconst (v := 0) hx hb dX3_needsNewName_7 (by decide) ?_
    have hf := Option.some.inj hf
    subst hf
    exact c_zret (v := (0 : Int32)) hx hb hr rfl hlocks hP hK hD hS dX3_needsNewName_8

def ww_X5_canBe (cs : Nat → ClassId) (ad : Nat → Nat) (raO : Nat → Nat) (raS : Nat → Nat) (O : kD) (S : kD) : va_W := (wX3 cs ad raO O ++ (wX9 cs ad raS S))
abbrev rm_X5_canBe : Room := { frames := 2, cells := 0, slots := 0, locals := 43 }
set_option maxHeartbeats 4000000 in
set_option maxRecDepth 100000 in
theorem c_X5_canBe (l : Launch) (dC : Nat → ClassId) (dI : Nat → Nat → Nat) (cs : Nat → ClassId) (ad : Nat → Nat) (raO : Nat → Nat) (raS : Nat → Nat) (O : kD) (S : kD) (a2 : Int32) (r : Int32) (hf : f_X5_canBe a2 O S = some r) : Met l yX5_canBe wsX5_canBe rm_X5_canBe (va_Pc [.ref (raO 0), .ref (raS 0), .int a2] (cPr dC dI cs (ww_X5_canBe cs ad raO raS O S))) (kQ (some (.int r))) 0 0 (kF) := by
  refine Met.ofW (cc := cX5_canBe) (maxL := 4) (ret := (some .boolean)) (by decide) rfl ?_
  intro p e s m args below meth c s₁ B hml hv
  obtain ⟨hav, hP, hK, hN⟩ := hv
  have hx := B.exec
  have hb := B.bytes
  have hr := B.returns
  have hts := atoms_spec (ws := wsX5_canBe) B.pre
  have hown : s.vm.findClass RX5 = some m.cls := findClass_of_methodNamed B.named
  have hlocks := B.notSynchronized
  have k_initialized_RX3 := hts (.initialized RX3) (List.mem_of_getElem? (i := 10) rfl)
  have k_initialized_RX9 := hts (.initialized RX9) (List.mem_of_getElem? (i := 2) rfl)
  have k_instanceMethod_yX3_knowsOf := hts (.instanceMethod yX3_knowsOf) (List.mem_of_getElem? (i := 9) rfl)
  have k_instanceMethod_yX9_isHeld := hts (.instanceMethod yX9_isHeld) (List.mem_of_getElem? (i := 1) rfl)
  have k_selects_RX3_yX3_knowsOf_yX3_knowsOf := hts (.selects RX3 yX3_knowsOf yX3_knowsOf) (List.mem_of_getElem? (i := 11) rfl)
  have k_selects_RX9_yX9_isHeld_yX9_isHeld := hts (.selects RX9 yX9_isHeld yX9_isHeld) (List.mem_of_getElem? (i := 3) rfl)
  have hl := lv_entry ([.ref (raO 0), .ref (raS 0), .int a2]) (n := 4) (Nat.le_of_ble_eq_true rfl)
  rw [show entryFrame m args 4 = entryFrame m ([.ref (raO 0), .ref (raS 0), .int a2] : List Value).toArray 4 from by rw [hav], lg_entry_eq]
  generalize (lg_sl ([.ref (raO 0), .ref (raS 0), .int a2]) ++ List.replicate (4 - (lg_sl ([.ref (raO 0), .ref (raS 0), .int a2])).length) Slot.unset).toArray = ls at hl ⊢
  have hl : lv_has ls 4 [(0, .ref (raO 0)), (1, .ref (raS 0)), (2, .int a2)] := hl
  unfold f_X5_canBe at hf
  refine lv_iload_n hx hb dX5_canBe_0 rfl (lv_at hl 2 rfl) ?_
  refine lv_bipush (v := 8) hx hb dX5_canBe_1 (by decide) ?_
  refine lv_idiv hx hb dX5_canBe_3 (by decide) ?_
  obtain ⟨v1, ev1, hf⟩ := bd1_e hf
  refine kt_i ev1 ?_
  refine lv_istore_n (nL := 4) (lv' := [(3, .int v1), (0, .ref (raO 0)), (1, .ref (raS 0)), (2, .int a2)]) hx hb dX5_canBe_4 rfl hl (by decide) rfl (fun ls hl => ?_)
  refine lv_aload_n hx hb dX5_canBe_5 rfl (lv_at hl 2 rfl) ?_
  refine lv_iload_n hx hb dX5_canBe_6 rfl (lv_at hl 0 rfl) ?_
  refine ko_call (v := some (.int (f_X9_isHeld v1 S))) (va_runVN (As := [.int v1]) (rest := []) ⟨hx, hb, hml, hown, hts⟩ (c_X9_isHeld l dC dI cs ad raS S v1 _ rfl) ⟨va_cnB 1 hts gX5_canBe_X9_isHeld_n49 rfl rfl rfl (hN _ (List.mem_of_getElem? (i := 108) rfl)) k_initialized_RX9 (by decide +kernel) ⟨Nat.le_of_ble_eq_true rfl, Nat.le_of_ble_eq_true rfl⟩, k_instanceMethod_yX9_isHeld, k_selects_RX9_yX9_isHeld_yX9_isHeld⟩ ⟨fun a U g mk q => ⟨q.1, (fun _ _ _ _ => cPr_bl) a U g mk q.2⟩, va_recv hK hP (ci := 10) (q0 := 8) rfl rfl, fun U hU hW => ⟨rfl, ⟨by rw [hU]; exact (hP.sub (ws' := (ww_X9_isHeld cs ad raS S)) [8, 9, 10, 11, 12] rfl), va_K.moved hW.alike hK, kN_warm hW hN⟩⟩⟩ rfl rfl hl.1 rfl (lv_room (Nat.le_of_ble_eq_true rfl)) dX5_canBe_7 ⟨Nat.le_refl _, Nat.le_refl _⟩) ?_
  refine lv_if_ne (tgt := 29) hx hb dX5_canBe_10 (by decide) (fun hb5 => ?_) (fun hb5 => ?_)
  · have hf := (if_neg hb5).symm.trans hf
    refine lv_iconst (v := 0) hx hb dX5_canBe_29 (by decide) ?_
    have hf := Option.some.inj hf
    subst hf
    exact W.zret (v := (0 : Int32)) (ty := .boolean) hx hb hr rfl (fun t ht hW => ⟨rfl, ht⟩) (fun _ h => nomatch h) dX5_canBe_30
  · have hf := (if_pos hb5).symm.trans hf
    refine lv_aload_n hx hb dX5_canBe_13 rfl (lv_at hl 1 rfl) ?_
    refine lv_iload_n hx hb dX5_canBe_14 rfl (lv_at hl 0 rfl) ?_
    refine lv_iload_n hx hb dX5_canBe_15 rfl (lv_at hl 3 rfl) ?_
    refine lv_bipush (v := 8) hx hb dX5_canBe_16 (by decide) ?_
    refine lv_irem hx hb dX5_canBe_18 (by decide) ?_
    obtain ⟨v3, hq2, hf⟩ := bo_e hf
    refine ko_call (v := some (.int v3)) (va_runVN (As := [.int v1, .int (kRem a2 (8 : Int32))]) (rest := []) ⟨hx, hb, hml, hown, hts⟩ (c_X3_knowsOf l dC dI cs ad raO O v1 (kRem a2 (8 : Int32)) v3 hq2) ⟨va_cnB 2 hts gX5_canBe_X3_knowsOf_n53 rfl rfl rfl (hN _ (List.mem_of_getElem? (i := 109) rfl)) k_initialized_RX3 (by decide +kernel) ⟨Nat.le_of_ble_eq_true rfl, Nat.le_of_ble_eq_true rfl⟩, k_instanceMethod_yX3_knowsOf, k_selects_RX3_yX3_knowsOf_yX3_knowsOf⟩ ⟨fun a U g mk q => ⟨q.1, (fun _ _ _ _ => cPr_bl) a U g mk q.2⟩, va_recv hK hP (ci := 4) (q0 := 0) rfl rfl, fun U hU hW => ⟨rfl, ⟨by rw [hU]; exact (hP.sub (ws' := (ww_X3_knowsOf cs ad raO O)) [0, 1, 2, 3, 4, 5, 6, 7] rfl), va_K.moved hW.alike hK, kN_warm hW hN⟩⟩⟩ rfl rfl hl.1 rfl (lv_room (Nat.le_of_ble_eq_true rfl)) dX5_canBe_19 ⟨Nat.le_refl _, Nat.le_refl _⟩) ?_
    refine lv_if_eq (tgt := 29) hx hb dX5_canBe_22 (by decide) (fun hb4 => ?_) (fun hb4 => ?_)
    · have hf := (if_pos hb4).symm.trans hf
      refine lv_iconst (v := 0) hx hb dX5_canBe_29 (by decide) ?_
      have hf := Option.some.inj hf
      subst hf
      exact W.zret (v := (0 : Int32)) (ty := .boolean) hx hb hr rfl (fun t ht hW => ⟨rfl, ht⟩) (fun _ h => nomatch h) dX5_canBe_30
    · have hf := (if_neg hb4).symm.trans hf
      refine lv_iconst (v := 1) hx hb dX5_canBe_25 (by decide) ?_
      refine lv_goto (tgt := 30) hx hb dX5_canBe_26 (by decide) ?_
      have hf := Option.some.inj hf
      subst hf
      exact W.zret (v := (1 : Int32)) (ty := .boolean) hx hb hr rfl (fun t ht hW => ⟨rfl, ht⟩) (fun _ h => nomatch h) dX5_canBe_30

def ww_X5_follows (cs : Nat → ClassId) (ad : Nat → Nat) (raO : Nat → Nat) (O : kD) : va_W := (wX3 cs ad raO O)
abbrev rm_X5_follows : Room := { frames := 2, cells := 0, slots := 0, locals := 43 }
set_option maxHeartbeats 4000000 in
set_option maxRecDepth 100000 in
theorem c_X5_follows (l : Launch) (dC : Nat → ClassId) (dI : Nat → Nat → Nat) (cs : Nat → ClassId) (ad : Nat → Nat) (raO : Nat → Nat) (O : kD) (a1 : Int32) (a2 : Int32) (a3 : Int32) (r : Int32) (hf : f_X5_follows a1 a2 a3 O = some r) : Met l yX5_follows wsX5_follows rm_X5_follows (va_Pc [.ref (raO 0), .int a1, .int a2, .int a3] (cPr dC dI cs (ww_X5_follows cs ad raO O))) (kQ (some (.int r))) 0 0 (kF) := by
  refine Met.ofW (cc := cX5_follows) (maxL := 4) (ret := (some .boolean)) (by decide) rfl ?_
  intro p e s m args below meth c s₁ B hml hv
  obtain ⟨hav, hP, hK, hN⟩ := hv
  have hx := B.exec
  have hb := B.bytes
  have hr := B.returns
  have hts := atoms_spec (ws := wsX5_follows) B.pre
  have hown : s.vm.findClass RX5 = some m.cls := findClass_of_methodNamed B.named
  have hlocks := B.notSynchronized
  have k_initialized_RX3 := hts (.initialized RX3) (List.mem_of_getElem? (i := 2) rfl)
  have k_instanceMethod_yX3_isAnswer := hts (.instanceMethod yX3_isAnswer) (List.mem_of_getElem? (i := 1) rfl)
  have k_selects_RX3_yX3_isAnswer_yX3_isAnswer := hts (.selects RX3 yX3_isAnswer yX3_isAnswer) (List.mem_of_getElem? (i := 3) rfl)
  have hl := lv_entry ([.ref (raO 0), .int a1, .int a2, .int a3]) (n := 4) (Nat.le_of_ble_eq_true rfl)
  rw [show entryFrame m args 4 = entryFrame m ([.ref (raO 0), .int a1, .int a2, .int a3] : List Value).toArray 4 from by rw [hav], lg_entry_eq]
  generalize (lg_sl ([.ref (raO 0), .int a1, .int a2, .int a3]) ++ List.replicate (4 - (lg_sl ([.ref (raO 0), .int a1, .int a2, .int a3])).length) Slot.unset).toArray = ls at hl ⊢
  have hl : lv_has ls 4 [(0, .ref (raO 0)), (1, .int a1), (2, .int a2), (3, .int a3)] := hl
  unfold f_X5_follows at hf
  refine lv_iload_n hx hb dX5_follows_0 rfl (lv_at hl 2 rfl) ?_
  refine lv_iconst (v := -1) hx hb dX5_follows_1 (by decide) ?_
  refine lv_icmp_ne (tgt := 7) hx hb dX5_follows_2 (by decide) (fun hb5 => ?_) (fun hb5 => ?_)
  · have hf := (if_neg hb5).symm.trans hf
    refine lv_iload_n hx hb dX5_follows_7 rfl (lv_at hl 3 rfl) ?_
    refine lv_bipush (v := 8) hx hb dX5_follows_8 (by decide) ?_
    refine lv_idiv hx hb dX5_follows_10 (by decide) ?_
    refine lv_iload_n hx hb dX5_follows_11 rfl (lv_at hl 1 rfl) ?_
    refine lv_icmp_eq (tgt := 31) hx hb dX5_follows_12 (by decide) (fun hb4 => ?_) (fun hb4 => ?_)
    · have hf := (if_pos hb4).symm.trans hf
      refine lv_iconst (v := 0) hx hb dX5_follows_31 (by decide) ?_
      have hf := Option.some.inj hf
      subst hf
      exact W.zret (v := (0 : Int32)) (ty := .boolean) hx hb hr rfl (fun t ht hW => ⟨rfl, ht⟩) (fun _ h => nomatch h) dX5_follows_32
    · have hf := (if_neg hb4).symm.trans hf
      refine lv_aload_n hx hb dX5_follows_15 rfl (lv_at hl 0 rfl) ?_
      refine lv_iload_n hx hb dX5_follows_16 rfl (lv_at hl 3 rfl) ?_
      refine lv_bipush (v := 8) hx hb dX5_follows_17 (by decide) ?_
      refine lv_irem hx hb dX5_follows_19 (by decide) ?_
      refine lv_iload_n hx hb dX5_follows_20 rfl (lv_at hl 2 rfl) ?_
      obtain ⟨v2, hq1, hf⟩ := bo_e hf
      refine ko_call (v := some (.int v2)) (va_runVN (As := [.int (kRem a3 (8 : Int32)), .int a2]) (rest := []) ⟨hx, hb, hml, hown, hts⟩ (c_X3_isAnswer l dC dI cs ad raO O (kRem a3 (8 : Int32)) a2 v2 hq1) ⟨va_cnB 2 hts gX5_follows_X3_isAnswer_n59 rfl rfl rfl (hN _ (List.mem_of_getElem? (i := 110) rfl)) k_initialized_RX3 (by decide +kernel) ⟨Nat.le_of_ble_eq_true rfl, Nat.le_of_ble_eq_true rfl⟩, k_instanceMethod_yX3_isAnswer, k_selects_RX3_yX3_isAnswer_yX3_isAnswer⟩ ⟨fun a U g mk q => ⟨q.1, (fun _ _ _ _ => cPr_bl) a U g mk q.2⟩, va_recv hK hP (ci := 4) (q0 := 0) rfl rfl, fun U hU hW => ⟨rfl, ⟨by rw [hU]; exact (hP.sub (ws' := (ww_X3_isAnswer cs ad raO O)) [0, 1, 2, 3, 4, 5, 6, 7] rfl), va_K.moved hW.alike hK, kN_warm hW hN⟩⟩⟩ rfl rfl hl.1 rfl (lv_room (Nat.le_of_ble_eq_true rfl)) dX5_follows_21 ⟨Nat.le_refl _, Nat.le_refl _⟩) ?_
      refine lv_if_eq (tgt := 31) hx hb dX5_follows_24 (by decide) (fun hb3 => ?_) (fun hb3 => ?_)
      · have hf := (if_pos hb3).symm.trans hf
        refine lv_iconst (v := 0) hx hb dX5_follows_31 (by decide) ?_
        have hf := Option.some.inj hf
        subst hf
        exact W.zret (v := (0 : Int32)) (ty := .boolean) hx hb hr rfl (fun t ht hW => ⟨rfl, ht⟩) (fun _ h => nomatch h) dX5_follows_32
      · have hf := (if_neg hb3).symm.trans hf
        refine lv_iconst (v := 1) hx hb dX5_follows_27 (by decide) ?_
        refine lv_goto (tgt := 32) hx hb dX5_follows_28 (by decide) ?_
        have hf := Option.some.inj hf
        subst hf
        exact W.zret (v := (1 : Int32)) (ty := .boolean) hx hb hr rfl (fun t ht hW => ⟨rfl, ht⟩) (fun _ h => nomatch h) dX5_follows_32
  · have hf := (if_pos hb5).symm.trans hf
    refine lv_iconst (v := 1) hx hb dX5_follows_5 (by decide) ?_
    have hf := Option.some.inj hf
    subst hf
    exact W.zret (v := (1 : Int32)) (ty := .boolean) hx hb hr rfl (fun t ht hW => ⟨rfl, ht⟩) (fun _ h => nomatch h) dX5_follows_6

def ww_X5_measure (cs : Nat → ClassId) (ad : Nat → Nat) (raP : Nat → Nat) (raO : Nat → Nat) (raS : Nat → Nat) (P : kD) (O : kD) (S : kD) : va_W := (wX5 cs ad raP P ++ (wX3 cs ad raO O ++ (wX9 cs ad raS S)))
abbrev rm_X5_measure : Room := { frames := 3, cells := 0, slots := 0, locals := 66 }
set_option maxHeartbeats 4000000 in
set_option maxRecDepth 100000 in
theorem c_X5_measure (l : Launch) (dC : Nat → ClassId) (dI : Nat → Nat → Nat) (cs : Nat → ClassId) (ad : Nat → Nat) (raP : Nat → Nat) (raO : Nat → Nat) (raS : Nat → Nat) (sz : Nat) (P : kD) (O : kD) (S : kD) (a2 : Int32) (r : kD) (hf : f_X5_measure a2 P O S = some r) : Met l yX5_measure wsX5_measure rm_X5_measure (va_Pc [.ref (raP 0), .ref (raO 0), .ref (raS 0), .int a2] (cPw dC dI cs sz (ww_X5_measure cs ad raP raO raS P O S))) (cQv dC dI cs (va_A (ww_X5_measure cs ad raP raO raS zD zD zD) sz) (ww_X5_measure cs ad raP raO raS r O S)) 0 0 (va_A (ww_X5_measure cs ad raP raO raS zD zD zD) sz) := by
  refine Met.ofW (cc := cX5_measure) (maxL := 8) (ret := none) (by decide) rfl ?_
  intro p e s m args below meth c s₁ B hml hv
  obtain ⟨hav, hsz, hP, hK, hD0, hN⟩ := hv
  have hx := B.exec
  have hb := B.bytes
  have hr := B.returns
  have hts := atoms_spec (ws := wsX5_measure) B.pre
  have hown : s.vm.findClass RX5 = some m.cls := findClass_of_methodNamed B.named
  have hlocks := B.notSynchronized
  subst hsz
  have hA : ∀ q, s.heap.size ≤ q → va_A (ww_X5_measure cs ad raP raO raS zD zD zD) s.heap.size q := fun q h => Or.inr h
  have hD : va_D (va_A (ww_X5_measure cs ad raP raO raS zD zD zD) s.heap.size) (ww_X5_measure cs ad raP raO raS P O S) := hD0.weaken (fun k q h _ => cA_in (ws := (ww_X5_measure cs ad raP raO raS P O S)) (ws' := (ww_X5_measure cs ad raP raO raS zD zD zD)) rfl h)
  have hS : va_S (va_A (ww_X5_measure cs ad raP raO raS zD zD zD) s.heap.size) s.heap s.heap [] := va_S.rf
  have hinX5 := (show ∀ w ∈ wsX50, w ∈ wsX5_measure from fun w h => List.mem_cons_of_mem _ (List.mem_append_left _ (List.mem_append_left _ (List.mem_append_right _ h))))
  have k_fieldLink_RX5_11__KeyLetters_Route___stillToGo____I_ := hts (.fieldLink RX5 11 "KeyLetters$Route" "stillToGo" "[I") (List.mem_of_getElem? (i := 1) rfl)
  have k_fieldLink_RX5_15__KeyLetters_Route___queue____I_ := hts (.fieldLink RX5 15 "KeyLetters$Route" "queue" "[I") (List.mem_of_getElem? (i := 2) rfl)
  have hl := lv_entry ([.ref (raP 0), .ref (raO 0), .ref (raS 0), .int a2]) (n := 8) (Nat.le_of_ble_eq_true rfl)
  rw [show entryFrame m args 8 = entryFrame m ([.ref (raP 0), .ref (raO 0), .ref (raS 0), .int a2] : List Value).toArray 8 from by rw [hav], lg_entry_eq]
  generalize (lg_sl ([.ref (raP 0), .ref (raO 0), .ref (raS 0), .int a2]) ++ List.replicate (8 - (lg_sl ([.ref (raP 0), .ref (raO 0), .ref (raS 0), .int a2])).length) Slot.unset).toArray = ls at hl ⊢
  have hl : lv_has ls 8 [(0, .ref (raP 0)), (1, .ref (raO 0)), (2, .ref (raS 0)), (3, .int a2)] := hl
  unfold f_X5_measure at hf
  have h_66 : ∀ (x4_66 : Int32) (P_66 : kD) (ls : Array Slot) (H : Heap) (locs : List Loc), lv_has ls 8 [(0, .ref (raP 0)), (1, .ref (raO 0)), (2, .ref (raS 0)), (4, .int x4_66)] → va_P (dC, dI) vwCl (ww_X5_measure cs ad raP raO raS P_66 O S) H → va_D (va_A (ww_X5_measure cs ad raP raO raS zD zD zD) s.heap.size) (ww_X5_measure cs ad raP raO raS P_66 O S) → va_S (va_A (ww_X5_measure cs ad raP raO raS zD zD zD) s.heap.size) s.heap H locs → g_X5_measure_66 O S x4_66 P_66 = some r → W p l e (headSpec wsX5_measure rm_X5_measure).room s m args below meth c H locs 0 0 (MQ below (cQv dC dI cs (va_A (ww_X5_measure cs ad raP raO raS zD zD zD) s.heap.size) (ww_X5_measure cs ad raP raO raS r O S)) args s 0 0 (va_A (ww_X5_measure cs ad raP raO raS zD zD zD) s.heap.size)) (F0 m 66 ls []) := by
    intro x4_66 P_66 ls H locs hl hP hD hS hf
    unfold g_X5_measure_66 at hf
    have h_69 := lp_ind (z := (fun _ _ _ => none)) (b := (g_X5_measure_69 O S)) (fun (rc_69 : Int32 → Int32 → kD → Option kD) => ∀ (x4_69 : Int32) (x5_69 : Int32) (P_69 : kD) (ls : Array Slot) (H : Heap) (locs : List Loc), lv_has ls 8 [(0, .ref (raP 0)), (1, .ref (raO 0)), (2, .ref (raS 0)), (4, .int x4_69), (5, .int x5_69)] → va_P (dC, dI) vwCl (ww_X5_measure cs ad raP raO raS P_69 O S) H → va_D (va_A (ww_X5_measure cs ad raP raO raS zD zD zD) s.heap.size) (ww_X5_measure cs ad raP raO raS P_69 O S) → va_S (va_A (ww_X5_measure cs ad raP raO raS zD zD zD) s.heap.size) s.heap H locs → rc_69 x4_69 x5_69 P_69 = some r → W p l e (headSpec wsX5_measure rm_X5_measure).room s m args below meth c H locs 0 0 (MQ below (cQv dC dI cs (va_A (ww_X5_measure cs ad raP raO raS zD zD zD) s.heap.size) (ww_X5_measure cs ad raP raO raS r O S)) args s 0 0 (va_A (ww_X5_measure cs ad raP raO raS zD zD zD) s.heap.size)) (F0 m 69 ls [])) (by
        intro x4_69 x5_69 P_69 ls H locs hl hP hD hS hf
        cases hf) (by
        intro rc_69 ih_69 x4_69 x5_69 P_69 ls H locs hl hP hD hS hf
        unfold g_X5_measure_69 at hf
        have h_183 : ∀ (x4_183 : Int32) (x5_183 : Int32) (P_183 : kD) (ls : Array Slot) (H : Heap) (locs : List Loc), lv_has ls 8 [(0, .ref (raP 0)), (1, .ref (raO 0)), (2, .ref (raS 0)), (4, .int x4_183), (5, .int x5_183)] → va_P (dC, dI) vwCl (ww_X5_measure cs ad raP raO raS P_183 O S) H → va_D (va_A (ww_X5_measure cs ad raP raO raS zD zD zD) s.heap.size) (ww_X5_measure cs ad raP raO raS P_183 O S) → va_S (va_A (ww_X5_measure cs ad raP raO raS zD zD zD) s.heap.size) s.heap H locs → g_X5_measure_183 rc_69 O S x4_183 x5_183 P_183 = some r → W p l e (headSpec wsX5_measure rm_X5_measure).room s m args below meth c H locs 0 0 (MQ below (cQv dC dI cs (va_A (ww_X5_measure cs ad raP raO raS zD zD zD) s.heap.size) (ww_X5_measure cs ad raP raO raS r O S)) args s 0 0 (va_A (ww_X5_measure cs ad raP raO raS zD zD zD) s.heap.size)) (F0 m 183 ls []) := by
          intro x4_183 x5_183 P_183 ls H locs hl hP hD hS hf
          unfold g_X5_measure_183 at hf
          obtain ⟨v1, ev1, hf⟩ := bd1_e hf
          refine lv_iinc (k := 4) (x := x5_183) (v := v1) (nL := 8) (lv' := [(5, .int v1), (0, .ref (raP 0)), (1, .ref (raO 0)), (2, .ref (raS 0)), (4, .int x4_183)]) hx hb dX5_measure_183 hl rfl (kt_inc (w := 1) (by decide) ev1) (by decide) rfl (fun ls hl => ?_)
          refine lv_goto (tgt := 69) hx hb dX5_measure_186 (by decide) ?_
          exact ih_69 x4_183 v1 P_183 ls _ _ (lv_sub hl [1, 2, 3, 4, 0] rfl) hP hD hS hf
        have h_95 := lp_ind (z := (fun _ _ _ _ _ => none)) (b := (g_X5_measure_95 rc_69 O S)) (fun (rc_95 : Int32 → Int32 → Int32 → Int32 → kD → Option kD) => ∀ (x4_95 : Int32) (x5_95 : Int32) (x6_95 : Int32) (x7_95 : Int32) (P_95 : kD) (ls : Array Slot) (H : Heap) (locs : List Loc), lv_has ls 8 [(0, .ref (raP 0)), (1, .ref (raO 0)), (2, .ref (raS 0)), (4, .int x4_95), (5, .int x5_95), (6, .int x6_95), (7, .int x7_95)] → va_P (dC, dI) vwCl (ww_X5_measure cs ad raP raO raS P_95 O S) H → va_D (va_A (ww_X5_measure cs ad raP raO raS zD zD zD) s.heap.size) (ww_X5_measure cs ad raP raO raS P_95 O S) → va_S (va_A (ww_X5_measure cs ad raP raO raS zD zD zD) s.heap.size) s.heap H locs → rc_95 x4_95 x5_95 x6_95 x7_95 P_95 = some r → W p l e (headSpec wsX5_measure rm_X5_measure).room s m args below meth c H locs 0 0 (MQ below (cQv dC dI cs (va_A (ww_X5_measure cs ad raP raO raS zD zD zD) s.heap.size) (ww_X5_measure cs ad raP raO raS r O S)) args s 0 0 (va_A (ww_X5_measure cs ad raP raO raS zD zD zD) s.heap.size)) (F0 m 95 ls [])) (by
            intro x4_95 x5_95 x6_95 x7_95 P_95 ls H locs hl hP hD hS hf
            cases hf) (by
            intro rc_95 ih_95 x4_95 x5_95 x6_95 x7_95 P_95 ls H locs hl hP hD hS hf
            unfold g_X5_measure_95 at hf
            have h_177 : ∀ (x4_177 : Int32) (x5_177 : Int32) (x6_177 : Int32) (x7_177 : Int32) (P_177 : kD) (ls : Array Slot) (H : Heap) (locs : List Loc), lv_has ls 8 [(0, .ref (raP 0)), (1, .ref (raO 0)), (2, .ref (raS 0)), (4, .int x4_177), (5, .int x5_177), (6, .int x6_177), (7, .int x7_177)] → va_P (dC, dI) vwCl (ww_X5_measure cs ad raP raO raS P_177 O S) H → va_D (va_A (ww_X5_measure cs ad raP raO raS zD zD zD) s.heap.size) (ww_X5_measure cs ad raP raO raS P_177 O S) → va_S (va_A (ww_X5_measure cs ad raP raO raS zD zD zD) s.heap.size) s.heap H locs → g_X5_measure_177 rc_69 rc_95 O S x4_177 x5_177 x6_177 x7_177 P_177 = some r → W p l e (headSpec wsX5_measure rm_X5_measure).room s m args below meth c H locs 0 0 (MQ below (cQv dC dI cs (va_A (ww_X5_measure cs ad raP raO raS zD zD zD) s.heap.size) (ww_X5_measure cs ad raP raO raS r O S)) args s 0 0 (va_A (ww_X5_measure cs ad raP raO raS zD zD zD) s.heap.size)) (F0 m 177 ls []) := by
              intro x4_177 x5_177 x6_177 x7_177 P_177 ls H locs hl hP hD hS hf
              unfold g_X5_measure_177 at hf
              obtain ⟨v2, ev2, hf⟩ := bd1_e hf
              refine lv_iinc (k := 6) (x := x7_177) (v := v2) (nL := 8) (lv' := [(7, .int v2), (0, .ref (raP 0)), (1, .ref (raO 0)), (2, .ref (raS 0)), (4, .int x4_177), (5, .int x5_177), (6, .int x6_177)]) hx hb dX5_measure_177 hl rfl (kt_inc (w := 1) (by decide) ev2) (by decide) rfl (fun ls hl => ?_)
              refine lv_goto (tgt := 95) hx hb dX5_measure_180 (by decide) ?_
              exact ih_95 x4_177 x5_177 x6_177 v2 P_177 ls _ _ (lv_sub hl [1, 2, 3, 4, 5, 6, 0] rfl) hP hD hS hf
            refine lv_iload hx hb dX5_measure_95 (lv_at hl 6 rfl) ?_
            refine lv_bipush (v := 48) hx hb dX5_measure_97 (by decide) ?_
            refine lv_icmp_ge (tgt := 183) hx hb dX5_measure_99 (by decide) (fun hb18 => ?_) (fun hb18 => ?_)
            · have hf := (if_pos hb18).symm.trans hf
              exact h_183 x4_95 x5_95 P_95 ls _ _ (lv_sub hl [0, 1, 2, 3, 4] rfl) hP hD hS hf
            · have hf := (if_neg hb18).symm.trans hf
              refine lv_iload hx hb dX5_measure_102 (lv_at hl 3 rfl) ?_
              refine lv_bipush (v := 48) hx hb dX5_measure_104 (by decide) ?_
              refine lv_icmp_ge (tgt := 183) hx hb dX5_measure_106 (by decide) (fun hb17 => ?_) (fun hb17 => ?_)
              · have hf := (if_pos hb17).symm.trans hf
                exact h_183 x4_95 x5_95 P_95 ls _ _ (lv_sub hl [0, 1, 2, 3, 4] rfl) hP hD hS hf
              · have hf := (if_neg hb17).symm.trans hf
                refine lv_aload_n hx hb dX5_measure_109 rfl (lv_at hl 0 rfl) ?_
                refine va_get (D := (dC, dI)) (ci := 6) (C := RX5) (T := TX5) (N := 4) hx hb hts hinX5 hown hK hP 0 rfl rfl 0 (by decide) (v := .ref (raP 100)) k_fieldLink_RX5_11__KeyLetters_Route___stillToGo____I_ (fun _ h9 => h9) rfl dX5_measure_110 ?_
                refine lv_iload hx hb dX5_measure_113 (lv_at hl 6 rfl) ?_
                obtain ⟨hc3, hf⟩ := ck_e hf
                refine va_iald hx hb hK hP 1 1 rfl rfl hc3 dX5_measure_115 ?_
                refine lv_iconst (v := -1) hx hb dX5_measure_116 (by decide) ?_
                refine lv_icmp_ne (tgt := 177) hx hb dX5_measure_117 (by decide) (fun hb16 => ?_) (fun hb16 => ?_)
                · have hf := (if_neg hb16).symm.trans hf
                  exact h_177 x4_95 x5_95 x6_95 x7_95 P_95 ls _ _ hl hP hD hS hf
                · have hf := (if_pos hb16).symm.trans hf
                  refine lv_aload_n hx hb dX5_measure_120 rfl (lv_at hl 1 rfl) ?_
                  refine lv_aload_n hx hb dX5_measure_121 rfl (lv_at hl 2 rfl) ?_
                  refine lv_iload hx hb dX5_measure_122 (lv_at hl 6 rfl) ?_
                  obtain ⟨v5, hq4, hf⟩ := bo_e hf
                  refine ko_call (v := some (.int v5)) (va_runS (As := [.ref (raO 0), .ref (raS 0), .int x7_95]) (rest := []) ⟨hx, hb, hml, hown, hts⟩ (c_X5_canBe l dC dI cs ad raO raS O S x7_95 v5 hq4) (va_cwS 3 hts gX5_measure_X5_canBe rfl rfl rfl (by decide +kernel) ⟨Nat.le_of_ble_eq_true rfl, Nat.le_of_ble_eq_true rfl⟩) ⟨fun a U g mk q => ⟨q.1, (fun _ _ _ _ => cPr_bl) a U g mk q.2⟩, fun U hU hW => ⟨rfl, ⟨by rw [hU]; exact (hP.sub (ws' := (ww_X5_canBe cs ad raO raS O S)) [4, 5, 6, 7, 8, 9, 10, 11, 12, 13, 14, 15, 16] rfl), va_K.moved hW.alike hK, kN_warm hW hN⟩⟩⟩ rfl rfl hl.1 rfl (lv_room (Nat.le_of_ble_eq_true rfl)) dX5_measure_124 ⟨Nat.le_refl _, Nat.le_refl _⟩) ?_
                  refine lv_if_eq (tgt := 177) hx hb dX5_measure_127 (by decide) (fun hb15 => ?_) (fun hb15 => ?_)
                  · have hf := (if_pos hb15).symm.trans hf
                    exact h_177 x4_95 x5_95 x6_95 x7_95 P_95 ls _ _ hl hP hD hS hf
                  · have hf := (if_neg hb15).symm.trans hf
                    refine lv_aload_n hx hb dX5_measure_130 rfl (lv_at hl 1 rfl) ?_
                    refine lv_iload hx hb dX5_measure_131 (lv_at hl 6 rfl) ?_
                    refine lv_bipush (v := 8) hx hb dX5_measure_133 (by decide) ?_
                    refine lv_idiv hx hb dX5_measure_135 (by decide) ?_
                    refine lv_iload hx hb dX5_measure_136 (lv_at hl 6 rfl) ?_
                    refine lv_bipush (v := 8) hx hb dX5_measure_138 (by decide) ?_
                    refine lv_irem hx hb dX5_measure_140 (by decide) ?_
                    refine lv_iload hx hb dX5_measure_141 (lv_at hl 5 rfl) ?_
                    obtain ⟨v7, hq6, hf⟩ := bo_e hf
                    refine ko_call (v := some (.int v7)) (va_runS (As := [.ref (raO 0), .int (x7_95 / (8 : Int32)), .int (kRem x7_95 (8 : Int32)), .int x6_95]) (rest := []) ⟨hx, hb, hml, hown, hts⟩ (c_X5_follows l dC dI cs ad raO O (x7_95 / (8 : Int32)) (kRem x7_95 (8 : Int32)) x6_95 v7 hq6) (va_cwS 4 hts gX5_measure_X5_follows rfl rfl rfl (by decide +kernel) ⟨Nat.le_of_ble_eq_true rfl, Nat.le_of_ble_eq_true rfl⟩) ⟨fun a U g mk q => ⟨q.1, (fun _ _ _ _ => cPr_bl) a U g mk q.2⟩, fun U hU hW => ⟨rfl, ⟨by rw [hU]; exact (hP.sub (ws' := (ww_X5_follows cs ad raO O)) [4, 5, 6, 7, 8, 9, 10, 11] rfl), va_K.moved hW.alike hK, kN_warm hW hN⟩⟩⟩ rfl rfl hl.1 rfl (lv_room (Nat.le_of_ble_eq_true rfl)) dX5_measure_143 ⟨Nat.le_refl _, Nat.le_refl _⟩) ?_
                    refine lv_if_eq (tgt := 177) hx hb dX5_measure_146 (by decide) (fun hb14 => ?_) (fun hb14 => ?_)
                    · have hf := (if_pos hb14).symm.trans hf
                      exact h_177 x4_95 x5_95 x6_95 x7_95 P_95 ls _ _ hl hP hD hS hf
                    · have hf := (if_neg hb14).symm.trans hf
                      refine lv_aload_n hx hb dX5_measure_149 rfl (lv_at hl 0 rfl) ?_
                      refine va_get (D := (dC, dI)) (ci := 6) (C := RX5) (T := TX5) (N := 4) hx hb hts hinX5 hown hK hP 0 rfl rfl 0 (by decide) (v := .ref (raP 100)) k_fieldLink_RX5_11__KeyLetters_Route___stillToGo____I_ (fun _ h9 => h9) rfl dX5_measure_150 ?_
                      refine lv_iload hx hb dX5_measure_153 (lv_at hl 6 rfl) ?_
                      refine lv_aload_n hx hb dX5_measure_155 rfl (lv_at hl 0 rfl) ?_
                      refine va_get (D := (dC, dI)) (ci := 6) (C := RX5) (T := TX5) (N := 4) hx hb hts hinX5 hown hK hP 0 rfl rfl 0 (by decide) (v := .ref (raP 100)) k_fieldLink_RX5_11__KeyLetters_Route___stillToGo____I_ (fun _ h9 => h9) rfl dX5_measure_156 ?_
                      refine lv_iload hx hb dX5_measure_159 (lv_at hl 5 rfl) ?_
                      obtain ⟨hc8, hf⟩ := ck_e hf
                      refine va_iald hx hb hK hP 1 1 rfl rfl hc8 dX5_measure_161 ?_
                      refine lv_iconst (v := 1) hx hb dX5_measure_162 (by decide) ?_
                      refine lv_iadd hx hb dX5_measure_163 ?_
                      obtain ⟨hc9, hf⟩ := ck_e hf
                      obtain ⟨Pv10, ePv10, hf⟩ := bd1_e hf
                      refine va_iast hx hb hK hP hD hS 1 1 rfl rfl hc9 dX5_measure_164 (fun H locs hP hD hS => ?_)
                      have hP : va_P (dC, dI) vwCl (ww_X5_measure cs ad raP raO raS Pv10 O S) H := g_toP (by rw [ePv10]; rfl) hP
                      have hD : va_D (va_A (ww_X5_measure cs ad raP raO raS zD zD zD) s.heap.size) (ww_X5_measure cs ad raP raO raS Pv10 O S) := g_toD (by rw [ePv10]; rfl) hD
                      refine lv_aload_n hx hb dX5_measure_165 rfl (lv_at hl 0 rfl) ?_
                      refine va_get (D := (dC, dI)) (ci := 6) (C := RX5) (T := TX5) (N := 4) hx hb hts hinX5 hown hK hP 0 rfl rfl 1 (by decide) (v := .ref (raP 1)) k_fieldLink_RX5_15__KeyLetters_Route___queue____I_ (fun _ h9 => h9) rfl dX5_measure_166 ?_
                      refine lv_iload hx hb dX5_measure_169 (lv_at hl 3 rfl) ?_
                      refine lv_iload hx hb dX5_measure_171 (lv_at hl 6 rfl) ?_
                      obtain ⟨hc11, hf⟩ := ck_e hf
                      obtain ⟨Pv12, ePv12, hf⟩ := bd1_e hf
                      refine va_iast hx hb hK hP hD hS 2 1 rfl rfl hc11 dX5_measure_173 (fun H locs hP hD hS => ?_)
                      have hP : va_P (dC, dI) vwCl (ww_X5_measure cs ad raP raO raS Pv12 O S) H := g_toP (by rw [ePv12]; rfl) hP
                      have hD : va_D (va_A (ww_X5_measure cs ad raP raO raS zD zD zD) s.heap.size) (ww_X5_measure cs ad raP raO raS Pv12 O S) := g_toD (by rw [ePv12]; rfl) hD
                      obtain ⟨v13, ev13, hf⟩ := bd1_e hf
                      refine lv_iinc (k := 3) (x := x4_95) (v := v13) (nL := 8) (lv' := [(4, .int v13), (0, .ref (raP 0)), (1, .ref (raO 0)), (2, .ref (raS 0)), (5, .int x5_95), (6, .int x6_95), (7, .int x7_95)]) hx hb dX5_measure_174 hl rfl (kt_inc (w := 1) (by decide) ev13) (by decide) rfl (fun ls hl => ?_)
                      exact h_177 v13 x5_95 x6_95 x7_95 Pv12 ls _ _ (lv_sub hl [1, 2, 3, 0, 4, 5, 6] rfl) hP hD hS hf) 2000
        refine lv_iload hx hb dX5_measure_69 (lv_at hl 4 rfl) ?_
        refine lv_iload hx hb dX5_measure_71 (lv_at hl 3 rfl) ?_
        refine lv_icmp_ge (tgt := 189) hx hb dX5_measure_73 (by decide) (fun hb22 => ?_) (fun hb22 => ?_)
        · have hf := (if_pos hb22).symm.trans hf
          have hf := Option.some.inj hf
          subst hf
          exact c_vret hx hb hr hlocks hP hK hD hS dX5_measure_189
        · have hf := (if_neg hb22).symm.trans hf
          refine lv_iload hx hb dX5_measure_76 (lv_at hl 4 rfl) ?_
          refine lv_bipush (v := 48) hx hb dX5_measure_78 (by decide) ?_
          refine lv_icmp_ge (tgt := 189) hx hb dX5_measure_80 (by decide) (fun hb21 => ?_) (fun hb21 => ?_)
          · have hf := (if_pos hb21).symm.trans hf
            have hf := Option.some.inj hf
            subst hf
            exact c_vret hx hb hr hlocks hP hK hD hS dX5_measure_189
          · have hf := (if_neg hb21).symm.trans hf
            refine lv_aload_n hx hb dX5_measure_83 rfl (lv_at hl 0 rfl) ?_
            refine va_get (D := (dC, dI)) (ci := 6) (C := RX5) (T := TX5) (N := 4) hx hb hts hinX5 hown hK hP 0 rfl rfl 1 (by decide) (v := .ref (raP 1)) k_fieldLink_RX5_15__KeyLetters_Route___queue____I_ (fun _ h9 => h9) rfl dX5_measure_84 ?_
            refine lv_iload hx hb dX5_measure_87 (lv_at hl 4 rfl) ?_
            obtain ⟨hc19, hf⟩ := ck_e hf
            refine va_iald hx hb hK hP 2 1 rfl rfl hc19 dX5_measure_89 ?_
            obtain ⟨v20, ev20, hf⟩ := bd1_e hf
            refine kt_i ev20 ?_
            refine lv_istore (nL := 8) (lv' := [(6, .int v20), (0, .ref (raP 0)), (1, .ref (raO 0)), (2, .ref (raS 0)), (4, .int x4_69), (5, .int x5_69)]) hx hb dX5_measure_90 hl (by decide) rfl (fun ls hl => ?_)
            refine lv_iconst (v := 0) hx hb dX5_measure_92 (by decide) ?_
            refine lv_istore (nL := 8) (lv' := [(7, .int (0 : Int32)), (6, .int v20), (0, .ref (raP 0)), (1, .ref (raO 0)), (2, .ref (raS 0)), (4, .int x4_69), (5, .int x5_69)]) hx hb dX5_measure_93 hl (by decide) rfl (fun ls hl => ?_)
            exact h_95 x4_69 x5_69 v20 (0 : Int32) P_69 ls _ _ (lv_sub hl [2, 3, 4, 5, 6, 1, 0] rfl) hP hD hS hf) 2000
    refine lv_iconst (v := 0) hx hb dX5_measure_66 (by decide) ?_
    refine lv_istore (nL := 8) (lv' := [(5, .int (0 : Int32)), (0, .ref (raP 0)), (1, .ref (raO 0)), (2, .ref (raS 0)), (4, .int x4_66)]) hx hb dX5_measure_67 hl (by decide) rfl (fun ls hl => ?_)
    exact h_69 x4_66 (0 : Int32) P_66 ls _ _ (lv_sub hl [1, 2, 3, 4, 0] rfl) hP hD hS hf
  have h_6 := lp_ind (z := (fun _ _ _ _ => none)) (b := (g_X5_measure_6 O S)) (fun (rc_6 : Int32 → Int32 → Int32 → kD → Option kD) => ∀ (x3_6 : Int32) (x4_6 : Int32) (x5_6 : Int32) (P_6 : kD) (ls : Array Slot) (H : Heap) (locs : List Loc), lv_has ls 8 [(0, .ref (raP 0)), (1, .ref (raO 0)), (2, .ref (raS 0)), (3, .int x3_6), (4, .int x4_6), (5, .int x5_6)] → va_P (dC, dI) vwCl (ww_X5_measure cs ad raP raO raS P_6 O S) H → va_D (va_A (ww_X5_measure cs ad raP raO raS zD zD zD) s.heap.size) (ww_X5_measure cs ad raP raO raS P_6 O S) → va_S (va_A (ww_X5_measure cs ad raP raO raS zD zD zD) s.heap.size) s.heap H locs → rc_6 x3_6 x4_6 x5_6 P_6 = some r → W p l e (headSpec wsX5_measure rm_X5_measure).room s m args below meth c H locs 0 0 (MQ below (cQv dC dI cs (va_A (ww_X5_measure cs ad raP raO raS zD zD zD) s.heap.size) (ww_X5_measure cs ad raP raO raS r O S)) args s 0 0 (va_A (ww_X5_measure cs ad raP raO raS zD zD zD) s.heap.size)) (F0 m 6 ls [])) (by
      intro x3_6 x4_6 x5_6 P_6 ls H locs hl hP hD hS hf
      cases hf) (by
      intro rc_6 ih_6 x3_6 x4_6 x5_6 P_6 ls H locs hl hP hD hS hf
      unfold g_X5_measure_6 at hf
      have h_60 : ∀ (x3_60 : Int32) (x4_60 : Int32) (x5_60 : Int32) (P_60 : kD) (ls : Array Slot) (H : Heap) (locs : List Loc), lv_has ls 8 [(0, .ref (raP 0)), (1, .ref (raO 0)), (2, .ref (raS 0)), (3, .int x3_60), (4, .int x4_60), (5, .int x5_60)] → va_P (dC, dI) vwCl (ww_X5_measure cs ad raP raO raS P_60 O S) H → va_D (va_A (ww_X5_measure cs ad raP raO raS zD zD zD) s.heap.size) (ww_X5_measure cs ad raP raO raS P_60 O S) → va_S (va_A (ww_X5_measure cs ad raP raO raS zD zD zD) s.heap.size) s.heap H locs → g_X5_measure_60 rc_6 O S x3_60 x4_60 x5_60 P_60 = some r → W p l e (headSpec wsX5_measure rm_X5_measure).room s m args below meth c H locs 0 0 (MQ below (cQv dC dI cs (va_A (ww_X5_measure cs ad raP raO raS zD zD zD) s.heap.size) (ww_X5_measure cs ad raP raO raS r O S)) args s 0 0 (va_A (ww_X5_measure cs ad raP raO raS zD zD zD) s.heap.size)) (F0 m 60 ls []) := by
        intro x3_60 x4_60 x5_60 P_60 ls H locs hl hP hD hS hf
        unfold g_X5_measure_60 at hf
        obtain ⟨v23, ev23, hf⟩ := bd1_e hf
        refine lv_iinc (k := 5) (x := x5_60) (v := v23) (nL := 8) (lv' := [(5, .int v23), (0, .ref (raP 0)), (1, .ref (raO 0)), (2, .ref (raS 0)), (3, .int x3_60), (4, .int x4_60)]) hx hb dX5_measure_60 hl rfl (kt_inc (w := 1) (by decide) ev23) (by decide) rfl (fun ls hl => ?_)
        refine lv_goto (tgt := 6) hx hb dX5_measure_63 (by decide) ?_
        exact ih_6 x3_60 x4_60 v23 P_60 ls _ _ (lv_sub hl [1, 2, 3, 4, 5, 0] rfl) hP hD hS hf
      refine lv_iload hx hb dX5_measure_6 (lv_at hl 5 rfl) ?_
      refine lv_bipush (v := 48) hx hb dX5_measure_8 (by decide) ?_
      refine lv_icmp_ge (tgt := 66) hx hb dX5_measure_10 (by decide) (fun hb35 => ?_) (fun hb35 => ?_)
      · have hf := (if_pos hb35).symm.trans hf
        exact h_66 x4_6 P_6 ls _ _ (lv_sub hl [0, 1, 2, 4] rfl) hP hD hS hf
      · have hf := (if_neg hb35).symm.trans hf
        refine lv_aload_n hx hb dX5_measure_13 rfl (lv_at hl 0 rfl) ?_
        refine va_get (D := (dC, dI)) (ci := 6) (C := RX5) (T := TX5) (N := 4) hx hb hts hinX5 hown hK hP 0 rfl rfl 0 (by decide) (v := .ref (raP 100)) k_fieldLink_RX5_11__KeyLetters_Route___stillToGo____I_ (fun _ h9 => h9) rfl dX5_measure_14 ?_
        refine lv_iload hx hb dX5_measure_17 (lv_at hl 5 rfl) ?_
        refine lv_iconst (v := -1) hx hb dX5_measure_19 (by decide) ?_
        obtain ⟨hc24, hf⟩ := ck_e hf
        obtain ⟨Pv25, ePv25, hf⟩ := bd1_e hf
        refine va_iast hx hb hK hP hD hS 1 1 rfl rfl hc24 dX5_measure_20 (fun H locs hP hD hS => ?_)
        have hP : va_P (dC, dI) vwCl (ww_X5_measure cs ad raP raO raS Pv25 O S) H := g_toP (by rw [ePv25]; rfl) hP
        have hD : va_D (va_A (ww_X5_measure cs ad raP raO raS zD zD zD) s.heap.size) (ww_X5_measure cs ad raP raO raS Pv25 O S) := g_toD (by rw [ePv25]; rfl) hD
        refine lv_iload hx hb dX5_measure_21 (lv_at hl 5 rfl) ?_
        refine lv_bipush (v := 8) hx hb dX5_measure_23 (by decide) ?_
        refine lv_irem hx hb dX5_measure_25 (by decide) ?_
        refine lv_iload_n hx hb dX5_measure_26 rfl (lv_at hl 3 rfl) ?_
        refine lv_icmp_ne (tgt := 60) hx hb dX5_measure_27 (by decide) (fun hb34 => ?_) (fun hb34 => ?_)
        · have hf := (if_neg hb34).symm.trans hf
          exact h_60 x3_6 x4_6 x5_6 Pv25 ls _ _ hl hP hD hS hf
        · have hf := (if_pos hb34).symm.trans hf
          refine lv_aload_n hx hb dX5_measure_30 rfl (lv_at hl 1 rfl) ?_
          refine lv_aload_n hx hb dX5_measure_31 rfl (lv_at hl 2 rfl) ?_
          refine lv_iload hx hb dX5_measure_32 (lv_at hl 5 rfl) ?_
          obtain ⟨v27, hq26, hf⟩ := bo_e hf
          refine ko_call (v := some (.int v27)) (va_runS (As := [.ref (raO 0), .ref (raS 0), .int x5_6]) (rest := []) ⟨hx, hb, hml, hown, hts⟩ (c_X5_canBe l dC dI cs ad raO raS O S x5_6 v27 hq26) (va_cwS 3 hts gX5_measure_X5_canBe rfl rfl rfl (by decide +kernel) ⟨Nat.le_of_ble_eq_true rfl, Nat.le_of_ble_eq_true rfl⟩) ⟨fun a U g mk q => ⟨q.1, (fun _ _ _ _ => cPr_bl) a U g mk q.2⟩, fun U hU hW => ⟨rfl, ⟨by rw [hU]; exact (hP.sub (ws' := (ww_X5_canBe cs ad raO raS O S)) [4, 5, 6, 7, 8, 9, 10, 11, 12, 13, 14, 15, 16] rfl), va_K.moved hW.alike hK, kN_warm hW hN⟩⟩⟩ rfl rfl hl.1 rfl (lv_room (Nat.le_of_ble_eq_true rfl)) dX5_measure_34 ⟨Nat.le_refl _, Nat.le_refl _⟩) ?_
          refine lv_if_eq (tgt := 60) hx hb dX5_measure_37 (by decide) (fun hb33 => ?_) (fun hb33 => ?_)
          · have hf := (if_pos hb33).symm.trans hf
            exact h_60 x3_6 x4_6 x5_6 Pv25 ls _ _ hl hP hD hS hf
          · have hf := (if_neg hb33).symm.trans hf
            refine lv_aload_n hx hb dX5_measure_40 rfl (lv_at hl 0 rfl) ?_
            refine va_get (D := (dC, dI)) (ci := 6) (C := RX5) (T := TX5) (N := 4) hx hb hts hinX5 hown hK hP 0 rfl rfl 0 (by decide) (v := .ref (raP 100)) k_fieldLink_RX5_11__KeyLetters_Route___stillToGo____I_ (fun _ h9 => h9) rfl dX5_measure_41 ?_
            refine lv_iload hx hb dX5_measure_44 (lv_at hl 5 rfl) ?_
            refine lv_iconst (v := 0) hx hb dX5_measure_46 (by decide) ?_
            obtain ⟨hc28, hf⟩ := ck_e hf
            obtain ⟨Pv29, ePv29, hf⟩ := bd1_e hf
            refine va_iast hx hb hK hP hD hS 1 1 rfl rfl hc28 dX5_measure_47 (fun H locs hP hD hS => ?_)
            have hP : va_P (dC, dI) vwCl (ww_X5_measure cs ad raP raO raS Pv29 O S) H := g_toP (by rw [ePv29]; rfl) hP
            have hD : va_D (va_A (ww_X5_measure cs ad raP raO raS zD zD zD) s.heap.size) (ww_X5_measure cs ad raP raO raS Pv29 O S) := g_toD (by rw [ePv29]; rfl) hD
            refine lv_aload_n hx hb dX5_measure_48 rfl (lv_at hl 0 rfl) ?_
            refine va_get (D := (dC, dI)) (ci := 6) (C := RX5) (T := TX5) (N := 4) hx hb hts hinX5 hown hK hP 0 rfl rfl 1 (by decide) (v := .ref (raP 1)) k_fieldLink_RX5_15__KeyLetters_Route___queue____I_ (fun _ h9 => h9) rfl dX5_measure_49 ?_
            refine lv_iload hx hb dX5_measure_52 (lv_at hl 4 rfl) ?_
            refine lv_iload hx hb dX5_measure_54 (lv_at hl 5 rfl) ?_
            obtain ⟨hc30, hf⟩ := ck_e hf
            obtain ⟨Pv31, ePv31, hf⟩ := bd1_e hf
            refine va_iast hx hb hK hP hD hS 2 1 rfl rfl hc30 dX5_measure_56 (fun H locs hP hD hS => ?_)
            have hP : va_P (dC, dI) vwCl (ww_X5_measure cs ad raP raO raS Pv31 O S) H := g_toP (by rw [ePv31]; rfl) hP
            have hD : va_D (va_A (ww_X5_measure cs ad raP raO raS zD zD zD) s.heap.size) (ww_X5_measure cs ad raP raO raS Pv31 O S) := g_toD (by rw [ePv31]; rfl) hD
            obtain ⟨v32, ev32, hf⟩ := bd1_e hf
            refine lv_iinc (k := 4) (x := x4_6) (v := v32) (nL := 8) (lv' := [(4, .int v32), (0, .ref (raP 0)), (1, .ref (raO 0)), (2, .ref (raS 0)), (3, .int x3_6), (5, .int x5_6)]) hx hb dX5_measure_57 hl rfl (kt_inc (w := 1) (by decide) ev32) (by decide) rfl (fun ls hl => ?_)
            exact h_60 x3_6 v32 x5_6 Pv31 ls _ _ (lv_sub hl [1, 2, 3, 4, 0, 5] rfl) hP hD hS hf) 2000
  refine lv_iconst (v := 0) hx hb dX5_measure_0 (by decide) ?_
  refine lv_istore (nL := 8) (lv' := [(4, .int (0 : Int32)), (0, .ref (raP 0)), (1, .ref (raO 0)), (2, .ref (raS 0)), (3, .int a2)]) hx hb dX5_measure_1 hl (by decide) rfl (fun ls hl => ?_)
  refine lv_iconst (v := 0) hx hb dX5_measure_3 (by decide) ?_
  refine lv_istore (nL := 8) (lv' := [(5, .int (0 : Int32)), (4, .int (0 : Int32)), (0, .ref (raP 0)), (1, .ref (raO 0)), (2, .ref (raS 0)), (3, .int a2)]) hx hb dX5_measure_4 hl (by decide) rfl (fun ls hl => ?_)
  exact h_6 a2 (0 : Int32) (0 : Int32) P ls _ _ (lv_sub hl [2, 3, 4, 5, 1, 0] rfl) hP hD hS hf

def ww_X5_nearest (cs : Nat → ClassId) (ad : Nat → Nat) (raP : Nat → Nat) (raO : Nat → Nat) (P : kD) (O : kD) : va_W := (wX5 cs ad raP P ++ (wX3 cs ad raO O))
abbrev rm_X5_nearest : Room := { frames := 3, cells := 0, slots := 0, locals := 66 }
set_option maxHeartbeats 4000000 in
set_option maxRecDepth 100000 in
theorem c_X5_nearest (l : Launch) (dC : Nat → ClassId) (dI : Nat → Nat → Nat) (cs : Nat → ClassId) (ad : Nat → Nat) (raP : Nat → Nat) (raO : Nat → Nat) (P : kD) (O : kD) (a1 : Int32) (a2 : Int32) (r : Int32) (hf : f_X5_nearest a1 a2 P O = some r) : Met l yX5_nearest wsX5_nearest rm_X5_nearest (va_Pc [.ref (raP 0), .ref (raO 0), .int a1, .int a2] (cPr dC dI cs (ww_X5_nearest cs ad raP raO P O))) (kQ (some (.int r))) 0 0 (kF) := by
  refine Met.ofW (cc := cX5_nearest) (maxL := 6) (ret := (some .int)) (by decide) rfl ?_
  intro p e s m args below meth c s₁ B hml hv
  obtain ⟨hav, hP, hK, hN⟩ := hv
  have hx := B.exec
  have hb := B.bytes
  have hr := B.returns
  have hts := atoms_spec (ws := wsX5_nearest) B.pre
  have hown : s.vm.findClass RX5 = some m.cls := findClass_of_methodNamed B.named
  have hlocks := B.notSynchronized
  have hinX5 := (show ∀ w ∈ wsX50, w ∈ wsX5_nearest from fun w h => List.mem_cons_of_mem _ (List.mem_append_left _ (List.mem_append_right _ h)))
  have k_fieldLink_RX5_11__KeyLetters_Route___stillToGo____I_ := hts (.fieldLink RX5 11 "KeyLetters$Route" "stillToGo" "[I") (List.mem_of_getElem? (i := 1) rfl)
  have hl := lv_entry ([.ref (raP 0), .ref (raO 0), .int a1, .int a2]) (n := 6) (Nat.le_of_ble_eq_true rfl)
  rw [show entryFrame m args 6 = entryFrame m ([.ref (raP 0), .ref (raO 0), .int a1, .int a2] : List Value).toArray 6 from by rw [hav], lg_entry_eq]
  generalize (lg_sl ([.ref (raP 0), .ref (raO 0), .int a1, .int a2]) ++ List.replicate (6 - (lg_sl ([.ref (raP 0), .ref (raO 0), .int a1, .int a2])).length) Slot.unset).toArray = ls at hl ⊢
  have hl : lv_has ls 6 [(0, .ref (raP 0)), (1, .ref (raO 0)), (2, .int a1), (3, .int a2)] := hl
  unfold f_X5_nearest at hf
  have h_6 := lp_ind (z := (fun _ _ _ _ => none)) (b := (g_X5_nearest_6 P O)) (fun (rc_6 : Int32 → Int32 → Int32 → Int32 → Option Int32) => ∀ (x2_6 : Int32) (x3_6 : Int32) (x4_6 : Int32) (x5_6 : Int32) (ls : Array Slot), lv_has ls 6 [(0, .ref (raP 0)), (1, .ref (raO 0)), (2, .int x2_6), (3, .int x3_6), (4, .int x4_6), (5, .int x5_6)] → rc_6 x2_6 x3_6 x4_6 x5_6 = some r → W p l e (headSpec wsX5_nearest rm_X5_nearest).room s m args below meth c s.heap [] 0 0 (MQ below (kQ (some (.int r))) args s 0 0 (kF)) (F0 m 6 ls [])) (by
      intro x2_6 x3_6 x4_6 x5_6 ls hl hf
      cases hf) (by
      intro rc_6 ih_6 x2_6 x3_6 x4_6 x5_6 ls hl hf
      unfold g_X5_nearest_6 at hf
      have h_62 : ∀ (x2_62 : Int32) (x3_62 : Int32) (x4_62 : Int32) (x5_62 : Int32) (ls : Array Slot), lv_has ls 6 [(0, .ref (raP 0)), (1, .ref (raO 0)), (2, .int x2_62), (3, .int x3_62), (4, .int x4_62), (5, .int x5_62)] → g_X5_nearest_62 rc_6 P O x2_62 x3_62 x4_62 x5_62 = some r → W p l e (headSpec wsX5_nearest rm_X5_nearest).room s m args below meth c s.heap [] 0 0 (MQ below (kQ (some (.int r))) args s 0 0 (kF)) (F0 m 62 ls []) := by
        intro x2_62 x3_62 x4_62 x5_62 ls hl hf
        unfold g_X5_nearest_62 at hf
        obtain ⟨v1, ev1, hf⟩ := bd1_e hf
        refine lv_iinc (k := 5) (x := x5_62) (v := v1) (nL := 6) (lv' := [(5, .int v1), (0, .ref (raP 0)), (1, .ref (raO 0)), (2, .int x2_62), (3, .int x3_62), (4, .int x4_62)]) hx hb dX5_nearest_62 hl rfl (kt_inc (w := 1) (by decide) ev1) (by decide) rfl (fun ls hl => ?_)
        refine lv_goto (tgt := 6) hx hb dX5_nearest_65 (by decide) ?_
        exact ih_6 x2_62 x3_62 x4_62 v1 ls (lv_sub hl [1, 2, 3, 4, 5, 0] rfl) hf
      have h_58 : ∀ (x2_58 : Int32) (x3_58 : Int32) (x5_58 : Int32) (ls : Array Slot), lv_has ls 6 [(0, .ref (raP 0)), (1, .ref (raO 0)), (2, .int x2_58), (3, .int x3_58), (5, .int x5_58)] → g_X5_nearest_58 rc_6 P O x2_58 x3_58 x5_58 = some r → W p l e (headSpec wsX5_nearest rm_X5_nearest).room s m args below meth c s.heap [] 0 0 (MQ below (kQ (some (.int r))) args s 0 0 (kF)) (F0 m 58 ls []) := by
        intro x2_58 x3_58 x5_58 ls hl hf
        unfold g_X5_nearest_58 at hf
        refine lv_iload hx hb dX5_nearest_58 (lv_at hl 4 rfl) ?_
        refine lv_istore (nL := 6) (lv' := [(4, .int x5_58), (0, .ref (raP 0)), (1, .ref (raO 0)), (2, .int x2_58), (3, .int x3_58), (5, .int x5_58)]) hx hb dX5_nearest_60 hl (by decide) rfl (fun ls hl => ?_)
        exact h_62 x2_58 x3_58 x5_58 x5_58 ls (lv_sub hl [1, 2, 3, 4, 0, 5] rfl) hf
      refine lv_iload hx hb dX5_nearest_6 (lv_at hl 5 rfl) ?_
      refine lv_bipush (v := 48) hx hb dX5_nearest_8 (by decide) ?_
      refine lv_icmp_ge (tgt := 68) hx hb dX5_nearest_10 (by decide) (fun hb11 => ?_) (fun hb11 => ?_)
      · have hf := (if_pos hb11).symm.trans hf
        refine lv_iload hx hb dX5_nearest_68 (lv_at hl 4 rfl) ?_
        have hf := Option.some.inj hf
        subst hf
        exact W.iret (v := x4_6) hx hb hr (fun t ht hW => ⟨rfl, ht⟩) (fun _ h => nomatch h) dX5_nearest_70
      · have hf := (if_neg hb11).symm.trans hf
        refine lv_aload_n hx hb dX5_nearest_13 rfl (lv_at hl 0 rfl) ?_
        refine va_get (D := (dC, dI)) (ci := 6) (C := RX5) (T := TX5) (N := 4) hx hb hts hinX5 hown hK hP 0 rfl rfl 0 (by decide) (v := .ref (raP 100)) k_fieldLink_RX5_11__KeyLetters_Route___stillToGo____I_ (fun _ h9 => h9) rfl dX5_nearest_14 ?_
        refine lv_iload hx hb dX5_nearest_17 (lv_at hl 5 rfl) ?_
        obtain ⟨hc2, hf⟩ := ck_e hf
        refine va_iald hx hb hK hP 1 1 rfl rfl hc2 dX5_nearest_19 ?_
        refine lv_iconst (v := -1) hx hb dX5_nearest_20 (by decide) ?_
        refine lv_icmp_eq (tgt := 62) hx hb dX5_nearest_21 (by decide) (fun hb10 => ?_) (fun hb10 => ?_)
        · have hf := (if_pos hb10).symm.trans hf
          exact h_62 x2_6 x3_6 x4_6 x5_6 ls hl hf
        · have hf := (if_neg hb10).symm.trans hf
          refine lv_aload_n hx hb dX5_nearest_24 rfl (lv_at hl 1 rfl) ?_
          refine lv_iload_n hx hb dX5_nearest_25 rfl (lv_at hl 2 rfl) ?_
          refine lv_iload_n hx hb dX5_nearest_26 rfl (lv_at hl 3 rfl) ?_
          refine lv_iload hx hb dX5_nearest_27 (lv_at hl 5 rfl) ?_
          obtain ⟨v4, hq3, hf⟩ := bo_e hf
          refine ko_call (v := some (.int v4)) (va_runS (As := [.ref (raO 0), .int x2_6, .int x3_6, .int x5_6]) (rest := []) ⟨hx, hb, hml, hown, hts⟩ (c_X5_follows l dC dI cs ad raO O x2_6 x3_6 x5_6 v4 hq3) (va_cwS 4 hts gX5_nearest_X5_follows rfl rfl rfl (by decide +kernel) ⟨Nat.le_of_ble_eq_true rfl, Nat.le_of_ble_eq_true rfl⟩) ⟨fun a U g mk q => ⟨q.1, (fun _ _ _ _ => cPr_bl) a U g mk q.2⟩, fun U hU hW => ⟨rfl, ⟨by rw [hU]; exact (hP.sub (ws' := (ww_X5_follows cs ad raO O)) [4, 5, 6, 7, 8, 9, 10, 11] rfl), va_K.moved hW.alike hK, kN_warm hW hN⟩⟩⟩ rfl rfl hl.1 rfl (lv_room (Nat.le_of_ble_eq_true rfl)) dX5_nearest_29 ⟨Nat.le_refl _, Nat.le_refl _⟩) ?_
          refine lv_if_eq (tgt := 62) hx hb dX5_nearest_32 (by decide) (fun hb9 => ?_) (fun hb9 => ?_)
          · have hf := (if_pos hb9).symm.trans hf
            exact h_62 x2_6 x3_6 x4_6 x5_6 ls hl hf
          · have hf := (if_neg hb9).symm.trans hf
            refine lv_iload hx hb dX5_nearest_35 (lv_at hl 4 rfl) ?_
            refine lv_iconst (v := -1) hx hb dX5_nearest_37 (by decide) ?_
            refine lv_icmp_eq (tgt := 58) hx hb dX5_nearest_38 (by decide) (fun hb8 => ?_) (fun hb8 => ?_)
            · have hf := (if_pos hb8).symm.trans hf
              exact h_58 x2_6 x3_6 x5_6 ls (lv_sub hl [0, 1, 2, 3, 5] rfl) hf
            · have hf := (if_neg hb8).symm.trans hf
              refine lv_aload_n hx hb dX5_nearest_41 rfl (lv_at hl 0 rfl) ?_
              refine va_get (D := (dC, dI)) (ci := 6) (C := RX5) (T := TX5) (N := 4) hx hb hts hinX5 hown hK hP 0 rfl rfl 0 (by decide) (v := .ref (raP 100)) k_fieldLink_RX5_11__KeyLetters_Route___stillToGo____I_ (fun _ h9 => h9) rfl dX5_nearest_42 ?_
              refine lv_iload hx hb dX5_nearest_45 (lv_at hl 5 rfl) ?_
              obtain ⟨hc5, hf⟩ := ck_e hf
              refine va_iald hx hb hK hP 1 1 rfl rfl hc5 dX5_nearest_47 ?_
              refine lv_aload_n hx hb dX5_nearest_48 rfl (lv_at hl 0 rfl) ?_
              refine va_get (D := (dC, dI)) (ci := 6) (C := RX5) (T := TX5) (N := 4) hx hb hts hinX5 hown hK hP 0 rfl rfl 0 (by decide) (v := .ref (raP 100)) k_fieldLink_RX5_11__KeyLetters_Route___stillToGo____I_ (fun _ h9 => h9) rfl dX5_nearest_49 ?_
              refine lv_iload hx hb dX5_nearest_52 (lv_at hl 4 rfl) ?_
              obtain ⟨hc6, hf⟩ := ck_e hf
              refine va_iald hx hb hK hP 1 1 rfl rfl hc6 dX5_nearest_54 ?_
              refine lv_icmp_ge (tgt := 62) hx hb dX5_nearest_55 (by decide) (fun hb7 => ?_) (fun hb7 => ?_)
              · have hf := (if_pos hb7).symm.trans hf
                exact h_62 x2_6 x3_6 x4_6 x5_6 ls hl hf
              · have hf := (if_neg hb7).symm.trans hf
                exact h_58 x2_6 x3_6 x5_6 ls (lv_sub hl [0, 1, 2, 3, 5] rfl) hf) 2000
  refine lv_iconst (v := -1) hx hb dX5_nearest_0 (by decide) ?_
  refine lv_istore (nL := 6) (lv' := [(4, .int (-1 : Int32)), (0, .ref (raP 0)), (1, .ref (raO 0)), (2, .int a1), (3, .int a2)]) hx hb dX5_nearest_1 hl (by decide) rfl (fun ls hl => ?_)
  refine lv_iconst (v := 0) hx hb dX5_nearest_3 (by decide) ?_
  refine lv_istore (nL := 6) (lv' := [(5, .int (0 : Int32)), (4, .int (-1 : Int32)), (0, .ref (raP 0)), (1, .ref (raO 0)), (2, .int a1), (3, .int a2)]) hx hb dX5_nearest_4 hl (by decide) rfl (fun ls hl => ?_)
  exact h_6 a1 a2 (-1 : Int32) (0 : Int32) ls (lv_sub hl [2, 3, 4, 5, 1, 0] rfl) hf

def ww_X5_find (cs : Nat → ClassId) (ad : Nat → Nat) (raP : Nat → Nat) (raO : Nat → Nat) (raS : Nat → Nat) (P : kD) (O : kD) (S : kD) : va_W := (wX5 cs ad raP P ++ (wX3 cs ad raO O ++ (wX9 cs ad raS S)))
abbrev rm_X5_find : Room := { frames := 4, cells := 0, slots := 0, locals := 93 }
set_option maxHeartbeats 4000000 in
set_option maxRecDepth 100000 in
theorem c_X5_find (l : Launch) (dC : Nat → ClassId) (dI : Nat → Nat → Nat) (cs : Nat → ClassId) (ad : Nat → Nat) (raP : Nat → Nat) (raO : Nat → Nat) (raS : Nat → Nat) (sz : Nat) (P : kD) (O : kD) (S : kD) (a2 : Int32) (r : Int32 × kD) (hf : f_X5_find a2 P O S = some r) : Met l yX5_find wsX5_find rm_X5_find (va_Pc [.ref (raP 0), .ref (raO 0), .ref (raS 0), .int a2] (cPw dC dI cs sz (ww_X5_find cs ad raP raO raS P O S))) (cQi dC dI cs (va_A (ww_X5_find cs ad raP raO raS zD zD zD) sz) r.1 (ww_X5_find cs ad raP raO raS r.2 O S)) 0 0 (va_A (ww_X5_find cs ad raP raO raS zD zD zD) sz) := by
  refine Met.ofW (cc := cX5_find) (maxL := 6) (ret := (some .int)) (by decide) rfl ?_
  intro p e s m args below meth c s₁ B hml hv
  obtain ⟨hav, hsz, hP, hK, hD0, hN⟩ := hv
  have hx := B.exec
  have hb := B.bytes
  have hr := B.returns
  have hts := atoms_spec (ws := wsX5_find) B.pre
  have hown : s.vm.findClass RX5 = some m.cls := findClass_of_methodNamed B.named
  have hlocks := B.notSynchronized
  subst hsz
  have hA : ∀ q, s.heap.size ≤ q → va_A (ww_X5_find cs ad raP raO raS zD zD zD) s.heap.size q := fun q h => Or.inr h
  have hD : va_D (va_A (ww_X5_find cs ad raP raO raS zD zD zD) s.heap.size) (ww_X5_find cs ad raP raO raS P O S) := hD0.weaken (fun k q h _ => cA_in (ws := (ww_X5_find cs ad raP raO raS P O S)) (ws' := (ww_X5_find cs ad raP raO raS zD zD zD)) rfl h)
  have hS : va_S (va_A (ww_X5_find cs ad raP raO raS zD zD zD) s.heap.size) s.heap s.heap [] := va_S.rf
  have hinX5 := (show ∀ w ∈ wsX50, w ∈ wsX5_find from fun w h => List.mem_cons_of_mem _ (List.mem_append_left _ (List.mem_append_right _ h)))
  have hinX9 := (show ∀ w ∈ wsX90, w ∈ wsX5_find from fun w h => List.mem_cons_of_mem _ (List.mem_append_left _ (List.mem_append_left _ (List.mem_append_right _ h))))
  have k_fieldLink_RX5_11__KeyLetters_Route___stillToGo____I_ := hts (.fieldLink RX5 11 "KeyLetters$Route" "stillToGo" "[I") (List.mem_of_getElem? (i := 1) rfl)
  have k_fieldLink_RX5_18__KeyLetters_Route___steps____I_ := hts (.fieldLink RX5 18 "KeyLetters$Route" "steps" "[I") (List.mem_of_getElem? (i := 3) rfl)
  have k_fieldLink_RX5_38__KeyLetters_Route___size___I_ := hts (.fieldLink RX5 38 "KeyLetters$Route" "size" "I") (List.mem_of_getElem? (i := 2) rfl)
  have hl := lv_entry ([.ref (raP 0), .ref (raO 0), .ref (raS 0), .int a2]) (n := 6) (Nat.le_of_ble_eq_true rfl)
  rw [show entryFrame m args 6 = entryFrame m ([.ref (raP 0), .ref (raO 0), .ref (raS 0), .int a2] : List Value).toArray 6 from by rw [hav], lg_entry_eq]
  generalize (lg_sl ([.ref (raP 0), .ref (raO 0), .ref (raS 0), .int a2]) ++ List.replicate (6 - (lg_sl ([.ref (raP 0), .ref (raO 0), .ref (raS 0), .int a2])).length) Slot.unset).toArray = ls at hl ⊢
  have hl : lv_has ls 6 [(0, .ref (raP 0)), (1, .ref (raO 0)), (2, .ref (raS 0)), (3, .int a2)] := hl
  unfold f_X5_find at hf
  have h_54 := lp_ind (z := (fun _ _ _ => none)) (b := (g_X5_find_54 O S)) (fun (rc_54 : Int32 → Int32 → kD → Option (Int32 × kD)) => ∀ (x4_54 : Int32) (x5_54 : Int32) (P_54 : kD) (ls : Array Slot) (H : Heap) (locs : List Loc), lv_has ls 6 [(0, .ref (raP 0)), (1, .ref (raO 0)), (4, .int x4_54), (5, .int x5_54)] → va_P (dC, dI) vwCl (ww_X5_find cs ad raP raO raS P_54 O S) H → va_D (va_A (ww_X5_find cs ad raP raO raS zD zD zD) s.heap.size) (ww_X5_find cs ad raP raO raS P_54 O S) → va_S (va_A (ww_X5_find cs ad raP raO raS zD zD zD) s.heap.size) s.heap H locs → rc_54 x4_54 x5_54 P_54 = some r → W p l e (headSpec wsX5_find rm_X5_find).room s m args below meth c H locs 0 0 (MQ below (cQi dC dI cs (va_A (ww_X5_find cs ad raP raO raS zD zD zD) s.heap.size) r.1 (ww_X5_find cs ad raP raO raS r.2 O S)) args s 0 0 (va_A (ww_X5_find cs ad raP raO raS zD zD zD) s.heap.size)) (F0 m 54 ls [])) (by
      intro x4_54 x5_54 P_54 ls H locs hl hP hD hS hf
      cases hf) (by
      intro rc_54 ih_54 x4_54 x5_54 P_54 ls H locs hl hP hD hS hf
      unfold g_X5_find_54 at hf
      refine lv_iload hx hb dX5_find_54 (lv_at hl 3 rfl) ?_
      refine lv_aload_n hx hb dX5_find_56 rfl (lv_at hl 0 rfl) ?_
      refine va_get (D := (dC, dI)) (ci := 6) (C := RX5) (T := TX5) (N := 4) hx hb hts hinX5 hown hK hP 0 rfl rfl 3 (by decide) (v := .int (P_54.1 0 3)) k_fieldLink_RX5_38__KeyLetters_Route___size___I_ (fun _ h9 => h9) rfl dX5_find_57 ?_
      refine lv_icmp_ge (tgt := 108) hx hb dX5_find_60 (by decide) (fun hb8 => ?_) (fun hb8 => ?_)
      · have hf := (if_pos hb8).symm.trans hf
        refine lv_aload_n hx hb dX5_find_108 rfl (lv_at hl 0 rfl) ?_
        refine va_get (D := (dC, dI)) (ci := 6) (C := RX5) (T := TX5) (N := 4) hx hb hts hinX5 hown hK hP 0 rfl rfl 3 (by decide) (v := .int (P_54.1 0 3)) k_fieldLink_RX5_38__KeyLetters_Route___size___I_ (fun _ h9 => h9) rfl dX5_find_109 ?_
        have hf := Option.some.inj hf
        subst hf
        exact c_iret (v := (P_54.1 0 3)) hx hb hr hlocks hP hK hD hS dX5_find_112
      · have hf := (if_neg hb8).symm.trans hf
        refine lv_iload hx hb dX5_find_63 (lv_at hl 3 rfl) ?_
        refine lv_bipush (v := 48) hx hb dX5_find_65 (by decide) ?_
        refine lv_icmp_ge (tgt := 108) hx hb dX5_find_67 (by decide) (fun hb7 => ?_) (fun hb7 => ?_)
        · have hf := (if_pos hb7).symm.trans hf
          refine lv_aload_n hx hb dX5_find_108 rfl (lv_at hl 0 rfl) ?_
          refine va_get (D := (dC, dI)) (ci := 6) (C := RX5) (T := TX5) (N := 4) hx hb hts hinX5 hown hK hP 0 rfl rfl 3 (by decide) (v := .int (P_54.1 0 3)) k_fieldLink_RX5_38__KeyLetters_Route___size___I_ (fun _ h9 => h9) rfl dX5_find_109 ?_
          have hf := Option.some.inj hf
          subst hf
          exact c_iret (v := (P_54.1 0 3)) hx hb hr hlocks hP hK hD hS dX5_find_112
        · have hf := (if_neg hb7).symm.trans hf
          refine lv_iload hx hb dX5_find_70 (lv_at hl 2 rfl) ?_
          refine lv_iconst (v := -1) hx hb dX5_find_72 (by decide) ?_
          refine lv_icmp_eq (tgt := 108) hx hb dX5_find_73 (by decide) (fun hb6 => ?_) (fun hb6 => ?_)
          · have hf := (if_pos hb6).symm.trans hf
            refine lv_aload_n hx hb dX5_find_108 rfl (lv_at hl 0 rfl) ?_
            refine va_get (D := (dC, dI)) (ci := 6) (C := RX5) (T := TX5) (N := 4) hx hb hts hinX5 hown hK hP 0 rfl rfl 3 (by decide) (v := .int (P_54.1 0 3)) k_fieldLink_RX5_38__KeyLetters_Route___size___I_ (fun _ h9 => h9) rfl dX5_find_109 ?_
            have hf := Option.some.inj hf
            subst hf
            exact c_iret (v := (P_54.1 0 3)) hx hb hr hlocks hP hK hD hS dX5_find_112
          · have hf := (if_neg hb6).symm.trans hf
            refine lv_aload_n hx hb dX5_find_76 rfl (lv_at hl 0 rfl) ?_
            refine lv_aload_n hx hb dX5_find_77 rfl (lv_at hl 1 rfl) ?_
            refine lv_iload hx hb dX5_find_78 (lv_at hl 2 rfl) ?_
            refine lv_bipush (v := 8) hx hb dX5_find_80 (by decide) ?_
            refine lv_idiv hx hb dX5_find_82 (by decide) ?_
            refine lv_iload hx hb dX5_find_83 (lv_at hl 2 rfl) ?_
            refine lv_bipush (v := 8) hx hb dX5_find_85 (by decide) ?_
            refine lv_irem hx hb dX5_find_87 (by decide) ?_
            obtain ⟨v2, hq1, hf⟩ := bo_e hf
            refine ko_call (v := some (.int v2)) (va_runV (As := [.ref (raO 0), .int (x4_54 / (8 : Int32)), .int (kRem x4_54 (8 : Int32))]) (rest := []) ⟨hx, hb, hml, hown, hts⟩ (c_X5_nearest l dC dI cs ad raP raO P_54 O (x4_54 / (8 : Int32)) (kRem x4_54 (8 : Int32)) v2 hq1) (cwV 3 hts gX5_find_X5_nearest rfl rfl rfl (by decide +kernel) ⟨Nat.le_of_ble_eq_true rfl, Nat.le_of_ble_eq_true rfl⟩) ⟨fun a U g mk q => ⟨q.1, (fun _ _ _ _ => cPr_bl) a U g mk q.2⟩, va_recv hK hP (ci := 6) (q0 := 0) rfl rfl, fun U hU hW => ⟨rfl, ⟨by rw [hU]; exact (hP.sub (ws' := (ww_X5_nearest cs ad raP raO P_54 O)) [0, 1, 2, 3, 4, 5, 6, 7, 8, 9, 10, 11] rfl), va_K.moved hW.alike hK, kN_warm hW hN⟩⟩⟩ rfl rfl hl.1 rfl (lv_room (Nat.le_of_ble_eq_true rfl)) dX5_find_88 ⟨Nat.le_refl _, Nat.le_refl _⟩) ?_
            refine lv_istore (nL := 6) (lv' := [(4, .int v2), (0, .ref (raP 0)), (1, .ref (raO 0)), (5, .int x5_54)]) hx hb dX5_find_91 hl (by decide) rfl (fun ls hl => ?_)
            refine lv_aload_n hx hb dX5_find_93 rfl (lv_at hl 1 rfl) ?_
            refine va_get (D := (dC, dI)) (ci := 6) (C := RX5) (T := TX5) (N := 4) hx hb hts hinX5 hown hK hP 0 rfl rfl 2 (by decide) (v := .ref (raP 2)) k_fieldLink_RX5_18__KeyLetters_Route___steps____I_ (fun _ h9 => h9) rfl dX5_find_94 ?_
            refine lv_iload hx hb dX5_find_97 (lv_at hl 3 rfl) ?_
            refine lv_iload hx hb dX5_find_99 (lv_at hl 0 rfl) ?_
            obtain ⟨hc3, hf⟩ := ck_e hf
            obtain ⟨Pv4, ePv4, hf⟩ := bd1_e hf
            refine va_iast hx hb hK hP hD hS 3 1 rfl rfl hc3 dX5_find_101 (fun H locs hP hD hS => ?_)
            have hP : va_P (dC, dI) vwCl (ww_X5_find cs ad raP raO raS Pv4 O S) H := g_toP (by rw [ePv4]; rfl) hP
            have hD : va_D (va_A (ww_X5_find cs ad raP raO raS zD zD zD) s.heap.size) (ww_X5_find cs ad raP raO raS Pv4 O S) := g_toD (by rw [ePv4]; rfl) hD
            obtain ⟨v5, ev5, hf⟩ := bd1_e hf
            refine lv_iinc (k := 3) (x := x5_54) (v := v5) (nL := 6) (lv' := [(5, .int v5), (4, .int v2), (0, .ref (raP 0)), (1, .ref (raO 0))]) hx hb dX5_find_102 hl rfl (kt_inc (w := 1) (by decide) ev5) (by decide) rfl (fun ls hl => ?_)
            refine lv_goto (tgt := 54) hx hb dX5_find_105 (by decide) ?_
            exact ih_54 v2 v5 Pv4 ls _ _ (lv_sub hl [2, 3, 1, 0] rfl) hP hD hS hf) 2000
  refine lv_aload_n hx hb dX5_find_0 rfl (lv_at hl 0 rfl) ?_
  refine lv_aload_n hx hb dX5_find_1 rfl (lv_at hl 1 rfl) ?_
  refine lv_aload_n hx hb dX5_find_2 rfl (lv_at hl 2 rfl) ?_
  refine lv_iload_n hx hb dX5_find_3 rfl (lv_at hl 3 rfl) ?_
  obtain ⟨Pv10, hq9, hf⟩ := bo_e hf
  refine g_callv (isC := [0, 1, 2, 3, 4, 5, 6, 7, 8, 9, 10, 11, 12, 13, 14, 15, 16]) (isR := []) (wc := (ww_X5_measure cs ad raP raO raS P O S)) (wz := (ww_X5_measure cs ad raP raO raS zD zD zD)) (w1 := (ww_X5_measure cs ad raP raO raS Pv10 O S)) (ws' := (ww_X5_find cs ad raP raO raS Pv10 O S)) (va_runV (As := [.ref (raO 0), .ref (raS 0), .int a2]) (rest := []) ⟨hx, hb, hml, hown, hts⟩ (c_X5_measure l dC dI cs ad raP raO raS _ P O S a2 Pv10 hq9) (cwV 3 hts gX5_find_X5_measure rfl rfl rfl (by decide +kernel) ⟨Nat.le_of_ble_eq_true rfl, Nat.le_of_ble_eq_true rfl⟩) ⟨fun a U g mk q => ⟨q.1, (fun _ _ _ _ => cPw_bl) a U g mk q.2⟩, va_recv hK hP (ci := 6) (q0 := 0) rfl rfl, fun U hU hW => ⟨rfl, ⟨by rw [hU], by rw [hU]; exact (hP.sub (ws' := (ww_X5_measure cs ad raP raO raS P O S)) [0, 1, 2, 3, 4, 5, 6, 7, 8, 9, 10, 11, 12, 13, 14, 15, 16] rfl), va_K.moved hW.alike hK, (hD.sub (ws' := (ww_X5_measure cs ad raP raO raS P O S)) [0, 1, 2, 3, 4, 5, 6, 7, 8, 9, 10, 11, 12, 13, 14, 15, 16] (by decide) rfl).weaken (fun _ _ _ _ => trivial), kN_warm hW hN⟩⟩⟩ rfl rfl hl.1 rfl (lv_room (Nat.le_of_ble_eq_true rfl)) dX5_find_4 ⟨Nat.le_refl _, Nat.le_refl _⟩) hP hD hS hA rfl rfl (wr := ([] : va_W)) rfl rfl rfl (nw := 17) rfl (by decide +kernel) rfl (fun H locs hP hD hS => ?_)
  refine lv_aload_n hx hb dX5_find_7 rfl (lv_at hl 0 rfl) ?_
  refine lv_aload_n hx hb dX5_find_8 rfl (lv_at hl 1 rfl) ?_
  refine lv_aload_n hx hb dX5_find_9 rfl (lv_at hl 2 rfl) ?_
  refine va_getN (D := (dC, dI)) (ci := 10) (C := RX9) (T := TX9) (N := 9) hx hb hts hinX9 hown hK hP 12 rfl rfl 2 (by decide) (v := .int (S.1 0 2)) (va_Nw.use rfl (hN _ (List.mem_of_getElem? (i := 37) rfl))) (fun _ h9 => h9) rfl dX5_find_10 ?_
  refine lv_aload_n hx hb dX5_find_13 rfl (lv_at hl 2 rfl) ?_
  refine va_getN (D := (dC, dI)) (ci := 10) (C := RX9) (T := TX9) (N := 9) hx hb hts hinX9 hown hK hP 12 rfl rfl 1 (by decide) (v := .int (S.1 0 1)) (va_Nw.use rfl (hN _ (List.mem_of_getElem? (i := 35) rfl))) (fun _ h9 => h9) rfl dX5_find_14 ?_
  obtain ⟨v12, hq11, hf⟩ := bo_e hf
  refine ko_call (v := some (.int v12)) (va_runV (As := [.ref (raO 0), .int (S.1 0 2), .int (S.1 0 1)]) (rest := []) ⟨hx, hb, hml, hown, hts⟩ (c_X5_nearest l dC dI cs ad raP raO Pv10 O (S.1 0 2) (S.1 0 1) v12 hq11) (cwV 3 hts gX5_find_X5_nearest rfl rfl rfl (by decide +kernel) ⟨Nat.le_of_ble_eq_true rfl, Nat.le_of_ble_eq_true rfl⟩) ⟨fun a U g mk q => ⟨q.1, (fun _ _ _ _ => cPr_bl) a U g mk q.2⟩, va_recv hK hP (ci := 6) (q0 := 0) rfl rfl, fun U hU hW => ⟨rfl, ⟨by rw [hU]; exact (hP.sub (ws' := (ww_X5_nearest cs ad raP raO Pv10 O)) [0, 1, 2, 3, 4, 5, 6, 7, 8, 9, 10, 11] rfl), va_K.moved hW.alike hK, kN_warm hW hN⟩⟩⟩ rfl rfl hl.1 rfl (lv_room (Nat.le_of_ble_eq_true rfl)) dX5_find_17 ⟨Nat.le_refl _, Nat.le_refl _⟩) ?_
  refine lv_istore (nL := 6) (lv' := [(4, .int v12), (0, .ref (raP 0)), (1, .ref (raO 0)), (2, .ref (raS 0)), (3, .int a2)]) hx hb dX5_find_20 hl (by decide) rfl (fun ls hl => ?_)
  refine lv_iload hx hb dX5_find_22 (lv_at hl 0 rfl) ?_
  refine lv_iconst (v := -1) hx hb dX5_find_24 (by decide) ?_
  refine lv_icmp_ne (tgt := 30) hx hb dX5_find_25 (by decide) (fun hb16 => ?_) (fun hb16 => ?_)
  · have hf := (if_neg hb16).symm.trans hf
    refine lv_aload_n hx hb dX5_find_30 rfl (lv_at hl 1 rfl) ?_
    refine lv_aload_n hx hb dX5_find_31 rfl (lv_at hl 1 rfl) ?_
    refine va_get (D := (dC, dI)) (ci := 6) (C := RX5) (T := TX5) (N := 4) hx hb hts hinX5 hown hK hP 0 rfl rfl 0 (by decide) (v := .ref (raP 100)) k_fieldLink_RX5_11__KeyLetters_Route___stillToGo____I_ (fun _ h9 => h9) rfl dX5_find_32 ?_
    refine lv_iload hx hb dX5_find_35 (lv_at hl 0 rfl) ?_
    obtain ⟨hc13, hf⟩ := ck_e hf
    refine va_iald hx hb hK hP 1 1 rfl rfl hc13 dX5_find_37 ?_
    refine lv_iconst (v := 1) hx hb dX5_find_38 (by decide) ?_
    refine lv_iadd hx hb dX5_find_39 ?_
    obtain ⟨Pv14, ePv14, hf⟩ := bd1_e hf
    refine g_put (D := (dC, dI)) (ci := 6) (C := RX5) (T := TX5) (N := 4) hx hb hts hinX5 tyX5 tyX5_ok nmX5 hown hK hP hD hS 0 rfl rfl 3 (by decide) k_fieldLink_RX5_38__KeyLetters_Route___size___I_ (fun _ h9 => h9) rfl (ty := .int) (v := .int ((Pv10.1 100 v12.toNatClampNeg) + (1 : Int32))) (by decide +kernel) rfl rfl (Nat.le_of_ble_eq_true rfl) (ws' := (ww_X5_find cs ad raP raO raS Pv14 O S)) (by rw [ePv14]; rfl) dX5_find_40 (fun H locs hP hD hS => ?_)
    refine lv_aload_n hx hb dX5_find_43 rfl (lv_at hl 1 rfl) ?_
    refine va_get (D := (dC, dI)) (ci := 6) (C := RX5) (T := TX5) (N := 4) hx hb hts hinX5 hown hK hP 0 rfl rfl 2 (by decide) (v := .ref (raP 2)) k_fieldLink_RX5_18__KeyLetters_Route___steps____I_ (fun _ h9 => h9) rfl dX5_find_44 ?_
    refine lv_iconst (v := 0) hx hb dX5_find_47 (by decide) ?_
    refine lv_iload hx hb dX5_find_48 (lv_at hl 0 rfl) ?_
    obtain ⟨Pv15, ePv15, hf⟩ := bd1_e hf
    refine va_iast hx hb hK hP hD hS 3 1 rfl rfl (show ¬ ((0 : Int32) < 0 ∨ 48 ≤ (0 : Int32).toNatClampNeg) by decide +kernel) dX5_find_50 (fun H locs hP hD hS => ?_)
    have hP : va_P (dC, dI) vwCl (ww_X5_find cs ad raP raO raS Pv15 O S) H := g_toP (by rw [ePv15]; rfl) hP
    have hD : va_D (va_A (ww_X5_find cs ad raP raO raS zD zD zD) s.heap.size) (ww_X5_find cs ad raP raO raS Pv15 O S) := g_toD (by rw [ePv15]; rfl) hD
    refine lv_iconst (v := 1) hx hb dX5_find_51 (by decide) ?_
    refine lv_istore (nL := 6) (lv' := [(5, .int (1 : Int32)), (4, .int v12), (0, .ref (raP 0)), (1, .ref (raO 0)), (2, .ref (raS 0)), (3, .int a2)]) hx hb dX5_find_52 hl (by decide) rfl (fun ls hl => ?_)
    exact h_54 v12 (1 : Int32) Pv15 ls _ _ (lv_sub hl [2, 3, 1, 0] rfl) hP hD hS hf
  · have hf := (if_pos hb16).symm.trans hf
    refine lv_iconst (v := -1) hx hb dX5_find_28 (by decide) ?_
    have hf := Option.some.inj hf
    subst hf
    exact c_iret (v := (-1 : Int32)) hx hb hr hlocks hP hK hD hS dX5_find_29

def ww_X9_begin (cs : Nat → ClassId) (ad : Nat → Nat) (raS : Nat → Nat) (raO : Nat → Nat) (S : kD) (O : kD) : va_W := (wX9 cs ad raS S ++ (wX3 cs ad raO O))
abbrev rm_X9_begin : Room := { frames := 0, cells := 0, slots := 0, locals := 0 }
set_option maxHeartbeats 4000000 in
set_option maxRecDepth 100000 in
theorem c_X9_begin (l : Launch) (dC : Nat → ClassId) (dI : Nat → Nat → Nat) (cs : Nat → ClassId) (ad : Nat → Nat) (raS : Nat → Nat) (raO : Nat → Nat) (sz : Nat) (S : kD) (O : kD) (r : kD) (hf : f_X9_begin S O = some r) : Met l yX9_begin wsX9_begin rm_X9_begin (va_Pc [.ref (raS 0), .ref (raO 0)] (cPw dC dI cs sz (ww_X9_begin cs ad raS raO S O))) (cQv dC dI cs (va_A (ww_X9_begin cs ad raS raO zD zD) sz) (ww_X9_begin cs ad raS raO r O)) 0 0 (va_A (ww_X9_begin cs ad raS raO zD zD) sz) := by
  refine Met.ofW (cc := cX9_begin) (maxL := 3) (ret := none) (by decide) rfl ?_
  intro p e s m args below meth c s₁ B hml hv
  obtain ⟨hav, hsz, hP, hK, hD0, hN⟩ := hv
  have hx := B.exec
  have hb := B.bytes
  have hr := B.returns
  have hts := atoms_spec (ws := wsX9_begin) B.pre
  have hown : s.vm.findClass RX9 = some m.cls := findClass_of_methodNamed B.named
  have hlocks := B.notSynchronized
  subst hsz
  have hA : ∀ q, s.heap.size ≤ q → va_A (ww_X9_begin cs ad raS raO zD zD) s.heap.size q := fun q h => Or.inr h
  have hD : va_D (va_A (ww_X9_begin cs ad raS raO zD zD) s.heap.size) (ww_X9_begin cs ad raS raO S O) := hD0.weaken (fun k q h _ => cA_in (ws := (ww_X9_begin cs ad raS raO S O)) (ws' := (ww_X9_begin cs ad raS raO zD zD)) rfl h)
  have hS : va_S (va_A (ww_X9_begin cs ad raS raO zD zD) s.heap.size) s.heap s.heap [] := va_S.rf
  have hinX3 := (show ∀ w ∈ wsX30, w ∈ wsX9_begin from fun w h => List.mem_cons_of_mem _ (List.mem_append_right _ h))
  have hinX9 := (show ∀ w ∈ wsX90, w ∈ wsX9_begin from fun w h => List.mem_cons_of_mem _ (List.mem_append_left _ (List.mem_append_right _ h)))
  have k_fieldLink_RX9_15__KeyLetters_State___wrote____I_ := hts (.fieldLink RX9 15 "KeyLetters$State" "wrote" "[I") (List.mem_of_getElem? (i := 7) rfl)
  have k_fieldLink_RX9_18__KeyLetters_State___letters____I_ := hts (.fieldLink RX9 18 "KeyLetters$State" "letters" "[I") (List.mem_of_getElem? (i := 8) rfl)
  have k_fieldLink_RX9_21__KeyLetters_State___debts____I_ := hts (.fieldLink RX9 21 "KeyLetters$State" "debts" "[I") (List.mem_of_getElem? (i := 9) rfl)
  have k_fieldLink_RX9_24__KeyLetters_State___latest___I_ := hts (.fieldLink RX9 24 "KeyLetters$State" "latest" "I") (List.mem_of_getElem? (i := 2) rfl)
  have k_fieldLink_RX9_28__KeyLetters_State___writer___I_ := hts (.fieldLink RX9 28 "KeyLetters$State" "writer" "I") (List.mem_of_getElem? (i := 3) rfl)
  have k_fieldLink_RX9_31__KeyLetters_State___day___I_ := hts (.fieldLink RX9 31 "KeyLetters$State" "day" "I") (List.mem_of_getElem? (i := 1) rfl)
  have k_fieldLink_RX9_34__KeyLetters_State___held___I_ := hts (.fieldLink RX9 34 "KeyLetters$State" "held" "I") (List.mem_of_getElem? (i := 4) rfl)
  have k_fieldLink_RX9_37__KeyLetters_State___lettersOver___I_ := hts (.fieldLink RX9 37 "KeyLetters$State" "lettersOver" "I") (List.mem_of_getElem? (i := 5) rfl)
  have k_fieldLink_RX9_9__KeyLetters_State___ink____I_ := hts (.fieldLink RX9 9 "KeyLetters$State" "ink" "[I") (List.mem_of_getElem? (i := 6) rfl)
  have hl := lv_entry ([.ref (raS 0), .ref (raO 0)]) (n := 3) (Nat.le_of_ble_eq_true rfl)
  rw [show entryFrame m args 3 = entryFrame m ([.ref (raS 0), .ref (raO 0)] : List Value).toArray 3 from by rw [hav], lg_entry_eq]
  generalize (lg_sl ([.ref (raS 0), .ref (raO 0)]) ++ List.replicate (3 - (lg_sl ([.ref (raS 0), .ref (raO 0)])).length) Slot.unset).toArray = ls at hl ⊢
  have hl : lv_has ls 3 [(0, .ref (raS 0)), (1, .ref (raO 0))] := hl
  unfold f_X9_begin at hf
  have h_65 : ∀ (S_65 : kD) (ls : Array Slot) (H : Heap) (locs : List Loc), lv_has ls 3 [(0, .ref (raS 0))] → va_P (dC, dI) vwCl (ww_X9_begin cs ad raS raO S_65 O) H → va_D (va_A (ww_X9_begin cs ad raS raO zD zD) s.heap.size) (ww_X9_begin cs ad raS raO S_65 O) → va_S (va_A (ww_X9_begin cs ad raS raO zD zD) s.heap.size) s.heap H locs → g_X9_begin_65 O S_65 = some r → W p l e (headSpec wsX9_begin rm_X9_begin).room s m args below meth c H locs 0 0 (MQ below (cQv dC dI cs (va_A (ww_X9_begin cs ad raS raO zD zD) s.heap.size) (ww_X9_begin cs ad raS raO r O)) args s 0 0 (va_A (ww_X9_begin cs ad raS raO zD zD) s.heap.size)) (F0 m 65 ls []) := by
    intro S_65 ls H locs hl hP hD hS hf
    unfold g_X9_begin_65 at hf
    have h_67 := lp_ind (z := (fun _ _ => none)) (b := (g_X9_begin_67 O)) (fun (rc_67 : Int32 → kD → Option kD) => ∀ (x2_67 : Int32) (S_67 : kD) (ls : Array Slot) (H : Heap) (locs : List Loc), lv_has ls 3 [(0, .ref (raS 0)), (2, .int x2_67)] → va_P (dC, dI) vwCl (ww_X9_begin cs ad raS raO S_67 O) H → va_D (va_A (ww_X9_begin cs ad raS raO zD zD) s.heap.size) (ww_X9_begin cs ad raS raO S_67 O) → va_S (va_A (ww_X9_begin cs ad raS raO zD zD) s.heap.size) s.heap H locs → rc_67 x2_67 S_67 = some r → W p l e (headSpec wsX9_begin rm_X9_begin).room s m args below meth c H locs 0 0 (MQ below (cQv dC dI cs (va_A (ww_X9_begin cs ad raS raO zD zD) s.heap.size) (ww_X9_begin cs ad raS raO r O)) args s 0 0 (va_A (ww_X9_begin cs ad raS raO zD zD) s.heap.size)) (F0 m 67 ls [])) (by
        intro x2_67 S_67 ls H locs hl hP hD hS hf
        cases hf) (by
        intro rc_67 ih_67 x2_67 S_67 ls H locs hl hP hD hS hf
        unfold g_X9_begin_67 at hf
        refine lv_iload_n hx hb dX9_begin_67 rfl (lv_at hl 1 rfl) ?_
        refine lv_aload_n hx hb dX9_begin_68 rfl (lv_at hl 0 rfl) ?_
        refine va_get (D := (dC, dI)) (ci := 10) (C := RX9) (T := TX9) (N := 9) hx hb hts hinX9 hown hK hP 0 rfl rfl 8 (by decide) (v := .ref (raS 8)) k_fieldLink_RX9_21__KeyLetters_State___debts____I_ (fun _ h9 => h9) rfl dX9_begin_69 ?_
        refine va_alen hx hb hK hP 4 1 rfl rfl (v := (36 : Int32)) rfl dX9_begin_72 ?_
        refine lv_icmp_ge (tgt := 89) hx hb dX9_begin_73 (by decide) (fun hb4 => ?_) (fun hb4 => ?_)
        · have hf := (if_pos hb4).symm.trans hf
          have hf := Option.some.inj hf
          subst hf
          exact c_vret hx hb hr hlocks hP hK hD hS dX9_begin_89
        · have hf := (if_neg hb4).symm.trans hf
          refine lv_aload_n hx hb dX9_begin_76 rfl (lv_at hl 0 rfl) ?_
          refine va_get (D := (dC, dI)) (ci := 10) (C := RX9) (T := TX9) (N := 9) hx hb hts hinX9 hown hK hP 0 rfl rfl 8 (by decide) (v := .ref (raS 8)) k_fieldLink_RX9_21__KeyLetters_State___debts____I_ (fun _ h9 => h9) rfl dX9_begin_77 ?_
          refine lv_iload_n hx hb dX9_begin_80 rfl (lv_at hl 1 rfl) ?_
          refine lv_iconst (v := 0) hx hb dX9_begin_81 (by decide) ?_
          obtain ⟨hc1, hf⟩ := ck_e hf
          obtain ⟨Sv2, eSv2, hf⟩ := bd1_e hf
          refine va_iast hx hb hK hP hD hS 4 1 rfl rfl hc1 dX9_begin_82 (fun H locs hP hD hS => ?_)
          have hP : va_P (dC, dI) vwCl (ww_X9_begin cs ad raS raO Sv2 O) H := g_toP (by rw [eSv2]; rfl) hP
          have hD : va_D (va_A (ww_X9_begin cs ad raS raO zD zD) s.heap.size) (ww_X9_begin cs ad raS raO Sv2 O) := g_toD (by rw [eSv2]; rfl) hD
          obtain ⟨v3, ev3, hf⟩ := bd1_e hf
          refine lv_iinc (k := 1) (x := x2_67) (v := v3) (nL := 3) (lv' := [(2, .int v3), (0, .ref (raS 0))]) hx hb dX9_begin_83 hl rfl (kt_inc (w := 1) (by decide) ev3) (by decide) rfl (fun ls hl => ?_)
          refine lv_goto (tgt := 67) hx hb dX9_begin_86 (by decide) ?_
          exact ih_67 v3 Sv2 ls _ _ (lv_sub hl [1, 0] rfl) hP hD hS hf) 2000
    refine lv_iconst (v := 0) hx hb dX9_begin_65 (by decide) ?_
    refine lv_istore_n (nL := 3) (lv' := [(2, .int (0 : Int32)), (0, .ref (raS 0))]) hx hb dX9_begin_66 rfl hl (by decide) rfl (fun ls hl => ?_)
    exact h_67 (0 : Int32) S_65 ls _ _ (lv_sub hl [1, 0] rfl) hP hD hS hf
  have h_27 := lp_ind (z := (fun _ _ => none)) (b := (g_X9_begin_27 O)) (fun (rc_27 : Int32 → kD → Option kD) => ∀ (x2_27 : Int32) (S_27 : kD) (ls : Array Slot) (H : Heap) (locs : List Loc), lv_has ls 3 [(0, .ref (raS 0)), (1, .ref (raO 0)), (2, .int x2_27)] → va_P (dC, dI) vwCl (ww_X9_begin cs ad raS raO S_27 O) H → va_D (va_A (ww_X9_begin cs ad raS raO zD zD) s.heap.size) (ww_X9_begin cs ad raS raO S_27 O) → va_S (va_A (ww_X9_begin cs ad raS raO zD zD) s.heap.size) s.heap H locs → rc_27 x2_27 S_27 = some r → W p l e (headSpec wsX9_begin rm_X9_begin).room s m args below meth c H locs 0 0 (MQ below (cQv dC dI cs (va_A (ww_X9_begin cs ad raS raO zD zD) s.heap.size) (ww_X9_begin cs ad raS raO r O)) args s 0 0 (va_A (ww_X9_begin cs ad raS raO zD zD) s.heap.size)) (F0 m 27 ls [])) (by
      intro x2_27 S_27 ls H locs hl hP hD hS hf
      cases hf) (by
      intro rc_27 ih_27 x2_27 S_27 ls H locs hl hP hD hS hf
      unfold g_X9_begin_27 at hf
      refine lv_iload_n hx hb dX9_begin_27 rfl (lv_at hl 2 rfl) ?_
      refine lv_bipush (v := 6) hx hb dX9_begin_28 (by decide) ?_
      refine lv_icmp_ge (tgt := 65) hx hb dX9_begin_30 (by decide) (fun hb13 => ?_) (fun hb13 => ?_)
      · have hf := (if_pos hb13).symm.trans hf
        exact h_65 S_27 ls _ _ (lv_sub hl [0] rfl) hP hD hS hf
      · have hf := (if_neg hb13).symm.trans hf
        refine lv_aload_n hx hb dX9_begin_33 rfl (lv_at hl 0 rfl) ?_
        refine va_get (D := (dC, dI)) (ci := 10) (C := RX9) (T := TX9) (N := 9) hx hb hts hinX9 hown hK hP 0 rfl rfl 5 (by decide) (v := .ref (raS 5)) k_fieldLink_RX9_9__KeyLetters_State___ink____I_ (fun _ h9 => h9) rfl dX9_begin_34 ?_
        refine lv_iload_n hx hb dX9_begin_37 rfl (lv_at hl 2 rfl) ?_
        refine lv_aload_n hx hb dX9_begin_38 rfl (lv_at hl 1 rfl) ?_
        refine va_getN (D := (dC, dI)) (ci := 4) (C := RX3) (T := TX3) (N := 11) hx hb hts hinX3 hown hK hP 5 rfl rfl 5 (by decide) (v := .ref (raO 5)) (va_Nw.use rfl (hN _ (List.mem_of_getElem? (i := 23) rfl))) (fun _ h9 => h9) rfl dX9_begin_39 ?_
        refine lv_iload_n hx hb dX9_begin_42 rfl (lv_at hl 2 rfl) ?_
        obtain ⟨hc5, hf⟩ := ck_e hf
        refine va_iald hx hb hK hP 7 1 rfl rfl hc5 dX9_begin_43 ?_
        obtain ⟨hc6, hf⟩ := ck_e hf
        obtain ⟨Sv7, eSv7, hf⟩ := bd1_e hf
        refine va_iast hx hb hK hP hD hS 1 1 rfl rfl hc6 dX9_begin_44 (fun H locs hP hD hS => ?_)
        have hP : va_P (dC, dI) vwCl (ww_X9_begin cs ad raS raO Sv7 O) H := g_toP (by rw [eSv7]; rfl) hP
        have hD : va_D (va_A (ww_X9_begin cs ad raS raO zD zD) s.heap.size) (ww_X9_begin cs ad raS raO Sv7 O) := g_toD (by rw [eSv7]; rfl) hD
        refine lv_aload_n hx hb dX9_begin_45 rfl (lv_at hl 0 rfl) ?_
        refine va_get (D := (dC, dI)) (ci := 10) (C := RX9) (T := TX9) (N := 9) hx hb hts hinX9 hown hK hP 0 rfl rfl 6 (by decide) (v := .ref (raS 6)) k_fieldLink_RX9_15__KeyLetters_State___wrote____I_ (fun _ h9 => h9) rfl dX9_begin_46 ?_
        refine lv_iload_n hx hb dX9_begin_49 rfl (lv_at hl 2 rfl) ?_
        refine lv_iconst (v := 0) hx hb dX9_begin_50 (by decide) ?_
        obtain ⟨hc8, hf⟩ := ck_e hf
        obtain ⟨Sv9, eSv9, hf⟩ := bd1_e hf
        refine va_iast hx hb hK hP hD hS 2 1 rfl rfl hc8 dX9_begin_51 (fun H locs hP hD hS => ?_)
        have hP : va_P (dC, dI) vwCl (ww_X9_begin cs ad raS raO Sv9 O) H := g_toP (by rw [eSv9]; rfl) hP
        have hD : va_D (va_A (ww_X9_begin cs ad raS raO zD zD) s.heap.size) (ww_X9_begin cs ad raS raO Sv9 O) := g_toD (by rw [eSv9]; rfl) hD
        refine lv_aload_n hx hb dX9_begin_52 rfl (lv_at hl 0 rfl) ?_
        refine va_get (D := (dC, dI)) (ci := 10) (C := RX9) (T := TX9) (N := 9) hx hb hts hinX9 hown hK hP 0 rfl rfl 7 (by decide) (v := .ref (raS 7)) k_fieldLink_RX9_18__KeyLetters_State___letters____I_ (fun _ h9 => h9) rfl dX9_begin_53 ?_
        refine lv_iload_n hx hb dX9_begin_56 rfl (lv_at hl 2 rfl) ?_
        refine lv_iconst (v := 0) hx hb dX9_begin_57 (by decide) ?_
        obtain ⟨hc10, hf⟩ := ck_e hf
        obtain ⟨Sv11, eSv11, hf⟩ := bd1_e hf
        refine va_iast hx hb hK hP hD hS 3 1 rfl rfl hc10 dX9_begin_58 (fun H locs hP hD hS => ?_)
        have hP : va_P (dC, dI) vwCl (ww_X9_begin cs ad raS raO Sv11 O) H := g_toP (by rw [eSv11]; rfl) hP
        have hD : va_D (va_A (ww_X9_begin cs ad raS raO zD zD) s.heap.size) (ww_X9_begin cs ad raS raO Sv11 O) := g_toD (by rw [eSv11]; rfl) hD
        obtain ⟨v12, ev12, hf⟩ := bd1_e hf
        refine lv_iinc (k := 2) (x := x2_27) (v := v12) (nL := 3) (lv' := [(2, .int v12), (0, .ref (raS 0)), (1, .ref (raO 0))]) hx hb dX9_begin_59 hl rfl (kt_inc (w := 1) (by decide) ev12) (by decide) rfl (fun ls hl => ?_)
        refine lv_goto (tgt := 27) hx hb dX9_begin_62 (by decide) ?_
        exact ih_27 v12 Sv11 ls _ _ (lv_sub hl [1, 2, 0] rfl) hP hD hS hf) 2000
  refine lv_aload_n hx hb dX9_begin_0 rfl (lv_at hl 0 rfl) ?_
  refine lv_iconst (v := 0) hx hb dX9_begin_1 (by decide) ?_
  obtain ⟨Sv14, eSv14, hf⟩ := bd1_e hf
  refine g_put (D := (dC, dI)) (ci := 10) (C := RX9) (T := TX9) (N := 9) hx hb hts hinX9 tyX9 tyX9_ok nmX9 hown hK hP hD hS 0 rfl rfl 0 (by decide) k_fieldLink_RX9_31__KeyLetters_State___day___I_ (fun _ h9 => h9) rfl (ty := .int) (v := .int (0 : Int32)) (by decide +kernel) rfl rfl (Nat.le_of_ble_eq_true rfl) (ws' := (ww_X9_begin cs ad raS raO Sv14 O)) (by rw [eSv14]; rfl) dX9_begin_2 (fun H locs hP hD hS => ?_)
  refine lv_aload_n hx hb dX9_begin_5 rfl (lv_at hl 0 rfl) ?_
  refine lv_iconst (v := -1) hx hb dX9_begin_6 (by decide) ?_
  obtain ⟨Sv15, eSv15, hf⟩ := bd1_e hf
  refine g_put (D := (dC, dI)) (ci := 10) (C := RX9) (T := TX9) (N := 9) hx hb hts hinX9 tyX9 tyX9_ok nmX9 hown hK hP hD hS 0 rfl rfl 1 (by decide) k_fieldLink_RX9_24__KeyLetters_State___latest___I_ (fun _ h9 => h9) rfl (ty := .int) (v := .int (-1 : Int32)) (by decide +kernel) rfl rfl (Nat.le_of_ble_eq_true rfl) (ws' := (ww_X9_begin cs ad raS raO Sv15 O)) (by rw [eSv15]; rfl) dX9_begin_7 (fun H locs hP hD hS => ?_)
  refine lv_aload_n hx hb dX9_begin_10 rfl (lv_at hl 0 rfl) ?_
  refine lv_iconst (v := -1) hx hb dX9_begin_11 (by decide) ?_
  obtain ⟨Sv16, eSv16, hf⟩ := bd1_e hf
  refine g_put (D := (dC, dI)) (ci := 10) (C := RX9) (T := TX9) (N := 9) hx hb hts hinX9 tyX9 tyX9_ok nmX9 hown hK hP hD hS 0 rfl rfl 2 (by decide) k_fieldLink_RX9_28__KeyLetters_State___writer___I_ (fun _ h9 => h9) rfl (ty := .int) (v := .int (-1 : Int32)) (by decide +kernel) rfl rfl (Nat.le_of_ble_eq_true rfl) (ws' := (ww_X9_begin cs ad raS raO Sv16 O)) (by rw [eSv16]; rfl) dX9_begin_12 (fun H locs hP hD hS => ?_)
  refine lv_aload_n hx hb dX9_begin_15 rfl (lv_at hl 0 rfl) ?_
  refine lv_iconst (v := 0) hx hb dX9_begin_16 (by decide) ?_
  obtain ⟨Sv17, eSv17, hf⟩ := bd1_e hf
  refine g_put (D := (dC, dI)) (ci := 10) (C := RX9) (T := TX9) (N := 9) hx hb hts hinX9 tyX9 tyX9_ok nmX9 hown hK hP hD hS 0 rfl rfl 3 (by decide) k_fieldLink_RX9_34__KeyLetters_State___held___I_ (fun _ h9 => h9) rfl (ty := .int) (v := .int (0 : Int32)) (by decide +kernel) rfl rfl (Nat.le_of_ble_eq_true rfl) (ws' := (ww_X9_begin cs ad raS raO Sv17 O)) (by rw [eSv17]; rfl) dX9_begin_17 (fun H locs hP hD hS => ?_)
  refine lv_aload_n hx hb dX9_begin_20 rfl (lv_at hl 0 rfl) ?_
  refine lv_iconst (v := 0) hx hb dX9_begin_21 (by decide) ?_
  obtain ⟨Sv18, eSv18, hf⟩ := bd1_e hf
  refine g_put (D := (dC, dI)) (ci := 10) (C := RX9) (T := TX9) (N := 9) hx hb hts hinX9 tyX9 tyX9_ok nmX9 hown hK hP hD hS 0 rfl rfl 4 (by decide) k_fieldLink_RX9_37__KeyLetters_State___lettersOver___I_ (fun _ h9 => h9) rfl (ty := .int) (v := .int (0 : Int32)) (by decide +kernel) rfl rfl (Nat.le_of_ble_eq_true rfl) (ws' := (ww_X9_begin cs ad raS raO Sv18 O)) (by rw [eSv18]; rfl) dX9_begin_22 (fun H locs hP hD hS => ?_)
  refine lv_iconst (v := 0) hx hb dX9_begin_25 (by decide) ?_
  refine lv_istore_n (nL := 3) (lv' := [(2, .int (0 : Int32)), (0, .ref (raS 0)), (1, .ref (raO 0))]) hx hb dX9_begin_26 rfl hl (by decide) rfl (fun ls hl => ?_)
  exact h_27 (0 : Int32) Sv18 ls _ _ (lv_sub hl [1, 2, 0] rfl) hP hD hS hf

def ww_X8_forget (cs : Nat → ClassId) (ad : Nat → Nat) (raN : Nat → Nat) (N : kD) : va_W := (wX8 cs ad raN N)
abbrev rm_X8_forget : Room := { frames := 0, cells := 0, slots := 0, locals := 0 }
set_option maxHeartbeats 4000000 in
set_option maxRecDepth 100000 in
theorem c_X8_forget (l : Launch) (dC : Nat → ClassId) (dI : Nat → Nat → Nat) (cs : Nat → ClassId) (ad : Nat → Nat) (raN : Nat → Nat) (sz : Nat) (N : kD) (r : kD) (hf : f_X8_forget N = some r) : Met l yX8_forget wsX8_forget rm_X8_forget (va_Pc [.ref (raN 0)] (cPw dC dI cs sz (ww_X8_forget cs ad raN N))) (cQv dC dI cs (va_A (ww_X8_forget cs ad raN zD) sz) (ww_X8_forget cs ad raN r)) 0 0 (va_A (ww_X8_forget cs ad raN zD) sz) := by
  refine Met.ofW (cc := cX8_forget) (maxL := 1) (ret := none) (by decide) rfl ?_
  intro p e s m args below meth c s₁ B hml hv
  obtain ⟨hav, hsz, hP, hK, hD0, hN⟩ := hv
  have hx := B.exec
  have hb := B.bytes
  have hr := B.returns
  have hts := atoms_spec (ws := wsX8_forget) B.pre
  have hown : s.vm.findClass RX8 = some m.cls := findClass_of_methodNamed B.named
  have hlocks := B.notSynchronized
  subst hsz
  have hA : ∀ q, s.heap.size ≤ q → va_A (ww_X8_forget cs ad raN zD) s.heap.size q := fun q h => Or.inr h
  have hD : va_D (va_A (ww_X8_forget cs ad raN zD) s.heap.size) (ww_X8_forget cs ad raN N) := hD0.weaken (fun k q h _ => cA_in (ws := (ww_X8_forget cs ad raN N)) (ws' := (ww_X8_forget cs ad raN zD)) rfl h)
  have hS : va_S (va_A (ww_X8_forget cs ad raN zD) s.heap.size) s.heap s.heap [] := va_S.rf
  have hinX8 := (show ∀ w ∈ wsX80, w ∈ wsX8_forget from fun w h => List.mem_cons_of_mem _ (List.mem_append_right _ h))
  have k_fieldLink_RX8_27__KeyLetters_Sentence___size___I_ := hts (.fieldLink RX8 27 "KeyLetters$Sentence" "size" "I") (List.mem_of_getElem? (i := 2) rfl)
  have k_fieldLink_RX8_31__KeyLetters_Sentence___ones___I_ := hts (.fieldLink RX8 31 "KeyLetters$Sentence" "ones" "I") (List.mem_of_getElem? (i := 1) rfl)
  have hl := lv_entry ([.ref (raN 0)]) (n := 1) (Nat.le_of_ble_eq_true rfl)
  rw [show entryFrame m args 1 = entryFrame m ([.ref (raN 0)] : List Value).toArray 1 from by rw [hav], lg_entry_eq]
  generalize (lg_sl ([.ref (raN 0)]) ++ List.replicate (1 - (lg_sl ([.ref (raN 0)])).length) Slot.unset).toArray = ls at hl ⊢
  have hl : lv_has ls 1 [(0, .ref (raN 0))] := hl
  unfold f_X8_forget at hf
  refine lv_aload_n hx hb dX8_forget_0 rfl (lv_at hl 0 rfl) ?_
  refine lv_iconst (v := 0) hx hb dX8_forget_1 (by decide) ?_
  obtain ⟨Nv1, eNv1, hf⟩ := bd1_e hf
  refine g_put (D := (dC, dI)) (ci := 9) (C := RX8) (T := TX8) (N := 6) hx hb hts hinX8 tyX8 tyX8_ok nmX8 hown hK hP hD hS 0 rfl rfl 0 (by decide) k_fieldLink_RX8_31__KeyLetters_Sentence___ones___I_ (fun _ h9 => h9) rfl (ty := .int) (v := .int (0 : Int32)) (by decide +kernel) rfl rfl (Nat.le_of_ble_eq_true rfl) (ws' := (ww_X8_forget cs ad raN Nv1)) (by rw [eNv1]; rfl) dX8_forget_2 (fun H locs hP hD hS => ?_)
  refine lv_aload_n hx hb dX8_forget_5 rfl (lv_at hl 0 rfl) ?_
  refine lv_iconst (v := 0) hx hb dX8_forget_6 (by decide) ?_
  obtain ⟨Nv2, eNv2, hf⟩ := bd1_e hf
  refine g_put (D := (dC, dI)) (ci := 9) (C := RX8) (T := TX8) (N := 6) hx hb hts hinX8 tyX8 tyX8_ok nmX8 hown hK hP hD hS 0 rfl rfl 1 (by decide) k_fieldLink_RX8_27__KeyLetters_Sentence___size___I_ (fun _ h9 => h9) rfl (ty := .int) (v := .int (0 : Int32)) (by decide +kernel) rfl rfl (Nat.le_of_ble_eq_true rfl) (ws' := (ww_X8_forget cs ad raN Nv2)) (by rw [eNv2]; rfl) dX8_forget_7 (fun H locs hP hD hS => ?_)
  have hf := Option.some.inj hf
  subst hf
  exact c_vret hx hb hr hlocks hP hK hD hS dX8_forget_10

def ww_X7_begin (cs : Nat → ClassId) (ad : Nat → Nat) (raC : Nat → Nat) (raO : Nat → Nat) (raS : Nat → Nat) (raN : Nat → Nat) (raO2 : Nat → Nat) (C : kD) (O : kD) (S : kD) (N : kD) (O2 : kD) : va_W := (wX7 cs ad raC (raO 0) (raS 0) (raN 0) C ++ (wX3 cs ad raO O ++ (wX9 cs ad raS S ++ (wX8 cs ad raN N ++ (wX3 cs ad raO2 O2)))))
abbrev rm_X7_begin : Room := { frames := 2, cells := 0, slots := 0, locals := 61 }
set_option maxHeartbeats 4000000 in
set_option maxRecDepth 100000 in
theorem c_X7_begin (l : Launch) (dC : Nat → ClassId) (dI : Nat → Nat → Nat) (cs : Nat → ClassId) (ad : Nat → Nat) (raC : Nat → Nat) (raO : Nat → Nat) (raS : Nat → Nat) (raN : Nat → Nat) (raO2 : Nat → Nat) (sz : Nat) (C : kD) (O : kD) (S : kD) (N : kD) (O2 : kD) (r : kD × kD × kD) (hf : f_X7_begin C O S N O2 = some r) : Met l yX7_begin wsX7_begin rm_X7_begin (va_Pc [.ref (raC 0), .ref (raO2 0)] (cPw dC dI cs sz (ww_X7_begin cs ad raC raO raS raN raO2 C O S N O2))) (cQv dC dI cs (va_A (ww_X7_begin cs ad raC raO raS raN raO2 zD zD zD zD zD) sz) (ww_X7_begin cs ad raC raO raS raN raO2 C r.1 r.2.1 r.2.2 O2)) 0 0 (va_A (ww_X7_begin cs ad raC raO raS raN raO2 zD zD zD zD zD) sz) := by
  refine Met.ofW (cc := cX7_begin) (maxL := 2) (ret := none) (by decide) rfl ?_
  intro p e s m args below meth c s₁ B hml hv
  obtain ⟨hav, hsz, hP, hK, hD0, hN⟩ := hv
  have hx := B.exec
  have hb := B.bytes
  have hr := B.returns
  have hts := atoms_spec (ws := wsX7_begin) B.pre
  have hown : s.vm.findClass RX7 = some m.cls := findClass_of_methodNamed B.named
  have hlocks := B.notSynchronized
  subst hsz
  have hA : ∀ q, s.heap.size ≤ q → va_A (ww_X7_begin cs ad raC raO raS raN raO2 zD zD zD zD zD) s.heap.size q := fun q h => Or.inr h
  have hD : va_D (va_A (ww_X7_begin cs ad raC raO raS raN raO2 zD zD zD zD zD) s.heap.size) (ww_X7_begin cs ad raC raO raS raN raO2 C O S N O2) := hD0.weaken (fun k q h _ => cA_in (ws := (ww_X7_begin cs ad raC raO raS raN raO2 C O S N O2)) (ws' := (ww_X7_begin cs ad raC raO raS raN raO2 zD zD zD zD zD)) rfl h)
  have hS : va_S (va_A (ww_X7_begin cs ad raC raO raS raN raO2 zD zD zD zD zD) s.heap.size) s.heap s.heap [] := va_S.rf
  have hinX7 := (show ∀ w ∈ wsX70, w ∈ wsX7_begin from fun w h => List.mem_cons_of_mem _ (List.mem_append_left _ (List.mem_append_left _ (List.mem_append_left _ (List.mem_append_right _ h)))))
  have kRX7_26__KeyLetters_Scene___sentence___LKeyLetters_Sentence__ := hts (.fieldLink RX7 26 "KeyLetters$Scene" "sentence" "LKeyLetters$Sentence;") (List.mem_of_getElem? (i := 3) rfl)
  have k_initialized_RX3 := hts (.initialized RX3) (List.mem_of_getElem? (i := 5) rfl)
  have k_initialized_RX8 := hts (.initialized RX8) (List.mem_of_getElem? (i := 37) rfl)
  have k_initialized_RX9 := hts (.initialized RX9) (List.mem_of_getElem? (i := 24) rfl)
  have k_instanceMethod_yX3_copyFrom := hts (.instanceMethod yX3_copyFrom) (List.mem_of_getElem? (i := 4) rfl)
  have k_instanceMethod_yX8_forget := hts (.instanceMethod yX8_forget) (List.mem_of_getElem? (i := 36) rfl)
  have k_instanceMethod_yX9_begin := hts (.instanceMethod yX9_begin) (List.mem_of_getElem? (i := 23) rfl)
  have k_selects_RX3_yX3_copyFrom_yX3_copyFrom := hts (.selects RX3 yX3_copyFrom yX3_copyFrom) (List.mem_of_getElem? (i := 6) rfl)
  have k_selects_RX8_yX8_forget_yX8_forget := hts (.selects RX8 yX8_forget yX8_forget) (List.mem_of_getElem? (i := 38) rfl)
  have k_selects_RX9_yX9_begin_yX9_begin := hts (.selects RX9 yX9_begin yX9_begin) (List.mem_of_getElem? (i := 25) rfl)
  have kdLink_RX7_19__KeyLetters_Scene___state___LKeyLetters_State__ := hts (.fieldLink RX7 19 "KeyLetters$Scene" "state" "LKeyLetters$State;") (List.mem_of_getElem? (i := 2) rfl)
  have kink_RX7_10__KeyLetters_Scene___office___LKeyLetters_Office__ := hts (.fieldLink RX7 10 "KeyLetters$Scene" "office" "LKeyLetters$Office;") (List.mem_of_getElem? (i := 1) rfl)
  have hl := lv_entry ([.ref (raC 0), .ref (raO2 0)]) (n := 2) (Nat.le_of_ble_eq_true rfl)
  rw [show entryFrame m args 2 = entryFrame m ([.ref (raC 0), .ref (raO2 0)] : List Value).toArray 2 from by rw [hav], lg_entry_eq]
  generalize (lg_sl ([.ref (raC 0), .ref (raO2 0)]) ++ List.replicate (2 - (lg_sl ([.ref (raC 0), .ref (raO2 0)])).length) Slot.unset).toArray = ls at hl ⊢
  have hl : lv_has ls 2 [(0, .ref (raC 0)), (1, .ref (raO2 0))] := hl
  unfold f_X7_begin at hf
  refine lv_aload_n hx hb dX7_begin_0 rfl (lv_at hl 0 rfl) ?_
  refine va_get (D := (dC, dI)) (ci := 8) (C := RX7) (T := TX7) (N := 3) hx hb hts hinX7 hown hK hP 0 rfl rfl 0 (by decide) (v := .ref (raO 0)) kink_RX7_10__KeyLetters_Scene___office___LKeyLetters_Office__ (fun _ h9 => h9) rfl dX7_begin_1 ?_
  refine lv_aload_n hx hb dX7_begin_4 rfl (lv_at hl 1 rfl) ?_
  obtain ⟨Ov2, hq1, hf⟩ := bo_e hf
  refine g_callv (isC := [1, 2, 3, 4, 5, 6, 7, 8, 19, 20, 21, 22, 23, 24, 25, 26]) (isR := [0, 9, 10, 11, 12, 13, 14, 15, 16, 17, 18]) (wc := (ww_X3_copyFrom cs ad raO raO2 O O2)) (wz := (ww_X3_copyFrom cs ad raO raO2 zD zD)) (w1 := (ww_X3_copyFrom cs ad raO raO2 Ov2 O2)) (ws' := (ww_X7_begin cs ad raC raO raS raN raO2 C Ov2 S N O2)) (va_runVN (As := [.ref (raO2 0)]) (rest := []) ⟨hx, hb, hml, hown, hts⟩ (c_X3_copyFrom l dC dI cs ad raO raO2 _ O O2 Ov2 hq1) ⟨va_cnB 1 hts gX7_begin_X3_copyFrom_n30 rfl rfl rfl (hN _ (List.mem_of_getElem? (i := 86) rfl)) k_initialized_RX3 (by decide +kernel) ⟨Nat.le_of_ble_eq_true rfl, Nat.le_of_ble_eq_true rfl⟩, k_instanceMethod_yX3_copyFrom, k_selects_RX3_yX3_copyFrom_yX3_copyFrom⟩ ⟨fun a U g mk q => ⟨q.1, (fun _ _ _ _ => cPw_bl) a U g mk q.2⟩, va_recv hK hP (ci := 4) (q0 := 1) rfl rfl, fun U hU hW => ⟨rfl, ⟨by rw [hU], by rw [hU]; exact (hP.sub (ws' := (ww_X3_copyFrom cs ad raO raO2 O O2)) [1, 2, 3, 4, 5, 6, 7, 8, 19, 20, 21, 22, 23, 24, 25, 26] rfl), va_K.moved hW.alike hK, (hD.sub (ws' := (ww_X3_copyFrom cs ad raO raO2 O O2)) [1, 2, 3, 4, 5, 6, 7, 8, 19, 20, 21, 22, 23, 24, 25, 26] (by decide) rfl).weaken (fun _ _ _ _ => trivial), kN_warm hW hN⟩⟩⟩ rfl rfl hl.1 rfl (lv_room (Nat.le_of_ble_eq_true rfl)) dX7_begin_5 ⟨Nat.le_refl _, Nat.le_refl _⟩) hP hD hS hA rfl rfl (wr := ((wX7 cs ad raC (raO 0) (raS 0) (raN 0) C) ++ ((wX9 cs ad raS S) ++ ((wX8 cs ad raN N))))) rfl rfl rfl (nw := 27) rfl (by decide +kernel) rfl (fun H locs hP hD hS => ?_)
  refine lv_aload_n hx hb dX7_begin_8 rfl (lv_at hl 0 rfl) ?_
  refine va_get (D := (dC, dI)) (ci := 8) (C := RX7) (T := TX7) (N := 3) hx hb hts hinX7 hown hK hP 0 rfl rfl 1 (by decide) (v := .ref (raS 0)) kdLink_RX7_19__KeyLetters_Scene___state___LKeyLetters_State__ (fun _ h9 => h9) rfl dX7_begin_9 ?_
  refine lv_aload_n hx hb dX7_begin_12 rfl (lv_at hl 1 rfl) ?_
  obtain ⟨Sv4, hq3, hf⟩ := bo_e hf
  refine g_callv (isC := [9, 10, 11, 12, 13, 19, 20, 21, 22, 23, 24, 25, 26]) (isR := [0, 1, 2, 3, 4, 5, 6, 7, 8, 14, 15, 16, 17, 18]) (wc := (ww_X9_begin cs ad raS raO2 S O2)) (wz := (ww_X9_begin cs ad raS raO2 zD zD)) (w1 := (ww_X9_begin cs ad raS raO2 Sv4 O2)) (ws' := (ww_X7_begin cs ad raC raO raS raN raO2 C Ov2 Sv4 N O2)) (va_runVN (As := [.ref (raO2 0)]) (rest := []) ⟨hx, hb, hml, hown, hts⟩ (c_X9_begin l dC dI cs ad raS raO2 _ S O2 Sv4 hq3) ⟨va_cnB 1 hts gX7_begin_X9_begin_n34 rfl rfl rfl (hN _ (List.mem_of_getElem? (i := 87) rfl)) k_initialized_RX9 (by decide +kernel) ⟨Nat.le_of_ble_eq_true rfl, Nat.le_of_ble_eq_true rfl⟩, k_instanceMethod_yX9_begin, k_selects_RX9_yX9_begin_yX9_begin⟩ ⟨fun a U g mk q => ⟨q.1, (fun _ _ _ _ => cPw_bl) a U g mk q.2⟩, va_recv hK hP (ci := 10) (q0 := 9) rfl rfl, fun U hU hW => ⟨rfl, ⟨by rw [hU], by rw [hU]; exact (hP.sub (ws' := (ww_X9_begin cs ad raS raO2 S O2)) [9, 10, 11, 12, 13, 19, 20, 21, 22, 23, 24, 25, 26] rfl), va_K.moved hW.alike hK, (hD.sub (ws' := (ww_X9_begin cs ad raS raO2 S O2)) [9, 10, 11, 12, 13, 19, 20, 21, 22, 23, 24, 25, 26] (by decide) rfl).weaken (fun _ _ _ _ => trivial), kN_warm hW hN⟩⟩⟩ rfl rfl hl.1 rfl (lv_room (Nat.le_of_ble_eq_true rfl)) dX7_begin_13 ⟨Nat.le_refl _, Nat.le_refl _⟩) hP hD hS hA rfl rfl (wr := ((wX7 cs ad raC (raO 0) (raS 0) (raN 0) C) ++ ((wX3 cs ad raO Ov2) ++ ((wX8 cs ad raN N))))) rfl rfl rfl (nw := 27) rfl (by decide +kernel) rfl (fun H locs hP hD hS => ?_)
  refine lv_aload_n hx hb dX7_begin_16 rfl (lv_at hl 0 rfl) ?_
  refine va_get (D := (dC, dI)) (ci := 8) (C := RX7) (T := TX7) (N := 3) hx hb hts hinX7 hown hK hP 0 rfl rfl 2 (by decide) (v := .ref (raN 0)) kRX7_26__KeyLetters_Scene___sentence___LKeyLetters_Sentence__ (fun _ h9 => h9) rfl dX7_begin_17 ?_
  obtain ⟨Nv6, hq5, hf⟩ := bo_e hf
  refine g_callv (isC := [14, 15, 16, 17, 18]) (isR := [0, 1, 2, 3, 4, 5, 6, 7, 8, 9, 10, 11, 12, 13, 19, 20, 21, 22, 23, 24, 25, 26]) (wc := (ww_X8_forget cs ad raN N)) (wz := (ww_X8_forget cs ad raN zD)) (w1 := (ww_X8_forget cs ad raN Nv6)) (ws' := (ww_X7_begin cs ad raC raO raS raN raO2 C Ov2 Sv4 Nv6 O2)) (va_runVN (As := []) (rest := []) ⟨hx, hb, hml, hown, hts⟩ (c_X8_forget l dC dI cs ad raN _ N Nv6 hq5) ⟨va_cnB 0 hts gX7_begin_X8_forget_n37 rfl rfl rfl (hN _ (List.mem_of_getElem? (i := 88) rfl)) k_initialized_RX8 (by decide +kernel) ⟨Nat.le_of_ble_eq_true rfl, Nat.le_of_ble_eq_true rfl⟩, k_instanceMethod_yX8_forget, k_selects_RX8_yX8_forget_yX8_forget⟩ ⟨fun a U g mk q => ⟨q.1, (fun _ _ _ _ => cPw_bl) a U g mk q.2⟩, va_recv hK hP (ci := 9) (q0 := 14) rfl rfl, fun U hU hW => ⟨rfl, ⟨by rw [hU], by rw [hU]; exact (hP.sub (ws' := (ww_X8_forget cs ad raN N)) [14, 15, 16, 17, 18] rfl), va_K.moved hW.alike hK, (hD.sub (ws' := (ww_X8_forget cs ad raN N)) [14, 15, 16, 17, 18] (by decide) rfl).weaken (fun _ _ _ _ => trivial), kN_warm hW hN⟩⟩⟩ rfl rfl hl.1 rfl (lv_room (Nat.le_of_ble_eq_true rfl)) dX7_begin_20 ⟨Nat.le_refl _, Nat.le_refl _⟩) hP hD hS hA rfl rfl (wr := ((wX7 cs ad raC (raO 0) (raS 0) (raN 0) C) ++ ((wX3 cs ad raO Ov2) ++ ((wX9 cs ad raS Sv4) ++ ((wX3 cs ad raO2 O2)))))) rfl rfl rfl (nw := 27) rfl (by decide +kernel) rfl (fun H locs hP hD hS => ?_)
  have hf := Option.some.inj hf
  subst hf
  exact c_vret hx hb hr hlocks hP hK hD hS dX7_begin_23

def ww_X8_copyFrom (cs : Nat → ClassId) (ad : Nat → Nat) (raN : Nat → Nat) (raN2 : Nat → Nat) (N : kD) (N2 : kD) : va_W := (wX8 cs ad raN N ++ (wX8 cs ad raN2 N2))
abbrev rm_X8_copyFrom : Room := { frames := 0, cells := 0, slots := 0, locals := 0 }
set_option maxHeartbeats 4000000 in
set_option maxRecDepth 100000 in
theorem c_X8_copyFrom (l : Launch) (dC : Nat → ClassId) (dI : Nat → Nat → Nat) (cs : Nat → ClassId) (ad : Nat → Nat) (raN : Nat → Nat) (raN2 : Nat → Nat) (sz : Nat) (N : kD) (N2 : kD) (r : kD) (hf : f_X8_copyFrom N N2 = some r) : Met l yX8_copyFrom wsX8_copyFrom rm_X8_copyFrom (va_Pc [.ref (raN 0), .ref (raN2 0)] (cPe ad (va_A (ww_X8_copyFrom cs ad raN raN2 zD zD) sz) (cPw dC dI cs sz (ww_X8_copyFrom cs ad raN raN2 N N2)))) (cQv dC dI cs (va_A (ww_X8_copyFrom cs ad raN raN2 zD zD) sz) (ww_X8_copyFrom cs ad raN raN2 r N2)) 0 0 (va_A (ww_X8_copyFrom cs ad raN raN2 zD zD) sz) := by
  refine Met.ofW (cc := cX8_copyFrom) (maxL := 3) (ret := none) (by decide) rfl ?_
  intro p e s m args below meth c s₁ B hml hv
  obtain ⟨hav, hE, hsz, hP, hK, hD0, hN⟩ := hv
  have hx := B.exec
  have hb := B.bytes
  have hr := B.returns
  have hts := atoms_spec (ws := wsX8_copyFrom) B.pre
  have hown : s.vm.findClass RX8 = some m.cls := findClass_of_methodNamed B.named
  have hlocks := B.notSynchronized
  subst hsz
  have hA : ∀ q, s.heap.size ≤ q → va_A (ww_X8_copyFrom cs ad raN raN2 zD zD) s.heap.size q := fun q h => Or.inr h
  have hD : va_D (va_A (ww_X8_copyFrom cs ad raN raN2 zD zD) s.heap.size) (ww_X8_copyFrom cs ad raN raN2 N N2) := hD0.weaken (fun k q h _ => cA_in (ws := (ww_X8_copyFrom cs ad raN raN2 N N2)) (ws' := (ww_X8_copyFrom cs ad raN raN2 zD zD)) rfl h)
  have hS : va_S (va_A (ww_X8_copyFrom cs ad raN raN2 zD zD) s.heap.size) s.heap s.heap [] := va_S.rf
  have hinX8 := (show ∀ w ∈ wsX80, w ∈ wsX8_copyFrom from fun w h => List.mem_cons_of_mem _ (List.mem_append_right _ h))
  have k_fieldLink_RX8_17__KeyLetters_Sentence___signs____I_ := hts (.fieldLink RX8 17 "KeyLetters$Sentence" "signs" "[I") (List.mem_of_getElem? (i := 4) rfl)
  have k_fieldLink_RX8_21__KeyLetters_Sentence___numbers____I_ := hts (.fieldLink RX8 21 "KeyLetters$Sentence" "numbers" "[I") (List.mem_of_getElem? (i := 5) rfl)
  have k_fieldLink_RX8_27__KeyLetters_Sentence___size___I_ := hts (.fieldLink RX8 27 "KeyLetters$Sentence" "size" "I") (List.mem_of_getElem? (i := 2) rfl)
  have k_fieldLink_RX8_31__KeyLetters_Sentence___ones___I_ := hts (.fieldLink RX8 31 "KeyLetters$Sentence" "ones" "I") (List.mem_of_getElem? (i := 1) rfl)
  have knk_RX8_13__KeyLetters_Sentence___words____LKeyLetters_Word__ := hts (.fieldLink RX8 13 "KeyLetters$Sentence" "words" "[LKeyLetters$Word;") (List.mem_of_getElem? (i := 3) rfl)
  have hl := lv_entry ([.ref (raN 0), .ref (raN2 0)]) (n := 3) (Nat.le_of_ble_eq_true rfl)
  rw [show entryFrame m args 3 = entryFrame m ([.ref (raN 0), .ref (raN2 0)] : List Value).toArray 3 from by rw [hav], lg_entry_eq]
  generalize (lg_sl ([.ref (raN 0), .ref (raN2 0)]) ++ List.replicate (3 - (lg_sl ([.ref (raN 0), .ref (raN2 0)])).length) Slot.unset).toArray = ls at hl ⊢
  have hl : lv_has ls 3 [(0, .ref (raN 0)), (1, .ref (raN2 0))] := hl
  unfold f_X8_copyFrom at hf
  have h_18 := lp_ind (z := (fun _ _ => none)) (b := (g_X8_copyFrom_18 N2)) (fun (rc_18 : Int32 → kD → Option kD) => ∀ (x2_18 : Int32) (N_18 : kD) (ls : Array Slot) (H : Heap) (locs : List Loc), lv_has ls 3 [(0, .ref (raN 0)), (1, .ref (raN2 0)), (2, .int x2_18)] → va_P (dC, dI) vwCl (ww_X8_copyFrom cs ad raN raN2 N_18 N2) H → va_D (va_A (ww_X8_copyFrom cs ad raN raN2 zD zD) s.heap.size) (ww_X8_copyFrom cs ad raN raN2 N_18 N2) → va_S (va_A (ww_X8_copyFrom cs ad raN raN2 zD zD) s.heap.size) s.heap H locs → rc_18 x2_18 N_18 = some r → W p l e (headSpec wsX8_copyFrom rm_X8_copyFrom).room s m args below meth c H locs 0 0 (MQ below (cQv dC dI cs (va_A (ww_X8_copyFrom cs ad raN raN2 zD zD) s.heap.size) (ww_X8_copyFrom cs ad raN raN2 r N2)) args s 0 0 (va_A (ww_X8_copyFrom cs ad raN raN2 zD zD) s.heap.size)) (F0 m 18 ls [])) (by
      intro x2_18 N_18 ls H locs hl hP hD hS hf
      cases hf) (by
      intro rc_18 ih_18 x2_18 N_18 ls H locs hl hP hD hS hf
      unfold g_X8_copyFrom_18 at hf
      refine lv_iload_n hx hb dX8_copyFrom_18 rfl (lv_at hl 2 rfl) ?_
      refine lv_aload_n hx hb dX8_copyFrom_19 rfl (lv_at hl 0 rfl) ?_
      refine va_get (D := (dC, dI)) (ci := 9) (C := RX8) (T := TX8) (N := 6) hx hb hts hinX8 hown hK hP 0 rfl rfl 2 (by decide) (v := .ref (raN 2)) knk_RX8_13__KeyLetters_Sentence___words____LKeyLetters_Word__ (fun _ h9 => h9) rfl dX8_copyFrom_20 ?_
      refine va_alen hx hb hK hP 1 4 rfl rfl (v := (40 : Int32)) rfl dX8_copyFrom_23 ?_
      refine lv_icmp_ge (tgt := 69) hx hb dX8_copyFrom_24 (by decide) (fun hb11 => ?_) (fun hb11 => ?_)
      · have hf := (if_pos hb11).symm.trans hf
        have hf := Option.some.inj hf
        subst hf
        exact c_vret hx hb hr hlocks hP hK hD hS dX8_copyFrom_69
      · have hf := (if_neg hb11).symm.trans hf
        refine lv_aload_n hx hb dX8_copyFrom_27 rfl (lv_at hl 0 rfl) ?_
        refine va_get (D := (dC, dI)) (ci := 9) (C := RX8) (T := TX8) (N := 6) hx hb hts hinX8 hown hK hP 0 rfl rfl 2 (by decide) (v := .ref (raN 2)) knk_RX8_13__KeyLetters_Sentence___words____LKeyLetters_Word__ (fun _ h9 => h9) rfl dX8_copyFrom_28 ?_
        refine lv_iload_n hx hb dX8_copyFrom_31 rfl (lv_at hl 2 rfl) ?_
        refine lv_aload_n hx hb dX8_copyFrom_32 rfl (lv_at hl 1 rfl) ?_
        refine va_get (D := (dC, dI)) (ci := 9) (C := RX8) (T := TX8) (N := 6) hx hb hts hinX8 hown hK hP 5 rfl rfl 2 (by decide) (v := .ref (raN2 2)) knk_RX8_13__KeyLetters_Sentence___words____LKeyLetters_Word__ (fun _ h9 => h9) rfl dX8_copyFrom_33 ?_
        refine lv_iload_n hx hb dX8_copyFrom_36 rfl (lv_at hl 2 rfl) ?_
        obtain ⟨hc1, hf⟩ := ck_e hf
        refine va_aldq hx hb hK hP 6 4 rfl rfl hc1 dX8_copyFrom_37 ?_
        obtain ⟨hc2, hf⟩ := ck_e hf
        obtain ⟨Nv3, eNv3, hf⟩ := bd1_e hf
        refine g_astw (v := (N2.1 2 x2_18.toNatClampNeg)) (f := fun j => kW ad (N_18.1 2 j)) hE hx hb hK hP hD hS 1 4 rfl rfl hc2 dX8_copyFrom_38 (ws' := (ww_X8_copyFrom cs ad raN raN2 Nv3 N2)) (by rw [eNv3, g_wst]; rfl) (fun H locs hP hD hS => ?_)
        refine lv_aload_n hx hb dX8_copyFrom_39 rfl (lv_at hl 0 rfl) ?_
        refine va_get (D := (dC, dI)) (ci := 9) (C := RX8) (T := TX8) (N := 6) hx hb hts hinX8 hown hK hP 0 rfl rfl 3 (by decide) (v := .ref (raN 3)) k_fieldLink_RX8_17__KeyLetters_Sentence___signs____I_ (fun _ h9 => h9) rfl dX8_copyFrom_40 ?_
        refine lv_iload_n hx hb dX8_copyFrom_43 rfl (lv_at hl 2 rfl) ?_
        refine lv_aload_n hx hb dX8_copyFrom_44 rfl (lv_at hl 1 rfl) ?_
        refine va_get (D := (dC, dI)) (ci := 9) (C := RX8) (T := TX8) (N := 6) hx hb hts hinX8 hown hK hP 5 rfl rfl 3 (by decide) (v := .ref (raN2 3)) k_fieldLink_RX8_17__KeyLetters_Sentence___signs____I_ (fun _ h9 => h9) rfl dX8_copyFrom_45 ?_
        refine lv_iload_n hx hb dX8_copyFrom_48 rfl (lv_at hl 2 rfl) ?_
        obtain ⟨hc4, hf⟩ := ck_e hf
        refine va_iald hx hb hK hP 7 1 rfl rfl hc4 dX8_copyFrom_49 ?_
        obtain ⟨hc5, hf⟩ := ck_e hf
        obtain ⟨Nv6, eNv6, hf⟩ := bd1_e hf
        refine va_iast hx hb hK hP hD hS 2 1 rfl rfl hc5 dX8_copyFrom_50 (fun H locs hP hD hS => ?_)
        have hP : va_P (dC, dI) vwCl (ww_X8_copyFrom cs ad raN raN2 Nv6 N2) H := g_toP (by rw [eNv6]; rfl) hP
        have hD : va_D (va_A (ww_X8_copyFrom cs ad raN raN2 zD zD) s.heap.size) (ww_X8_copyFrom cs ad raN raN2 Nv6 N2) := g_toD (by rw [eNv6]; rfl) hD
        refine lv_aload_n hx hb dX8_copyFrom_51 rfl (lv_at hl 0 rfl) ?_
        refine va_get (D := (dC, dI)) (ci := 9) (C := RX8) (T := TX8) (N := 6) hx hb hts hinX8 hown hK hP 0 rfl rfl 4 (by decide) (v := .ref (raN 4)) k_fieldLink_RX8_21__KeyLetters_Sentence___numbers____I_ (fun _ h9 => h9) rfl dX8_copyFrom_52 ?_
        refine lv_iload_n hx hb dX8_copyFrom_55 rfl (lv_at hl 2 rfl) ?_
        refine lv_aload_n hx hb dX8_copyFrom_56 rfl (lv_at hl 1 rfl) ?_
        refine va_get (D := (dC, dI)) (ci := 9) (C := RX8) (T := TX8) (N := 6) hx hb hts hinX8 hown hK hP 5 rfl rfl 4 (by decide) (v := .ref (raN2 4)) k_fieldLink_RX8_21__KeyLetters_Sentence___numbers____I_ (fun _ h9 => h9) rfl dX8_copyFrom_57 ?_
        refine lv_iload_n hx hb dX8_copyFrom_60 rfl (lv_at hl 2 rfl) ?_
        obtain ⟨hc7, hf⟩ := ck_e hf
        refine va_iald hx hb hK hP 8 1 rfl rfl hc7 dX8_copyFrom_61 ?_
        obtain ⟨hc8, hf⟩ := ck_e hf
        obtain ⟨Nv9, eNv9, hf⟩ := bd1_e hf
        refine va_iast hx hb hK hP hD hS 3 1 rfl rfl hc8 dX8_copyFrom_62 (fun H locs hP hD hS => ?_)
        have hP : va_P (dC, dI) vwCl (ww_X8_copyFrom cs ad raN raN2 Nv9 N2) H := g_toP (by rw [eNv9]; rfl) hP
        have hD : va_D (va_A (ww_X8_copyFrom cs ad raN raN2 zD zD) s.heap.size) (ww_X8_copyFrom cs ad raN raN2 Nv9 N2) := g_toD (by rw [eNv9]; rfl) hD
        obtain ⟨v10, ev10, hf⟩ := bd1_e hf
        refine lv_iinc (k := 2) (x := x2_18) (v := v10) (nL := 3) (lv' := [(2, .int v10), (0, .ref (raN 0)), (1, .ref (raN2 0))]) hx hb dX8_copyFrom_63 hl rfl (kt_inc (w := 1) (by decide) ev10) (by decide) rfl (fun ls hl => ?_)
        refine lv_goto (tgt := 18) hx hb dX8_copyFrom_66 (by decide) ?_
        exact ih_18 v10 Nv9 ls _ _ (lv_sub hl [1, 2, 0] rfl) hP hD hS hf) 2000
  refine lv_aload_n hx hb dX8_copyFrom_0 rfl (lv_at hl 0 rfl) ?_
  refine lv_aload_n hx hb dX8_copyFrom_1 rfl (lv_at hl 1 rfl) ?_
  refine va_get (D := (dC, dI)) (ci := 9) (C := RX8) (T := TX8) (N := 6) hx hb hts hinX8 hown hK hP 5 rfl rfl 0 (by decide) (v := .int (N2.1 0 0)) k_fieldLink_RX8_31__KeyLetters_Sentence___ones___I_ (fun _ h9 => h9) rfl dX8_copyFrom_2 ?_
  obtain ⟨Nv12, eNv12, hf⟩ := bd1_e hf
  refine g_put (D := (dC, dI)) (ci := 9) (C := RX8) (T := TX8) (N := 6) hx hb hts hinX8 tyX8 tyX8_ok nmX8 hown hK hP hD hS 0 rfl rfl 0 (by decide) k_fieldLink_RX8_31__KeyLetters_Sentence___ones___I_ (fun _ h9 => h9) rfl (ty := .int) (v := .int (N2.1 0 0)) (by decide +kernel) rfl rfl (Nat.le_of_ble_eq_true rfl) (ws' := (ww_X8_copyFrom cs ad raN raN2 Nv12 N2)) (by rw [eNv12]; rfl) dX8_copyFrom_5 (fun H locs hP hD hS => ?_)
  refine lv_aload_n hx hb dX8_copyFrom_8 rfl (lv_at hl 0 rfl) ?_
  refine lv_aload_n hx hb dX8_copyFrom_9 rfl (lv_at hl 1 rfl) ?_
  refine va_get (D := (dC, dI)) (ci := 9) (C := RX8) (T := TX8) (N := 6) hx hb hts hinX8 hown hK hP 5 rfl rfl 1 (by decide) (v := .int (N2.1 0 1)) k_fieldLink_RX8_27__KeyLetters_Sentence___size___I_ (fun _ h9 => h9) rfl dX8_copyFrom_10 ?_
  obtain ⟨Nv13, eNv13, hf⟩ := bd1_e hf
  refine g_put (D := (dC, dI)) (ci := 9) (C := RX8) (T := TX8) (N := 6) hx hb hts hinX8 tyX8 tyX8_ok nmX8 hown hK hP hD hS 0 rfl rfl 1 (by decide) k_fieldLink_RX8_27__KeyLetters_Sentence___size___I_ (fun _ h9 => h9) rfl (ty := .int) (v := .int (N2.1 0 1)) (by decide +kernel) rfl rfl (Nat.le_of_ble_eq_true rfl) (ws' := (ww_X8_copyFrom cs ad raN raN2 Nv13 N2)) (by rw [eNv13]; rfl) dX8_copyFrom_13 (fun H locs hP hD hS => ?_)
  refine lv_iconst (v := 0) hx hb dX8_copyFrom_16 (by decide) ?_
  refine lv_istore_n (nL := 3) (lv' := [(2, .int (0 : Int32)), (0, .ref (raN 0)), (1, .ref (raN2 0))]) hx hb dX8_copyFrom_17 rfl hl (by decide) rfl (fun ls hl => ?_)
  exact h_18 (0 : Int32) Nv13 ls _ _ (lv_sub hl [1, 2, 0] rfl) hP hD hS hf

def ww_X7_copyFrom (cs : Nat → ClassId) (ad : Nat → Nat) (raC : Nat → Nat) (raO : Nat → Nat) (raS : Nat → Nat) (raN : Nat → Nat) (raC2 : Nat → Nat) (raO2 : Nat → Nat) (raS2 : Nat → Nat) (raN2 : Nat → Nat) (C : kD) (O : kD) (S : kD) (N : kD) (C2 : kD) (O2 : kD) (S2 : kD) (N2 : kD) : va_W := (wX7 cs ad raC (raO 0) (raS 0) (raN 0) C ++ (wX3 cs ad raO O ++ (wX9 cs ad raS S ++ (wX8 cs ad raN N ++ (wX7 cs ad raC2 (raO2 0) (raS2 0) (raN2 0) C2 ++ (wX3 cs ad raO2 O2 ++ (wX9 cs ad raS2 S2 ++ (wX8 cs ad raN2 N2))))))))
abbrev rm_X7_copyFrom : Room := { frames := 2, cells := 0, slots := 0, locals := 61 }
set_option maxHeartbeats 4000000 in
set_option maxRecDepth 100000 in
theorem c_X7_copyFrom (l : Launch) (dC : Nat → ClassId) (dI : Nat → Nat → Nat) (cs : Nat → ClassId) (ad : Nat → Nat) (raC : Nat → Nat) (raO : Nat → Nat) (raS : Nat → Nat) (raN : Nat → Nat) (raC2 : Nat → Nat) (raO2 : Nat → Nat) (raS2 : Nat → Nat) (raN2 : Nat → Nat) (sz : Nat) (C : kD) (O : kD) (S : kD) (N : kD) (C2 : kD) (O2 : kD) (S2 : kD) (N2 : kD) (r : kD × kD × kD) (hf : f_X7_copyFrom C O S N C2 O2 S2 N2 = some r) : Met l yX7_copyFrom wsX7_copyFrom rm_X7_copyFrom (va_Pc [.ref (raC 0), .ref (raC2 0)] (cPe ad (va_A (ww_X7_copyFrom cs ad raC raO raS raN raC2 raO2 raS2 raN2 zD zD zD zD zD zD zD zD) sz) (cPw dC dI cs sz (ww_X7_copyFrom cs ad raC raO raS raN raC2 raO2 raS2 raN2 C O S N C2 O2 S2 N2)))) (cQv dC dI cs (va_A (ww_X7_copyFrom cs ad raC raO raS raN raC2 raO2 raS2 raN2 zD zD zD zD zD zD zD zD) sz) (ww_X7_copyFrom cs ad raC raO raS raN raC2 raO2 raS2 raN2 C r.1 r.2.1 r.2.2 C2 O2 S2 N2)) 0 0 (va_A (ww_X7_copyFrom cs ad raC raO raS raN raC2 raO2 raS2 raN2 zD zD zD zD zD zD zD zD) sz) := by
  refine Met.ofW (cc := cX7_copyFrom) (maxL := 2) (ret := none) (by decide) rfl ?_
  intro p e s m args below meth c s₁ B hml hv
  obtain ⟨hav, hE, hsz, hP, hK, hD0, hN⟩ := hv
  have hx := B.exec
  have hb := B.bytes
  have hr := B.returns
  have hts := atoms_spec (ws := wsX7_copyFrom) B.pre
  have hown : s.vm.findClass RX7 = some m.cls := findClass_of_methodNamed B.named
  have hlocks := B.notSynchronized
  subst hsz
  have hA : ∀ q, s.heap.size ≤ q → va_A (ww_X7_copyFrom cs ad raC raO raS raN raC2 raO2 raS2 raN2 zD zD zD zD zD zD zD zD) s.heap.size q := fun q h => Or.inr h
  have hD : va_D (va_A (ww_X7_copyFrom cs ad raC raO raS raN raC2 raO2 raS2 raN2 zD zD zD zD zD zD zD zD) s.heap.size) (ww_X7_copyFrom cs ad raC raO raS raN raC2 raO2 raS2 raN2 C O S N C2 O2 S2 N2) := hD0.weaken (fun k q h _ => cA_in (ws := (ww_X7_copyFrom cs ad raC raO raS raN raC2 raO2 raS2 raN2 C O S N C2 O2 S2 N2)) (ws' := (ww_X7_copyFrom cs ad raC raO raS raN raC2 raO2 raS2 raN2 zD zD zD zD zD zD zD zD)) rfl h)
  have hS : va_S (va_A (ww_X7_copyFrom cs ad raC raO raS raN raC2 raO2 raS2 raN2 zD zD zD zD zD zD zD zD) s.heap.size) s.heap s.heap [] := va_S.rf
  have hinX7 := (show ∀ w ∈ wsX70, w ∈ wsX7_copyFrom from fun w h => List.mem_cons_of_mem _ (List.mem_append_left _ (List.mem_append_left _ (List.mem_append_left _ (List.mem_append_right _ h)))))
  have kRX7_26__KeyLetters_Scene___sentence___LKeyLetters_Sentence__ := hts (.fieldLink RX7 26 "KeyLetters$Scene" "sentence" "LKeyLetters$Sentence;") (List.mem_of_getElem? (i := 3) rfl)
  have k_initialized_RX3 := hts (.initialized RX3) (List.mem_of_getElem? (i := 5) rfl)
  have k_initialized_RX8 := hts (.initialized RX8) (List.mem_of_getElem? (i := 38) rfl)
  have k_initialized_RX9 := hts (.initialized RX9) (List.mem_of_getElem? (i := 24) rfl)
  have k_instanceMethod_yX3_copyFrom := hts (.instanceMethod yX3_copyFrom) (List.mem_of_getElem? (i := 4) rfl)
  have k_instanceMethod_yX8_copyFrom := hts (.instanceMethod yX8_copyFrom) (List.mem_of_getElem? (i := 37) rfl)
  have k_instanceMethod_yX9_copyFrom := hts (.instanceMethod yX9_copyFrom) (List.mem_of_getElem? (i := 23) rfl)
  have k_selects_RX3_yX3_copyFrom_yX3_copyFrom := hts (.selects RX3 yX3_copyFrom yX3_copyFrom) (List.mem_of_getElem? (i := 6) rfl)
  have k_selects_RX8_yX8_copyFrom_yX8_copyFrom := hts (.selects RX8 yX8_copyFrom yX8_copyFrom) (List.mem_of_getElem? (i := 39) rfl)
  have k_selects_RX9_yX9_copyFrom_yX9_copyFrom := hts (.selects RX9 yX9_copyFrom yX9_copyFrom) (List.mem_of_getElem? (i := 25) rfl)
  have kdLink_RX7_19__KeyLetters_Scene___state___LKeyLetters_State__ := hts (.fieldLink RX7 19 "KeyLetters$Scene" "state" "LKeyLetters$State;") (List.mem_of_getElem? (i := 2) rfl)
  have kink_RX7_10__KeyLetters_Scene___office___LKeyLetters_Office__ := hts (.fieldLink RX7 10 "KeyLetters$Scene" "office" "LKeyLetters$Office;") (List.mem_of_getElem? (i := 1) rfl)
  have hl := lv_entry ([.ref (raC 0), .ref (raC2 0)]) (n := 2) (Nat.le_of_ble_eq_true rfl)
  rw [show entryFrame m args 2 = entryFrame m ([.ref (raC 0), .ref (raC2 0)] : List Value).toArray 2 from by rw [hav], lg_entry_eq]
  generalize (lg_sl ([.ref (raC 0), .ref (raC2 0)]) ++ List.replicate (2 - (lg_sl ([.ref (raC 0), .ref (raC2 0)])).length) Slot.unset).toArray = ls at hl ⊢
  have hl : lv_has ls 2 [(0, .ref (raC 0)), (1, .ref (raC2 0))] := hl
  unfold f_X7_copyFrom at hf
  refine lv_aload_n hx hb dX7_copyFrom_0 rfl (lv_at hl 0 rfl) ?_
  refine va_get (D := (dC, dI)) (ci := 8) (C := RX7) (T := TX7) (N := 3) hx hb hts hinX7 hown hK hP 0 rfl rfl 0 (by decide) (v := .ref (raO 0)) kink_RX7_10__KeyLetters_Scene___office___LKeyLetters_Office__ (fun _ h9 => h9) rfl dX7_copyFrom_1 ?_
  refine lv_aload_n hx hb dX7_copyFrom_4 rfl (lv_at hl 1 rfl) ?_
  refine va_get (D := (dC, dI)) (ci := 8) (C := RX7) (T := TX7) (N := 3) hx hb hts hinX7 hown hK hP 19 rfl rfl 0 (by decide) (v := .ref (raO2 0)) kink_RX7_10__KeyLetters_Scene___office___LKeyLetters_Office__ (fun _ h9 => h9) rfl dX7_copyFrom_5 ?_
  obtain ⟨Ov2, hq1, hf⟩ := bo_e hf
  refine g_callv (isC := [1, 2, 3, 4, 5, 6, 7, 8, 20, 21, 22, 23, 24, 25, 26, 27]) (isR := [0, 9, 10, 11, 12, 13, 14, 15, 16, 17, 18, 19, 28, 29, 30, 31, 32, 33, 34, 35, 36, 37]) (wc := (ww_X3_copyFrom cs ad raO raO2 O O2)) (wz := (ww_X3_copyFrom cs ad raO raO2 zD zD)) (w1 := (ww_X3_copyFrom cs ad raO raO2 Ov2 O2)) (ws' := (ww_X7_copyFrom cs ad raC raO raS raN raC2 raO2 raS2 raN2 C Ov2 S N C2 O2 S2 N2)) (va_runVN (As := [.ref (raO2 0)]) (rest := []) ⟨hx, hb, hml, hown, hts⟩ (c_X3_copyFrom l dC dI cs ad raO raO2 _ O O2 Ov2 hq1) ⟨va_cnB 1 hts gX7_copyFrom_X3_copyFrom_n30 rfl rfl rfl (hN _ (List.mem_of_getElem? (i := 86) rfl)) k_initialized_RX3 (by decide +kernel) ⟨Nat.le_of_ble_eq_true rfl, Nat.le_of_ble_eq_true rfl⟩, k_instanceMethod_yX3_copyFrom, k_selects_RX3_yX3_copyFrom_yX3_copyFrom⟩ ⟨fun a U g mk q => ⟨q.1, (fun _ _ _ _ => cPw_bl) a U g mk q.2⟩, va_recv hK hP (ci := 4) (q0 := 1) rfl rfl, fun U hU hW => ⟨rfl, ⟨by rw [hU], by rw [hU]; exact (hP.sub (ws' := (ww_X3_copyFrom cs ad raO raO2 O O2)) [1, 2, 3, 4, 5, 6, 7, 8, 20, 21, 22, 23, 24, 25, 26, 27] rfl), va_K.moved hW.alike hK, (hD.sub (ws' := (ww_X3_copyFrom cs ad raO raO2 O O2)) [1, 2, 3, 4, 5, 6, 7, 8, 20, 21, 22, 23, 24, 25, 26, 27] (by decide) rfl).weaken (fun _ _ _ _ => trivial), kN_warm hW hN⟩⟩⟩ rfl rfl hl.1 rfl (lv_room (Nat.le_of_ble_eq_true rfl)) dX7_copyFrom_8 ⟨Nat.le_refl _, Nat.le_refl _⟩) hP hD hS hA rfl rfl (wr := ((wX7 cs ad raC (raO 0) (raS 0) (raN 0) C) ++ ((wX9 cs ad raS S) ++ ((wX8 cs ad raN N) ++ ((wX7 cs ad raC2 (raO2 0) (raS2 0) (raN2 0) C2) ++ ((wX9 cs ad raS2 S2) ++ ((wX8 cs ad raN2 N2)))))))) rfl rfl rfl (nw := 38) rfl (by decide +kernel) rfl (fun H locs hP hD hS => ?_)
  refine lv_aload_n hx hb dX7_copyFrom_11 rfl (lv_at hl 0 rfl) ?_
  refine va_get (D := (dC, dI)) (ci := 8) (C := RX7) (T := TX7) (N := 3) hx hb hts hinX7 hown hK hP 0 rfl rfl 1 (by decide) (v := .ref (raS 0)) kdLink_RX7_19__KeyLetters_Scene___state___LKeyLetters_State__ (fun _ h9 => h9) rfl dX7_copyFrom_12 ?_
  refine lv_aload_n hx hb dX7_copyFrom_15 rfl (lv_at hl 1 rfl) ?_
  refine va_get (D := (dC, dI)) (ci := 8) (C := RX7) (T := TX7) (N := 3) hx hb hts hinX7 hown hK hP 19 rfl rfl 1 (by decide) (v := .ref (raS2 0)) kdLink_RX7_19__KeyLetters_Scene___state___LKeyLetters_State__ (fun _ h9 => h9) rfl dX7_copyFrom_16 ?_
  obtain ⟨Sv4, hq3, hf⟩ := bo_e hf
  refine g_callv (isC := [9, 10, 11, 12, 13, 28, 29, 30, 31, 32]) (isR := [0, 1, 2, 3, 4, 5, 6, 7, 8, 14, 15, 16, 17, 18, 19, 20, 21, 22, 23, 24, 25, 26, 27, 33, 34, 35, 36, 37]) (wc := (ww_X9_copyFrom cs ad raS raS2 S S2)) (wz := (ww_X9_copyFrom cs ad raS raS2 zD zD)) (w1 := (ww_X9_copyFrom cs ad raS raS2 Sv4 S2)) (ws' := (ww_X7_copyFrom cs ad raC raO raS raN raC2 raO2 raS2 raN2 C Ov2 Sv4 N C2 O2 S2 N2)) (va_runVN (As := [.ref (raS2 0)]) (rest := []) ⟨hx, hb, hml, hown, hts⟩ (c_X9_copyFrom l dC dI cs ad raS raS2 _ S S2 Sv4 hq3) ⟨va_cnB 1 hts gX7_copyFrom_X9_copyFrom_n40 rfl rfl rfl (hN _ (List.mem_of_getElem? (i := 151) rfl)) k_initialized_RX9 (by decide +kernel) ⟨Nat.le_of_ble_eq_true rfl, Nat.le_of_ble_eq_true rfl⟩, k_instanceMethod_yX9_copyFrom, k_selects_RX9_yX9_copyFrom_yX9_copyFrom⟩ ⟨fun a U g mk q => ⟨q.1, (fun _ _ _ _ => cPw_bl) a U g mk q.2⟩, va_recv hK hP (ci := 10) (q0 := 9) rfl rfl, fun U hU hW => ⟨rfl, ⟨by rw [hU], by rw [hU]; exact (hP.sub (ws' := (ww_X9_copyFrom cs ad raS raS2 S S2)) [9, 10, 11, 12, 13, 28, 29, 30, 31, 32] rfl), va_K.moved hW.alike hK, (hD.sub (ws' := (ww_X9_copyFrom cs ad raS raS2 S S2)) [9, 10, 11, 12, 13, 28, 29, 30, 31, 32] (by decide) rfl).weaken (fun _ _ _ _ => trivial), kN_warm hW hN⟩⟩⟩ rfl rfl hl.1 rfl (lv_room (Nat.le_of_ble_eq_true rfl)) dX7_copyFrom_19 ⟨Nat.le_refl _, Nat.le_refl _⟩) hP hD hS hA rfl rfl (wr := ((wX7 cs ad raC (raO 0) (raS 0) (raN 0) C) ++ ((wX3 cs ad raO Ov2) ++ ((wX8 cs ad raN N) ++ ((wX7 cs ad raC2 (raO2 0) (raS2 0) (raN2 0) C2) ++ ((wX3 cs ad raO2 O2) ++ ((wX8 cs ad raN2 N2)))))))) rfl rfl rfl (nw := 38) rfl (by decide +kernel) rfl (fun H locs hP hD hS => ?_)
  refine lv_aload_n hx hb dX7_copyFrom_22 rfl (lv_at hl 0 rfl) ?_
  refine va_get (D := (dC, dI)) (ci := 8) (C := RX7) (T := TX7) (N := 3) hx hb hts hinX7 hown hK hP 0 rfl rfl 2 (by decide) (v := .ref (raN 0)) kRX7_26__KeyLetters_Scene___sentence___LKeyLetters_Sentence__ (fun _ h9 => h9) rfl dX7_copyFrom_23 ?_
  refine lv_aload_n hx hb dX7_copyFrom_26 rfl (lv_at hl 1 rfl) ?_
  refine va_get (D := (dC, dI)) (ci := 8) (C := RX7) (T := TX7) (N := 3) hx hb hts hinX7 hown hK hP 19 rfl rfl 2 (by decide) (v := .ref (raN2 0)) kRX7_26__KeyLetters_Scene___sentence___LKeyLetters_Sentence__ (fun _ h9 => h9) rfl dX7_copyFrom_27 ?_
  obtain ⟨Nv6, hq5, hf⟩ := bo_e hf
  have hEc := cE_sub (A1 := va_A (ww_X8_copyFrom cs ad raN raN2 zD zD) _) hE hS (cA_free (isC := [14, 15, 16, 17, 18, 33, 34, 35, 36, 37]) (wc := (ww_X8_copyFrom cs ad raN raN2 N N2)) (wz := (ww_X8_copyFrom cs ad raN raN2 zD zD)) rfl rfl hD hS hA)
  refine g_callv (isC := [14, 15, 16, 17, 18, 33, 34, 35, 36, 37]) (isR := [0, 1, 2, 3, 4, 5, 6, 7, 8, 9, 10, 11, 12, 13, 19, 20, 21, 22, 23, 24, 25, 26, 27, 28, 29, 30, 31, 32]) (wc := (ww_X8_copyFrom cs ad raN raN2 N N2)) (wz := (ww_X8_copyFrom cs ad raN raN2 zD zD)) (w1 := (ww_X8_copyFrom cs ad raN raN2 Nv6 N2)) (ws' := (ww_X7_copyFrom cs ad raC raO raS raN raC2 raO2 raS2 raN2 C Ov2 Sv4 Nv6 C2 O2 S2 N2)) (va_runVN (As := [.ref (raN2 0)]) (rest := []) ⟨hx, hb, hml, hown, hts⟩ (c_X8_copyFrom l dC dI cs ad raN raN2 _ N N2 Nv6 hq5) ⟨va_cnB 1 hts gX7_copyFrom_X8_copyFrom_n43 rfl rfl rfl (hN _ (List.mem_of_getElem? (i := 152) rfl)) k_initialized_RX8 (by decide +kernel) ⟨Nat.le_of_ble_eq_true rfl, Nat.le_of_ble_eq_true rfl⟩, k_instanceMethod_yX8_copyFrom, k_selects_RX8_yX8_copyFrom_yX8_copyFrom⟩ ⟨fun a U g mk q => ⟨q.1, (fun _ _ _ _ => cPe_bl (fun h => cPw_bl h)) a U g mk q.2⟩, va_recv hK hP (ci := 9) (q0 := 14) rfl rfl, fun U hU hW => ⟨rfl, ⟨hEc U hU hW, ⟨by rw [hU], by rw [hU]; exact (hP.sub (ws' := (ww_X8_copyFrom cs ad raN raN2 N N2)) [14, 15, 16, 17, 18, 33, 34, 35, 36, 37] rfl), va_K.moved hW.alike hK, (hD.sub (ws' := (ww_X8_copyFrom cs ad raN raN2 N N2)) [14, 15, 16, 17, 18, 33, 34, 35, 36, 37] (by decide) rfl).weaken (fun _ _ _ _ => trivial), kN_warm hW hN⟩⟩⟩⟩ rfl rfl hl.1 rfl (lv_room (Nat.le_of_ble_eq_true rfl)) dX7_copyFrom_30 ⟨Nat.le_refl _, Nat.le_refl _⟩) hP hD hS hA rfl rfl (wr := ((wX7 cs ad raC (raO 0) (raS 0) (raN 0) C) ++ ((wX3 cs ad raO Ov2) ++ ((wX9 cs ad raS Sv4) ++ ((wX7 cs ad raC2 (raO2 0) (raS2 0) (raN2 0) C2) ++ ((wX3 cs ad raO2 O2) ++ ((wX9 cs ad raS2 S2)))))))) rfl rfl rfl (nw := 38) rfl (by decide +kernel) rfl (fun H locs hP hD hS => ?_)
  have hf := Option.some.inj hf
  subst hf
  exact c_vret hx hb hr hlocks hP hK hD hS dX7_copyFrom_33

def ww_X8_isTold (cs : Nat → ClassId) (ad : Nat → Nat) (raN : Nat → Nat) (N : kD) : va_W := (wX8 cs ad raN N)
abbrev rm_X8_isTold : Room := { frames := 0, cells := 0, slots := 0, locals := 0 }
set_option maxHeartbeats 4000000 in
set_option maxRecDepth 100000 in
theorem c_X8_isTold (l : Launch) (dC : Nat → ClassId) (dI : Nat → Nat → Nat) (cs : Nat → ClassId) (ad : Nat → Nat) (raN : Nat → Nat) (N : kD) (r : Int32) (hf : f_X8_isTold N = r) : Met l yX8_isTold wsX8_isTold rm_X8_isTold (va_Pc [.ref (raN 0)] (cPr dC dI cs (ww_X8_isTold cs ad raN N))) (kQ (some (.int r))) 0 0 (kF) := by
  refine Met.ofW (cc := cX8_isTold) (maxL := 1) (ret := (some .boolean)) (by decide) rfl ?_
  intro p e s m args below meth c s₁ B hml hv
  obtain ⟨hav, hP, hK, hN⟩ := hv
  have hx := B.exec
  have hb := B.bytes
  have hr := B.returns
  have hts := atoms_spec (ws := wsX8_isTold) B.pre
  have hown : s.vm.findClass RX8 = some m.cls := findClass_of_methodNamed B.named
  have hlocks := B.notSynchronized
  have hinX8 := (show ∀ w ∈ wsX80, w ∈ wsX8_isTold from fun w h => List.mem_cons_of_mem _ (List.mem_append_right _ h))
  have k_fieldLink_RX8_27__KeyLetters_Sentence___size___I_ := hts (.fieldLink RX8 27 "KeyLetters$Sentence" "size" "I") (List.mem_of_getElem? (i := 1) rfl)
  have hl := lv_entry ([.ref (raN 0)]) (n := 1) (Nat.le_of_ble_eq_true rfl)
  rw [show entryFrame m args 1 = entryFrame m ([.ref (raN 0)] : List Value).toArray 1 from by rw [hav], lg_entry_eq]
  generalize (lg_sl ([.ref (raN 0)]) ++ List.replicate (1 - (lg_sl ([.ref (raN 0)])).length) Slot.unset).toArray = ls at hl ⊢
  have hl : lv_has ls 1 [(0, .ref (raN 0))] := hl
  unfold f_X8_isTold at hf
  refine lv_aload_n hx hb dX8_isTold_0 rfl (lv_at hl 0 rfl) ?_
  refine va_get (D := (dC, dI)) (ci := 9) (C := RX8) (T := TX8) (N := 6) hx hb hts hinX8 hown hK hP 0 rfl rfl 1 (by decide) (v := .int (N.1 0 1)) k_fieldLink_RX8_27__KeyLetters_Sentence___size___I_ (fun _ h9 => h9) rfl dX8_isTold_1 ?_
  refine lv_if_le (tgt := 11) hx hb dX8_isTold_4 (by decide) (fun hb1 => ?_) (fun hb1 => ?_)
  · have hf := (if_pos hb1).symm.trans hf
    refine lv_iconst (v := 0) hx hb dX8_isTold_11 (by decide) ?_
    subst hf
    exact W.zret (v := (0 : Int32)) (ty := .boolean) hx hb hr rfl (fun t ht hW => ⟨rfl, ht⟩) (fun _ h => nomatch h) dX8_isTold_12
  · have hf := (if_neg hb1).symm.trans hf
    refine lv_iconst (v := 1) hx hb dX8_isTold_7 (by decide) ?_
    refine lv_goto (tgt := 12) hx hb dX8_isTold_8 (by decide) ?_
    subst hf
    exact W.zret (v := (1 : Int32)) (ty := .boolean) hx hb hr rfl (fun t ht hW => ⟨rfl, ht⟩) (fun _ h => nomatch h) dX8_isTold_12
theorem z_X8_isTold (N : kD) : f_X8_isTold N = 0 ∨ f_X8_isTold N = 1 := by
  unfold f_X8_isTold
  repeat' split
  all_goals first | exact Or.inl rfl | exact Or.inr rfl

def ww_X8_keepWord (cs : Nat → ClassId) (ad : Nat → Nat) (raN : Nat → Nat) (N : kD) : va_W := (wX8 cs ad raN N)
abbrev rm_X8_keepWord : Room := { frames := 0, cells := 0, slots := 0, locals := 0 }
set_option maxHeartbeats 4000000 in
set_option maxRecDepth 100000 in
theorem c_X8_keepWord (l : Launch) (dC : Nat → ClassId) (dI : Nat → Nat → Nat) (cs : Nat → ClassId) (ad : Nat → Nat) (raN : Nat → Nat) (sz : Nat) (N : kD) (a0 : Int32) (a1 : Int32) (a2 : Int32) (r : Int32 × kD) (hf : f_X8_keepWord a0 a1 a2 N = some r) : Met l yX8_keepWord wsX8_keepWord rm_X8_keepWord (va_Pc [.ref (raN 0), .ref (ad a0.toNatClampNeg), .int a1, .int a2] (cPe ad (va_A (ww_X8_keepWord cs ad raN zD) sz) (cPw dC dI cs sz (ww_X8_keepWord cs ad raN N)))) (cQi dC dI cs (va_A (ww_X8_keepWord cs ad raN zD) sz) r.1 (ww_X8_keepWord cs ad raN r.2)) 0 0 (va_A (ww_X8_keepWord cs ad raN zD) sz) := by
  refine Met.ofW (cc := cX8_keepWord) (maxL := 4) (ret := (some .boolean)) (by decide) rfl ?_
  intro p e s m args below meth c s₁ B hml hv
  obtain ⟨hav, hE, hsz, hP, hK, hD0, hN⟩ := hv
  have hx := B.exec
  have hb := B.bytes
  have hr := B.returns
  have hts := atoms_spec (ws := wsX8_keepWord) B.pre
  have hown : s.vm.findClass RX8 = some m.cls := findClass_of_methodNamed B.named
  have hlocks := B.notSynchronized
  subst hsz
  have hA : ∀ q, s.heap.size ≤ q → va_A (ww_X8_keepWord cs ad raN zD) s.heap.size q := fun q h => Or.inr h
  have hD : va_D (va_A (ww_X8_keepWord cs ad raN zD) s.heap.size) (ww_X8_keepWord cs ad raN N) := hD0.weaken (fun k q h _ => cA_in (ws := (ww_X8_keepWord cs ad raN N)) (ws' := (ww_X8_keepWord cs ad raN zD)) rfl h)
  have hS : va_S (va_A (ww_X8_keepWord cs ad raN zD) s.heap.size) s.heap s.heap [] := va_S.rf
  have hinX8 := (show ∀ w ∈ wsX80, w ∈ wsX8_keepWord from fun w h => List.mem_cons_of_mem _ (List.mem_append_right _ h))
  have k_fieldLink_RX8_17__KeyLetters_Sentence___signs____I_ := hts (.fieldLink RX8 17 "KeyLetters$Sentence" "signs" "[I") (List.mem_of_getElem? (i := 3) rfl)
  have k_fieldLink_RX8_21__KeyLetters_Sentence___numbers____I_ := hts (.fieldLink RX8 21 "KeyLetters$Sentence" "numbers" "[I") (List.mem_of_getElem? (i := 4) rfl)
  have k_fieldLink_RX8_27__KeyLetters_Sentence___size___I_ := hts (.fieldLink RX8 27 "KeyLetters$Sentence" "size" "I") (List.mem_of_getElem? (i := 1) rfl)
  have knk_RX8_13__KeyLetters_Sentence___words____LKeyLetters_Word__ := hts (.fieldLink RX8 13 "KeyLetters$Sentence" "words" "[LKeyLetters$Word;") (List.mem_of_getElem? (i := 2) rfl)
  have hl := lv_entry ([.ref (raN 0), .ref (ad a0.toNatClampNeg), .int a1, .int a2]) (n := 4) (Nat.le_of_ble_eq_true rfl)
  rw [show entryFrame m args 4 = entryFrame m ([.ref (raN 0), .ref (ad a0.toNatClampNeg), .int a1, .int a2] : List Value).toArray 4 from by rw [hav], lg_entry_eq]
  generalize (lg_sl ([.ref (raN 0), .ref (ad a0.toNatClampNeg), .int a1, .int a2]) ++ List.replicate (4 - (lg_sl ([.ref (raN 0), .ref (ad a0.toNatClampNeg), .int a1, .int a2])).length) Slot.unset).toArray = ls at hl ⊢
  have hl : lv_has ls 4 [(0, .ref (raN 0)), (1, .ref (ad a0.toNatClampNeg)), (2, .int a1), (3, .int a2)] := hl
  unfold f_X8_keepWord at hf
  refine lv_aload_n hx hb dX8_keepWord_0 rfl (lv_at hl 0 rfl) ?_
  refine va_get (D := (dC, dI)) (ci := 9) (C := RX8) (T := TX8) (N := 6) hx hb hts hinX8 hown hK hP 0 rfl rfl 1 (by decide) (v := .int (N.1 0 1)) k_fieldLink_RX8_27__KeyLetters_Sentence___size___I_ (fun _ h9 => h9) rfl dX8_keepWord_1 ?_
  refine lv_aload_n hx hb dX8_keepWord_4 rfl (lv_at hl 0 rfl) ?_
  refine va_get (D := (dC, dI)) (ci := 9) (C := RX8) (T := TX8) (N := 6) hx hb hts hinX8 hown hK hP 0 rfl rfl 2 (by decide) (v := .ref (raN 2)) knk_RX8_13__KeyLetters_Sentence___words____LKeyLetters_Word__ (fun _ h9 => h9) rfl dX8_keepWord_5 ?_
  refine va_alen hx hb hK hP 1 4 rfl rfl (v := (40 : Int32)) rfl dX8_keepWord_8 ?_
  refine lv_icmp_ge (tgt := 52) hx hb dX8_keepWord_9 (by decide) (fun hb9 => ?_) (fun hb9 => ?_)
  · have hf := (if_pos hb9).symm.trans hf
    refine lv_iconst (v := 1) hx hb dX8_keepWord_52 (by decide) ?_
    have hf := Option.some.inj hf
    subst hf
    exact c_zret (v := (1 : Int32)) hx hb hr rfl hlocks hP hK hD hS dX8_keepWord_53
  · have hf := (if_neg hb9).symm.trans hf
    refine lv_aload_n hx hb dX8_keepWord_12 rfl (lv_at hl 0 rfl) ?_
    refine va_get (D := (dC, dI)) (ci := 9) (C := RX8) (T := TX8) (N := 6) hx hb hts hinX8 hown hK hP 0 rfl rfl 2 (by decide) (v := .ref (raN 2)) knk_RX8_13__KeyLetters_Sentence___words____LKeyLetters_Word__ (fun _ h9 => h9) rfl dX8_keepWord_13 ?_
    refine lv_aload_n hx hb dX8_keepWord_16 rfl (lv_at hl 0 rfl) ?_
    refine va_get (D := (dC, dI)) (ci := 9) (C := RX8) (T := TX8) (N := 6) hx hb hts hinX8 hown hK hP 0 rfl rfl 1 (by decide) (v := .int (N.1 0 1)) k_fieldLink_RX8_27__KeyLetters_Sentence___size___I_ (fun _ h9 => h9) rfl dX8_keepWord_17 ?_
    refine lv_aload_n hx hb dX8_keepWord_20 rfl (lv_at hl 1 rfl) ?_
    obtain ⟨hc1, hf⟩ := ck_e hf
    obtain ⟨Nv2, eNv2, hf⟩ := bd1_e hf
    obtain ⟨hc3, hf⟩ := ck_e hf
    refine kt_v (show Value.ref (ad a0.toNatClampNeg) = va_rf (kW ad a0) from (kW_in ad hc3).symm) ?_
    refine g_astw (v := a0) (f := fun j => kW ad (N.1 2 j)) hE hx hb hK hP hD hS 1 4 rfl rfl hc1 dX8_keepWord_21 (ws' := (ww_X8_keepWord cs ad raN Nv2)) (by rw [eNv2, g_wst]; rfl) (fun H locs hP hD hS => ?_)
    refine lv_aload_n hx hb dX8_keepWord_22 rfl (lv_at hl 0 rfl) ?_
    refine va_get (D := (dC, dI)) (ci := 9) (C := RX8) (T := TX8) (N := 6) hx hb hts hinX8 hown hK hP 0 rfl rfl 3 (by decide) (v := .ref (raN 3)) k_fieldLink_RX8_17__KeyLetters_Sentence___signs____I_ (fun _ h9 => h9) rfl dX8_keepWord_23 ?_
    refine lv_aload_n hx hb dX8_keepWord_26 rfl (lv_at hl 0 rfl) ?_
    refine va_get (D := (dC, dI)) (ci := 9) (C := RX8) (T := TX8) (N := 6) hx hb hts hinX8 hown hK hP 0 rfl rfl 1 (by decide) (v := .int (Nv2.1 0 1)) k_fieldLink_RX8_27__KeyLetters_Sentence___size___I_ (fun _ h9 => h9) rfl dX8_keepWord_27 ?_
    refine lv_iload_n hx hb dX8_keepWord_30 rfl (lv_at hl 2 rfl) ?_
    obtain ⟨hc4, hf⟩ := ck_e hf
    obtain ⟨Nv5, eNv5, hf⟩ := bd1_e hf
    refine va_iast hx hb hK hP hD hS 2 1 rfl rfl hc4 dX8_keepWord_31 (fun H locs hP hD hS => ?_)
    have hP : va_P (dC, dI) vwCl (ww_X8_keepWord cs ad raN Nv5) H := g_toP (by rw [eNv5]; rfl) hP
    have hD : va_D (va_A (ww_X8_keepWord cs ad raN zD) s.heap.size) (ww_X8_keepWord cs ad raN Nv5) := g_toD (by rw [eNv5]; rfl) hD
    refine lv_aload_n hx hb dX8_keepWord_32 rfl (lv_at hl 0 rfl) ?_
    refine va_get (D := (dC, dI)) (ci := 9) (C := RX8) (T := TX8) (N := 6) hx hb hts hinX8 hown hK hP 0 rfl rfl 4 (by decide) (v := .ref (raN 4)) k_fieldLink_RX8_21__KeyLetters_Sentence___numbers____I_ (fun _ h9 => h9) rfl dX8_keepWord_33 ?_
    refine lv_aload_n hx hb dX8_keepWord_36 rfl (lv_at hl 0 rfl) ?_
    refine va_get (D := (dC, dI)) (ci := 9) (C := RX8) (T := TX8) (N := 6) hx hb hts hinX8 hown hK hP 0 rfl rfl 1 (by decide) (v := .int (Nv5.1 0 1)) k_fieldLink_RX8_27__KeyLetters_Sentence___size___I_ (fun _ h9 => h9) rfl dX8_keepWord_37 ?_
    refine lv_iload_n hx hb dX8_keepWord_40 rfl (lv_at hl 3 rfl) ?_
    obtain ⟨hc6, hf⟩ := ck_e hf
    obtain ⟨Nv7, eNv7, hf⟩ := bd1_e hf
    refine va_iast hx hb hK hP hD hS 3 1 rfl rfl hc6 dX8_keepWord_41 (fun H locs hP hD hS => ?_)
    have hP : va_P (dC, dI) vwCl (ww_X8_keepWord cs ad raN Nv7) H := g_toP (by rw [eNv7]; rfl) hP
    have hD : va_D (va_A (ww_X8_keepWord cs ad raN zD) s.heap.size) (ww_X8_keepWord cs ad raN Nv7) := g_toD (by rw [eNv7]; rfl) hD
    refine lv_aload_n hx hb dX8_keepWord_42 rfl (lv_at hl 0 rfl) ?_
    refine lv_dup hx hb dX8_keepWord_43 rfl ?_
    refine va_get (D := (dC, dI)) (ci := 9) (C := RX8) (T := TX8) (N := 6) hx hb hts hinX8 hown hK hP 0 rfl rfl 1 (by decide) (v := .int (Nv7.1 0 1)) k_fieldLink_RX8_27__KeyLetters_Sentence___size___I_ (fun _ h9 => h9) rfl dX8_keepWord_44 ?_
    refine lv_iconst (v := 1) hx hb dX8_keepWord_47 (by decide) ?_
    refine lv_iadd hx hb dX8_keepWord_48 ?_
    obtain ⟨Nv8, eNv8, hf⟩ := bd1_e hf
    refine g_put (D := (dC, dI)) (ci := 9) (C := RX8) (T := TX8) (N := 6) hx hb hts hinX8 tyX8 tyX8_ok nmX8 hown hK hP hD hS 0 rfl rfl 1 (by decide) k_fieldLink_RX8_27__KeyLetters_Sentence___size___I_ (fun _ h9 => h9) rfl (ty := .int) (v := .int ((Nv7.1 0 1) + (1 : Int32))) (by decide +kernel) rfl rfl (Nat.le_of_ble_eq_true rfl) (ws' := (ww_X8_keepWord cs ad raN Nv8)) (by rw [eNv8]; rfl) dX8_keepWord_49 (fun H locs hP hD hS => ?_)
    refine lv_iconst (v := 1) hx hb dX8_keepWord_52 (by decide) ?_
    have hf := Option.some.inj hf
    subst hf
    exact c_zret (v := (1 : Int32)) hx hb hr rfl hlocks hP hK hD hS dX8_keepWord_53

def ww_X9_phrasesAble (cs : Nat → ClassId) (ad : Nat → Nat) (raS : Nat → Nat) (raO : Nat → Nat) (S : kD) (O : kD) : va_W := (wX9 cs ad raS S ++ (wX3 cs ad raO O))
abbrev rm_X9_phrasesAble : Room := { frames := 3, cells := 0, slots := 0, locals := 66 }
set_option maxHeartbeats 4000000 in
set_option maxRecDepth 100000 in
theorem c_X9_phrasesAble (l : Launch) (dC : Nat → ClassId) (dI : Nat → Nat → Nat) (cs : Nat → ClassId) (ad : Nat → Nat) (raS : Nat → Nat) (raO : Nat → Nat) (S : kD) (O : kD) (a1 : Int32) (r : Int32) (hf : f_X9_phrasesAble a1 S O = some r) : Met l yX9_phrasesAble wsX9_phrasesAble rm_X9_phrasesAble (va_Pc [.ref (raS 0), .ref (raO 0), .int a1] (cPr dC dI cs (ww_X9_phrasesAble cs ad raS raO S O))) (kQ (some (.int r))) 0 0 (kF) := by
  refine Met.ofW (cc := cX9_phrasesAble) (maxL := 5) (ret := (some .int)) (by decide) rfl ?_
  intro p e s m args below meth c s₁ B hml hv
  obtain ⟨hav, hP, hK, hN⟩ := hv
  have hx := B.exec
  have hb := B.bytes
  have hr := B.returns
  have hts := atoms_spec (ws := wsX9_phrasesAble) B.pre
  have hown : s.vm.findClass RX9 = some m.cls := findClass_of_methodNamed B.named
  have hlocks := B.notSynchronized
  have hinX3 := (show ∀ w ∈ wsX30, w ∈ wsX9_phrasesAble from fun w h => List.mem_cons_of_mem _ (List.mem_append_left _ (List.mem_append_right _ h)))
  have hl := lv_entry ([.ref (raS 0), .ref (raO 0), .int a1]) (n := 5) (Nat.le_of_ble_eq_true rfl)
  rw [show entryFrame m args 5 = entryFrame m ([.ref (raS 0), .ref (raO 0), .int a1] : List Value).toArray 5 from by rw [hav], lg_entry_eq]
  generalize (lg_sl ([.ref (raS 0), .ref (raO 0), .int a1]) ++ List.replicate (5 - (lg_sl ([.ref (raS 0), .ref (raO 0), .int a1])).length) Slot.unset).toArray = ls at hl ⊢
  have hl : lv_has ls 5 [(0, .ref (raS 0)), (1, .ref (raO 0)), (2, .int a1)] := hl
  unfold f_X9_phrasesAble at hf
  have h_5 := lp_ind (z := (fun _ _ _ => none)) (b := (g_X9_phrasesAble_5 S O)) (fun (rc_5 : Int32 → Int32 → Int32 → Option Int32) => ∀ (x2_5 : Int32) (x3_5 : Int32) (x4_5 : Int32) (ls : Array Slot), lv_has ls 5 [(0, .ref (raS 0)), (1, .ref (raO 0)), (2, .int x2_5), (3, .int x3_5), (4, .int x4_5)] → rc_5 x2_5 x3_5 x4_5 = some r → W p l e (headSpec wsX9_phrasesAble rm_X9_phrasesAble).room s m args below meth c s.heap [] 0 0 (MQ below (kQ (some (.int r))) args s 0 0 (kF)) (F0 m 5 ls [])) (by
      intro x2_5 x3_5 x4_5 ls hl hf
      cases hf) (by
      intro rc_5 ih_5 x2_5 x3_5 x4_5 ls hl hf
      unfold g_X9_phrasesAble_5 at hf
      have h_32 : ∀ (x2_32 : Int32) (x3_32 : Int32) (x4_32 : Int32) (ls : Array Slot), lv_has ls 5 [(0, .ref (raS 0)), (1, .ref (raO 0)), (2, .int x2_32), (3, .int x3_32), (4, .int x4_32)] → g_X9_phrasesAble_32 rc_5 S O x2_32 x3_32 x4_32 = some r → W p l e (headSpec wsX9_phrasesAble rm_X9_phrasesAble).room s m args below meth c s.heap [] 0 0 (MQ below (kQ (some (.int r))) args s 0 0 (kF)) (F0 m 32 ls []) := by
        intro x2_32 x3_32 x4_32 ls hl hf
        unfold g_X9_phrasesAble_32 at hf
        obtain ⟨v1, ev1, hf⟩ := bd1_e hf
        refine lv_iinc (k := 4) (x := x4_32) (v := v1) (nL := 5) (lv' := [(4, .int v1), (0, .ref (raS 0)), (1, .ref (raO 0)), (2, .int x2_32), (3, .int x3_32)]) hx hb dX9_phrasesAble_32 hl rfl (kt_inc (w := 1) (by decide) ev1) (by decide) rfl (fun ls hl => ?_)
        refine lv_goto (tgt := 5) hx hb dX9_phrasesAble_35 (by decide) ?_
        exact ih_5 x2_32 x3_32 v1 ls (lv_sub hl [1, 2, 3, 4, 0] rfl) hf
      refine lv_iload hx hb dX9_phrasesAble_5 (lv_at hl 4 rfl) ?_
      refine lv_aload_n hx hb dX9_phrasesAble_7 rfl (lv_at hl 1 rfl) ?_
      refine va_getN (D := (dC, dI)) (ci := 4) (C := RX3) (T := TX3) (N := 11) hx hb hts hinX3 hown hK hP 5 rfl rfl 2 (by decide) (v := .int (O.1 0 2)) (va_Nw.use rfl (hN _ (List.mem_of_getElem? (i := 17) rfl))) (fun _ h9 => h9) rfl dX9_phrasesAble_8 ?_
      refine lv_icmp_ge (tgt := 38) hx hb dX9_phrasesAble_11 (by decide) (fun hb6 => ?_) (fun hb6 => ?_)
      · have hf := (if_pos hb6).symm.trans hf
        refine lv_iload_n hx hb dX9_phrasesAble_38 rfl (lv_at hl 3 rfl) ?_
        have hf := Option.some.inj hf
        subst hf
        exact W.iret (v := x3_5) hx hb hr (fun t ht hW => ⟨rfl, ht⟩) (fun _ h => nomatch h) dX9_phrasesAble_39
      · have hf := (if_neg hb6).symm.trans hf
        refine lv_aload_n hx hb dX9_phrasesAble_14 rfl (lv_at hl 0 rfl) ?_
        refine lv_aload_n hx hb dX9_phrasesAble_15 rfl (lv_at hl 1 rfl) ?_
        refine lv_iload_n hx hb dX9_phrasesAble_16 rfl (lv_at hl 2 rfl) ?_
        refine lv_iload hx hb dX9_phrasesAble_17 (lv_at hl 4 rfl) ?_
        obtain ⟨v3, hq2, hf⟩ := bo_e hf
        refine ko_call (v := some (.int v3)) (va_runV (As := [.ref (raO 0), .int x2_5, .int x4_5]) (rest := []) ⟨hx, hb, hml, hown, hts⟩ (c_X9_whyNotWrite l dC dI cs ad raS raO S O x2_5 x4_5 v3 hq2) (cwV 3 hts gX9_phrasesAble_X9_whyNotWrite rfl rfl rfl (by decide +kernel) ⟨Nat.le_of_ble_eq_true rfl, Nat.le_of_ble_eq_true rfl⟩) ⟨fun a U g mk q => ⟨q.1, (fun _ _ _ _ => cPr_bl) a U g mk q.2⟩, va_recv hK hP (ci := 10) (q0 := 0) rfl rfl, fun U hU hW => ⟨rfl, ⟨by rw [hU]; exact (hP.sub (ws' := (ww_X9_whyNotWrite cs ad raS raO S O)) [0, 1, 2, 3, 4, 5, 6, 7, 8, 9, 10, 11, 12] rfl), va_K.moved hW.alike hK, kN_warm hW hN⟩⟩⟩ rfl rfl hl.1 rfl (lv_room (Nat.le_of_ble_eq_true rfl)) dX9_phrasesAble_19 ⟨Nat.le_refl _, Nat.le_refl _⟩) ?_
        refine lv_if_ne (tgt := 32) hx hb dX9_phrasesAble_22 (by decide) (fun hb5 => ?_) (fun hb5 => ?_)
        · have hf := (if_neg hb5).symm.trans hf
          exact h_32 x2_5 x3_5 x4_5 ls hl hf
        · have hf := (if_pos hb5).symm.trans hf
          refine lv_iload_n hx hb dX9_phrasesAble_25 rfl (lv_at hl 3 rfl) ?_
          refine lv_iconst (v := 1) hx hb dX9_phrasesAble_26 (by decide) ?_
          refine lv_iload hx hb dX9_phrasesAble_27 (lv_at hl 4 rfl) ?_
          refine lv_ishl hx hb dX9_phrasesAble_29 ?_
          refine lv_ior hx hb dX9_phrasesAble_30 ?_
          obtain ⟨v4, ev4, hf⟩ := bd1_e hf
          refine kt_i ev4 ?_
          refine lv_istore_n (nL := 5) (lv' := [(3, .int v4), (0, .ref (raS 0)), (1, .ref (raO 0)), (2, .int x2_5), (4, .int x4_5)]) hx hb dX9_phrasesAble_31 rfl hl (by decide) rfl (fun ls hl => ?_)
          exact h_32 x2_5 v4 x4_5 ls (lv_sub hl [1, 2, 3, 0, 4] rfl) hf) 2000
  refine lv_iconst (v := 0) hx hb dX9_phrasesAble_0 (by decide) ?_
  refine lv_istore_n (nL := 5) (lv' := [(3, .int (0 : Int32)), (0, .ref (raS 0)), (1, .ref (raO 0)), (2, .int a1)]) hx hb dX9_phrasesAble_1 rfl hl (by decide) rfl (fun ls hl => ?_)
  refine lv_iconst (v := 0) hx hb dX9_phrasesAble_2 (by decide) ?_
  refine lv_istore (nL := 5) (lv' := [(4, .int (0 : Int32)), (3, .int (0 : Int32)), (0, .ref (raS 0)), (1, .ref (raO 0)), (2, .int a1)]) hx hb dX9_phrasesAble_3 hl (by decide) rfl (fun ls hl => ?_)
  exact h_5 a1 (0 : Int32) (0 : Int32) ls (lv_sub hl [2, 3, 4, 1, 0] rfl) hf

def ww_X8_isSo (cs : Nat → ClassId) (ad : Nat → Nat) (raN : Nat → Nat) (raO : Nat → Nat) (raS : Nat → Nat) (N : kD) (O : kD) (S : kD) : va_W := (wX8 cs ad raN N ++ (wX3 cs ad raO O ++ (wX9 cs ad raS S)))
abbrev rm_X8_isSo : Room := { frames := 4, cells := 0, slots := 0, locals := 90 }
set_option maxHeartbeats 4000000 in
set_option maxRecDepth 100000 in
theorem c_X8_isSo (l : Launch) (dC : Nat → ClassId) (dI : Nat → Nat → Nat) (cs : Nat → ClassId) (ad : Nat → Nat) (raN : Nat → Nat) (raO : Nat → Nat) (raS : Nat → Nat) (N : kD) (O : kD) (S : kD) (a0 : Int32) (a1 : Int32) (r : Int32) (hf : f_X8_isSo a0 a1 N O S = some r) : Met l yX8_isSo wsX8_isSo rm_X8_isSo (va_Pc [.ref (raN 0), .int a0, .int a1, .ref (raO 0), .ref (raS 0)] (cPe ad (kF) (cPr dC dI cs (ww_X8_isSo cs ad raN raO raS N O S)))) (kQ (some (.int r))) 0 0 (kF) := by
  refine Met.ofW (cc := cX8_isSo) (maxL := 7) (ret := (some .boolean)) (by decide) rfl ?_
  intro p e s m args below meth c s₁ B hml hv
  obtain ⟨hav, hE, hP, hK, hN⟩ := hv
  have hx := B.exec
  have hb := B.bytes
  have hr := B.returns
  have hts := atoms_spec (ws := wsX8_isSo) B.pre
  have hown : s.vm.findClass RX8 = some m.cls := findClass_of_methodNamed B.named
  have hlocks := B.notSynchronized
  have hinX8 := (show ∀ w ∈ wsX80, w ∈ wsX8_isSo from fun w h => List.mem_cons_of_mem _ (List.mem_append_left _ (List.mem_append_left _ (List.mem_append_right _ h))))
  have hinX9 := (show ∀ w ∈ wsX90, w ∈ wsX8_isSo from fun w h => List.mem_cons_of_mem _ (List.mem_append_left _ (List.mem_append_right _ h)))
  have k_fieldLink_RX8_17__KeyLetters_Sentence___signs____I_ := hts (.fieldLink RX8 17 "KeyLetters$Sentence" "signs" "[I") (List.mem_of_getElem? (i := 10) rfl)
  have k_fieldLink_RX8_21__KeyLetters_Sentence___numbers____I_ := hts (.fieldLink RX8 21 "KeyLetters$Sentence" "numbers" "[I") (List.mem_of_getElem? (i := 6) rfl)
  have k_initialized_RX3 := hts (.initialized RX3) (List.mem_of_getElem? (i := 12) rfl)
  have k_initialized_RX9 := hts (.initialized RX9) (List.mem_of_getElem? (i := 17) rfl)
  have k_instanceMethod_yX3_hasMachine := hts (.instanceMethod yX3_hasMachine) (List.mem_of_getElem? (i := 11) rfl)
  have k_instanceMethod_yX9_debtOf := hts (.instanceMethod yX9_debtOf) (List.mem_of_getElem? (i := 49) rfl)
  have k_instanceMethod_yX9_isHeld := hts (.instanceMethod yX9_isHeld) (List.mem_of_getElem? (i := 16) rfl)
  have k_instanceMethod_yX9_phrasesAble := hts (.instanceMethod yX9_phrasesAble) (List.mem_of_getElem? (i := 24) rfl)
  have k_instanceMethod_yX9_whyNotWrite := hts (.instanceMethod yX9_whyNotWrite) (List.mem_of_getElem? (i := 28) rfl)
  have k_selects_RX3_yX3_hasMachine_yX3_hasMachine := hts (.selects RX3 yX3_hasMachine yX3_hasMachine) (List.mem_of_getElem? (i := 13) rfl)
  have k_selects_RX9_yX9_debtOf_yX9_debtOf := hts (.selects RX9 yX9_debtOf yX9_debtOf) (List.mem_of_getElem? (i := 50) rfl)
  have k_selects_RX9_yX9_isHeld_yX9_isHeld := hts (.selects RX9 yX9_isHeld yX9_isHeld) (List.mem_of_getElem? (i := 18) rfl)
  have k_selects_RX9_yX9_phrasesAble_yX9_phrasesAble := hts (.selects RX9 yX9_phrasesAble yX9_phrasesAble) (List.mem_of_getElem? (i := 25) rfl)
  have k_selects_RX9_yX9_whyNotWrite_yX9_whyNotWrite := hts (.selects RX9 yX9_whyNotWrite yX9_whyNotWrite) (List.mem_of_getElem? (i := 29) rfl)
  have kdLink_RX8_159__KeyLetters_Word___LATEST___LKeyLetters_Word__ := hts (.fieldLink RX8 159 "KeyLetters$Word" "LATEST" "LKeyLetters$Word;") (List.mem_of_getElem? (i := 3) rfl)
  have keldLink_RX8_107__KeyLetters_Word___OWES___LKeyLetters_Word__ := hts (.fieldLink RX8 107 "KeyLetters$Word" "OWES" "LKeyLetters$Word;") (List.mem_of_getElem? (i := 7) rfl)
  have keldLink_RX8_151__KeyLetters_Word___HELD___LKeyLetters_Word__ := hts (.fieldLink RX8 151 "KeyLetters$Word" "HELD" "LKeyLetters$Word;") (List.mem_of_getElem? (i := 2) rfl)
  have keldLink_RX8_165__KeyLetters_Word___MUTE___LKeyLetters_Word__ := hts (.fieldLink RX8 165 "KeyLetters$Word" "MUTE" "LKeyLetters$Word;") (List.mem_of_getElem? (i := 4) rfl)
  have kieldLink_RX8_116__KeyLetters_Word___INK___LKeyLetters_Word__ := hts (.fieldLink RX8 116 "KeyLetters$Word" "INK" "LKeyLetters$Word;") (List.mem_of_getElem? (i := 8) rfl)
  have kieldLink_RX8_91__KeyLetters_Word___ABLE___LKeyLetters_Word__ := hts (.fieldLink RX8 91 "KeyLetters$Word" "ABLE" "LKeyLetters$Word;") (List.mem_of_getElem? (i := 5) rfl)
  have kldLink_RX8_119__KeyLetters_Word___WROTE___LKeyLetters_Word__ := hts (.fieldLink RX8 119 "KeyLetters$Word" "WROTE" "LKeyLetters$Word;") (List.mem_of_getElem? (i := 9) rfl)
  have knk_RX8_13__KeyLetters_Sentence___words____LKeyLetters_Word__ := hts (.fieldLink RX8 13 "KeyLetters$Sentence" "words" "[LKeyLetters$Word;") (List.mem_of_getElem? (i := 1) rfl)
  have hl := lv_entry ([.ref (raN 0), .int a0, .int a1, .ref (raO 0), .ref (raS 0)]) (n := 7) (Nat.le_of_ble_eq_true rfl)
  rw [show entryFrame m args 7 = entryFrame m ([.ref (raN 0), .int a0, .int a1, .ref (raO 0), .ref (raS 0)] : List Value).toArray 7 from by rw [hav], lg_entry_eq]
  generalize (lg_sl ([.ref (raN 0), .int a0, .int a1, .ref (raO 0), .ref (raS 0)]) ++ List.replicate (7 - (lg_sl ([.ref (raN 0), .int a0, .int a1, .ref (raO 0), .ref (raS 0)])).length) Slot.unset).toArray = ls at hl ⊢
  have hl : lv_has ls 7 [(0, .ref (raN 0)), (1, .int a0), (2, .int a1), (3, .ref (raO 0)), (4, .ref (raS 0))] := hl
  unfold f_X8_isSo at hf
  have h_189 : ∀ (x1_189 : Int32) (t0_189 : Int32) (ls : Array Slot), lv_has ls 7 [(0, .ref (raN 0)), (1, .int x1_189)] → g_X8_isSo_189 N O S x1_189 t0_189 = some r → W p l e (headSpec wsX8_isSo rm_X8_isSo).room s m args below meth c s.heap [] 0 0 (MQ below (kQ (some (.int r))) args s 0 0 (kF)) (F0 m 189 ls [.int t0_189]) := by
    intro x1_189 t0_189 ls hl hf
    unfold g_X8_isSo_189 at hf
    refine lv_istore (nL := 7) (lv' := [(6, .int t0_189), (0, .ref (raN 0)), (1, .int x1_189)]) hx hb dX8_isSo_189 hl (by decide) rfl (fun ls hl => ?_)
    refine lv_aload_n hx hb dX8_isSo_191 rfl (lv_at hl 1 rfl) ?_
    refine va_get (D := (dC, dI)) (ci := 9) (C := RX8) (T := TX8) (N := 6) hx hb hts hinX8 hown hK hP 0 rfl rfl 3 (by decide) (v := .ref (raN 3)) k_fieldLink_RX8_17__KeyLetters_Sentence___signs____I_ (fun _ h9 => h9) rfl dX8_isSo_192 ?_
    refine lv_iload_n hx hb dX8_isSo_195 rfl (lv_at hl 2 rfl) ?_
    obtain ⟨hc1, hf⟩ := ck_e hf
    refine va_iald hx hb hK hP 2 1 rfl rfl hc1 dX8_isSo_196 ?_
    refine lv_bipush (v := 60) hx hb dX8_isSo_197 (by decide) ?_
    refine lv_icmp_ne (tgt := 221) hx hb dX8_isSo_199 (by decide) (fun hb10 => ?_) (fun hb10 => ?_)
    · have hf := (if_neg hb10).symm.trans hf
      refine lv_aload_n hx hb dX8_isSo_221 rfl (lv_at hl 1 rfl) ?_
      refine va_get (D := (dC, dI)) (ci := 9) (C := RX8) (T := TX8) (N := 6) hx hb hts hinX8 hown hK hP 0 rfl rfl 3 (by decide) (v := .ref (raN 3)) k_fieldLink_RX8_17__KeyLetters_Sentence___signs____I_ (fun _ h9 => h9) rfl dX8_isSo_222 ?_
      refine lv_iload_n hx hb dX8_isSo_225 rfl (lv_at hl 2 rfl) ?_
      obtain ⟨hc2, hf⟩ := ck_e hf
      refine va_iald hx hb hK hP 2 1 rfl rfl hc2 dX8_isSo_226 ?_
      refine lv_bipush (v := 62) hx hb dX8_isSo_227 (by decide) ?_
      refine lv_icmp_ne (tgt := 251) hx hb dX8_isSo_229 (by decide) (fun hb7 => ?_) (fun hb7 => ?_)
      · have hf := (if_neg hb7).symm.trans hf
        refine lv_iload hx hb dX8_isSo_251 (lv_at hl 0 rfl) ?_
        refine lv_aload_n hx hb dX8_isSo_253 rfl (lv_at hl 1 rfl) ?_
        refine va_get (D := (dC, dI)) (ci := 9) (C := RX8) (T := TX8) (N := 6) hx hb hts hinX8 hown hK hP 0 rfl rfl 4 (by decide) (v := .ref (raN 4)) k_fieldLink_RX8_21__KeyLetters_Sentence___numbers____I_ (fun _ h9 => h9) rfl dX8_isSo_254 ?_
        refine lv_iload_n hx hb dX8_isSo_257 rfl (lv_at hl 2 rfl) ?_
        obtain ⟨hc3, hf⟩ := ck_e hf
        refine va_iald hx hb hK hP 3 1 rfl rfl hc3 dX8_isSo_258 ?_
        refine lv_icmp_ne (tgt := 266) hx hb dX8_isSo_259 (by decide) (fun hb4 => ?_) (fun hb4 => ?_)
        · have hf := (if_neg hb4).symm.trans hf
          refine lv_iconst (v := 0) hx hb dX8_isSo_266 (by decide) ?_
          have hf := Option.some.inj hf
          subst hf
          exact W.zret (v := (0 : Int32)) (ty := .boolean) hx hb hr rfl (fun t ht hW => ⟨rfl, ht⟩) (fun _ h => nomatch h) dX8_isSo_267
        · have hf := (if_pos hb4).symm.trans hf
          refine lv_iconst (v := 1) hx hb dX8_isSo_262 (by decide) ?_
          refine lv_goto (tgt := 267) hx hb dX8_isSo_263 (by decide) ?_
          have hf := Option.some.inj hf
          subst hf
          exact W.zret (v := (1 : Int32)) (ty := .boolean) hx hb hr rfl (fun t ht hW => ⟨rfl, ht⟩) (fun _ h => nomatch h) dX8_isSo_267
      · have hf := (if_pos hb7).symm.trans hf
        refine lv_iload hx hb dX8_isSo_232 (lv_at hl 0 rfl) ?_
        refine lv_aload_n hx hb dX8_isSo_234 rfl (lv_at hl 1 rfl) ?_
        refine va_get (D := (dC, dI)) (ci := 9) (C := RX8) (T := TX8) (N := 6) hx hb hts hinX8 hown hK hP 0 rfl rfl 4 (by decide) (v := .ref (raN 4)) k_fieldLink_RX8_21__KeyLetters_Sentence___numbers____I_ (fun _ h9 => h9) rfl dX8_isSo_235 ?_
        refine lv_iload_n hx hb dX8_isSo_238 rfl (lv_at hl 2 rfl) ?_
        obtain ⟨hc5, hf⟩ := ck_e hf
        refine va_iald hx hb hK hP 3 1 rfl rfl hc5 dX8_isSo_239 ?_
        refine lv_icmp_le (tgt := 247) hx hb dX8_isSo_240 (by decide) (fun hb6 => ?_) (fun hb6 => ?_)
        · have hf := (if_pos hb6).symm.trans hf
          refine lv_iconst (v := 0) hx hb dX8_isSo_247 (by decide) ?_
          refine lv_goto (tgt := 267) hx hb dX8_isSo_248 (by decide) ?_
          have hf := Option.some.inj hf
          subst hf
          exact W.zret (v := (0 : Int32)) (ty := .boolean) hx hb hr rfl (fun t ht hW => ⟨rfl, ht⟩) (fun _ h => nomatch h) dX8_isSo_267
        · have hf := (if_neg hb6).symm.trans hf
          refine lv_iconst (v := 1) hx hb dX8_isSo_243 (by decide) ?_
          refine lv_goto (tgt := 267) hx hb dX8_isSo_244 (by decide) ?_
          have hf := Option.some.inj hf
          subst hf
          exact W.zret (v := (1 : Int32)) (ty := .boolean) hx hb hr rfl (fun t ht hW => ⟨rfl, ht⟩) (fun _ h => nomatch h) dX8_isSo_267
    · have hf := (if_pos hb10).symm.trans hf
      refine lv_iload hx hb dX8_isSo_202 (lv_at hl 0 rfl) ?_
      refine lv_aload_n hx hb dX8_isSo_204 rfl (lv_at hl 1 rfl) ?_
      refine va_get (D := (dC, dI)) (ci := 9) (C := RX8) (T := TX8) (N := 6) hx hb hts hinX8 hown hK hP 0 rfl rfl 4 (by decide) (v := .ref (raN 4)) k_fieldLink_RX8_21__KeyLetters_Sentence___numbers____I_ (fun _ h9 => h9) rfl dX8_isSo_205 ?_
      refine lv_iload_n hx hb dX8_isSo_208 rfl (lv_at hl 2 rfl) ?_
      obtain ⟨hc8, hf⟩ := ck_e hf
      refine va_iald hx hb hK hP 3 1 rfl rfl hc8 dX8_isSo_209 ?_
      refine lv_icmp_ge (tgt := 217) hx hb dX8_isSo_210 (by decide) (fun hb9 => ?_) (fun hb9 => ?_)
      · have hf := (if_pos hb9).symm.trans hf
        refine lv_iconst (v := 0) hx hb dX8_isSo_217 (by decide) ?_
        refine lv_goto (tgt := 267) hx hb dX8_isSo_218 (by decide) ?_
        have hf := Option.some.inj hf
        subst hf
        exact W.zret (v := (0 : Int32)) (ty := .boolean) hx hb hr rfl (fun t ht hW => ⟨rfl, ht⟩) (fun _ h => nomatch h) dX8_isSo_267
      · have hf := (if_neg hb9).symm.trans hf
        refine lv_iconst (v := 1) hx hb dX8_isSo_213 (by decide) ?_
        refine lv_goto (tgt := 267) hx hb dX8_isSo_214 (by decide) ?_
        have hf := Option.some.inj hf
        subst hf
        exact W.zret (v := (1 : Int32)) (ty := .boolean) hx hb hr rfl (fun t ht hW => ⟨rfl, ht⟩) (fun _ h => nomatch h) dX8_isSo_267
  refine lv_iload_n hx hb dX8_isSo_0 rfl (lv_at hl 1 rfl) ?_
  refine lv_if_lt (tgt := 21) hx hb dX8_isSo_1 (by decide) (fun hb36 => ?_) (fun hb36 => ?_)
  · have hf := (if_pos hb36).symm.trans hf
    refine lv_iconst (v := 0) hx hb dX8_isSo_21 (by decide) ?_
    have hf := Option.some.inj hf
    subst hf
    exact W.zret (v := (0 : Int32)) (ty := .boolean) hx hb hr rfl (fun t ht hW => ⟨rfl, ht⟩) (fun _ h => nomatch h) dX8_isSo_22
  · have hf := (if_neg hb36).symm.trans hf
    refine lv_iload_n hx hb dX8_isSo_4 rfl (lv_at hl 1 rfl) ?_
    refine lv_aload_n hx hb dX8_isSo_5 rfl (lv_at hl 0 rfl) ?_
    refine va_get (D := (dC, dI)) (ci := 9) (C := RX8) (T := TX8) (N := 6) hx hb hts hinX8 hown hK hP 0 rfl rfl 2 (by decide) (v := .ref (raN 2)) knk_RX8_13__KeyLetters_Sentence___words____LKeyLetters_Word__ (fun _ h9 => h9) rfl dX8_isSo_6 ?_
    refine va_alen hx hb hK hP 1 4 rfl rfl (v := (40 : Int32)) rfl dX8_isSo_9 ?_
    refine lv_icmp_ge (tgt := 21) hx hb dX8_isSo_10 (by decide) (fun hb35 => ?_) (fun hb35 => ?_)
    · have hf := (if_pos hb35).symm.trans hf
      refine lv_iconst (v := 0) hx hb dX8_isSo_21 (by decide) ?_
      have hf := Option.some.inj hf
      subst hf
      exact W.zret (v := (0 : Int32)) (ty := .boolean) hx hb hr rfl (fun t ht hW => ⟨rfl, ht⟩) (fun _ h => nomatch h) dX8_isSo_22
    · have hf := (if_neg hb35).symm.trans hf
      refine lv_aload_n hx hb dX8_isSo_13 rfl (lv_at hl 3 rfl) ?_
      refine lv_iload_n hx hb dX8_isSo_14 rfl (lv_at hl 2 rfl) ?_
      refine ko_call (v := some (.int (f_X3_hasMachine a1 O))) (va_runVN (As := [.int a1]) (rest := []) ⟨hx, hb, hml, hown, hts⟩ (c_X3_hasMachine l dC dI cs ad raO O a1 _ rfl) ⟨va_cnB 1 hts gX8_isSo_X3_hasMachine_n148 rfl rfl rfl (hN _ (List.mem_of_getElem? (i := 145) rfl)) k_initialized_RX3 (by decide +kernel) ⟨Nat.le_of_ble_eq_true rfl, Nat.le_of_ble_eq_true rfl⟩, k_instanceMethod_yX3_hasMachine, k_selects_RX3_yX3_hasMachine_yX3_hasMachine⟩ ⟨fun a U g mk q => ⟨q.1, (fun _ _ _ _ => cPr_bl) a U g mk q.2⟩, va_recv hK hP (ci := 4) (q0 := 5) rfl rfl, fun U hU hW => ⟨rfl, ⟨by rw [hU]; exact (hP.sub (ws' := (ww_X3_hasMachine cs ad raO O)) [5, 6, 7, 8, 9, 10, 11, 12] rfl), va_K.moved hW.alike hK, kN_warm hW hN⟩⟩⟩ rfl rfl hl.1 rfl (lv_room (Nat.le_of_ble_eq_true rfl)) dX8_isSo_15 ⟨Nat.le_refl _, Nat.le_refl _⟩) ?_
      refine lv_if_ne (tgt := 23) hx hb dX8_isSo_18 (by decide) (fun hb34 => ?_) (fun hb34 => ?_)
      · have hf := (if_neg hb34).symm.trans hf
        refine lv_aload_n hx hb dX8_isSo_23 rfl (lv_at hl 0 rfl) ?_
        refine va_get (D := (dC, dI)) (ci := 9) (C := RX8) (T := TX8) (N := 6) hx hb hts hinX8 hown hK hP 0 rfl rfl 2 (by decide) (v := .ref (raN 2)) knk_RX8_13__KeyLetters_Sentence___words____LKeyLetters_Word__ (fun _ h9 => h9) rfl dX8_isSo_24 ?_
        refine lv_iload_n hx hb dX8_isSo_27 rfl (lv_at hl 1 rfl) ?_
        obtain ⟨hc11, hf⟩ := ck_e hf
        refine va_aldq hx hb hK hP 1 4 rfl rfl hc11 dX8_isSo_28 ?_
        obtain ⟨hc12, hf⟩ := ck_e hf
        rw [kW_in ad hc12]
        refine lv_astore (nL := 7) (lv' := [(5, .ref (ad (N.1 2 a0.toNatClampNeg).toNatClampNeg)), (0, .ref (raN 0)), (1, .int a0), (2, .int a1), (3, .ref (raO 0)), (4, .ref (raS 0))]) hx hb dX8_isSo_29 hl (by decide) rfl (fun ls hl => ?_)
        refine lv_aload hx hb dX8_isSo_31 (lv_at hl 0 rfl) ?_
        refine va_gets hx hb (show va_Z "KeyLetters$Word" "HELD" "LKeyLetters$Word;" (.ref (ad 14)) _ s s.heap from (hE.1.1 14 (by decide)).1) va_S.rf hown keldLink_RX8_151__KeyLetters_Word___HELD___LKeyLetters_Word__ (fun _ h9 => h9) dX8_isSo_33 ?_
        refine ke_acmp_ne (x := (N.1 2 a0.toNatClampNeg)) (y := (14 : Int32)) hE hc12 (by decide +kernel) (tgt := 46) hx hb dX8_isSo_36 (by decide) (fun hb33 => ?_) (fun hb33 => ?_)
        · have hf := (if_neg hb33).symm.trans hf
          refine lv_aload hx hb dX8_isSo_46 (lv_at hl 0 rfl) ?_
          refine va_gets hx hb (show va_Z "KeyLetters$Word" "LATEST" "LKeyLetters$Word;" (.ref (ad 15)) _ s s.heap from (hE.1.1 15 (by decide)).1) va_S.rf hown kdLink_RX8_159__KeyLetters_Word___LATEST___LKeyLetters_Word__ (fun _ h9 => h9) dX8_isSo_48 ?_
          refine ke_acmp_ne (x := (N.1 2 a0.toNatClampNeg)) (y := (15 : Int32)) hE hc12 (by decide +kernel) (tgt := 69) hx hb dX8_isSo_51 (by decide) (fun hb32 => ?_) (fun hb32 => ?_)
          · have hf := (if_neg hb32).symm.trans hf
            refine lv_aload hx hb dX8_isSo_69 (lv_at hl 0 rfl) ?_
            refine va_gets hx hb (show va_Z "KeyLetters$Word" "MUTE" "LKeyLetters$Word;" (.ref (ad 16)) _ s s.heap from (hE.1.1 16 (by decide)).1) va_S.rf hown keldLink_RX8_165__KeyLetters_Word___MUTE___LKeyLetters_Word__ (fun _ h9 => h9) dX8_isSo_71 ?_
            refine ke_acmp_ne (x := (N.1 2 a0.toNatClampNeg)) (y := (16 : Int32)) hE hc12 (by decide +kernel) (tgt := 93) hx hb dX8_isSo_74 (by decide) (fun hb30 => ?_) (fun hb30 => ?_)
            · have hf := (if_neg hb30).symm.trans hf
              refine lv_aload hx hb dX8_isSo_93 (lv_at hl 0 rfl) ?_
              refine va_gets hx hb (show va_Z "KeyLetters$Word" "ABLE" "LKeyLetters$Word;" (.ref (ad 17)) _ s s.heap from (hE.1.1 17 (by decide)).1) va_S.rf hown kieldLink_RX8_91__KeyLetters_Word___ABLE___LKeyLetters_Word__ (fun _ h9 => h9) dX8_isSo_95 ?_
              refine ke_acmp_ne (x := (N.1 2 a0.toNatClampNeg)) (y := (17 : Int32)) hE hc12 (by decide +kernel) (tgt := 123) hx hb dX8_isSo_98 (by decide) (fun hb26 => ?_) (fun hb26 => ?_)
              · have hf := (if_neg hb26).symm.trans hf
                refine lv_aload hx hb dX8_isSo_123 (lv_at hl 0 rfl) ?_
                refine va_gets hx hb (show va_Z "KeyLetters$Word" "OWES" "LKeyLetters$Word;" (.ref (ad 18)) _ s s.heap from (hE.1.1 18 (by decide)).1) va_S.rf hown keldLink_RX8_107__KeyLetters_Word___OWES___LKeyLetters_Word__ (fun _ h9 => h9) dX8_isSo_125 ?_
                refine ke_acmp_ne (x := (N.1 2 a0.toNatClampNeg)) (y := (18 : Int32)) hE hc12 (by decide +kernel) (tgt := 152) hx hb dX8_isSo_128 (by decide) (fun hb21 => ?_) (fun hb21 => ?_)
                · have hf := (if_neg hb21).symm.trans hf
                  refine lv_aload hx hb dX8_isSo_152 (lv_at hl 0 rfl) ?_
                  refine va_gets hx hb (show va_Z "KeyLetters$Word" "INK" "LKeyLetters$Word;" (.ref (ad 19)) _ s s.heap from (hE.1.1 19 (by decide)).1) va_S.rf hown kieldLink_RX8_116__KeyLetters_Word___INK___LKeyLetters_Word__ (fun _ h9 => h9) dX8_isSo_154 ?_
                  refine ke_acmp_ne (x := (N.1 2 a0.toNatClampNeg)) (y := (19 : Int32)) hE hc12 (by decide +kernel) (tgt := 170) hx hb dX8_isSo_157 (by decide) (fun hb16 => ?_) (fun hb16 => ?_)
                  · have hf := (if_neg hb16).symm.trans hf
                    refine lv_aload hx hb dX8_isSo_170 (lv_at hl 0 rfl) ?_
                    refine va_gets hx hb (show va_Z "KeyLetters$Word" "WROTE" "LKeyLetters$Word;" (.ref (ad 20)) _ s s.heap from (hE.1.1 20 (by decide)).1) va_S.rf hown kldLink_RX8_119__KeyLetters_Word___WROTE___LKeyLetters_Word__ (fun _ h9 => h9) dX8_isSo_172 ?_
                    refine ke_acmp_ne (x := (N.1 2 a0.toNatClampNeg)) (y := (20 : Int32)) hE hc12 (by decide +kernel) (tgt := 188) hx hb dX8_isSo_175 (by decide) (fun hb14 => ?_) (fun hb14 => ?_)
                    · have hf := (if_neg hb14).symm.trans hf
                      refine lv_iload_n hx hb dX8_isSo_188 rfl (lv_at hl 3 rfl) ?_
                      exact h_189 a0 a1 ls (lv_sub hl [1, 2] rfl) hf
                    · have hf := (if_pos hb14).symm.trans hf
                      refine lv_aload hx hb dX8_isSo_178 (lv_at hl 5 rfl) ?_
                      refine va_getN (D := (dC, dI)) (ci := 10) (C := RX9) (T := TX9) (N := 9) hx hb hts hinX9 hown hK hP 13 rfl rfl 6 (by decide) (v := .ref (raS 6)) (va_Nw.use rfl (hN _ (List.mem_of_getElem? (i := 45) rfl))) (fun _ h9 => h9) rfl dX8_isSo_180 ?_
                      refine lv_iload_n hx hb dX8_isSo_183 rfl (lv_at hl 3 rfl) ?_
                      obtain ⟨hc13, hf⟩ := ck_e hf
                      refine va_iald hx hb hK hP 15 1 rfl rfl hc13 dX8_isSo_184 ?_
                      refine lv_goto (tgt := 189) hx hb dX8_isSo_185 (by decide) ?_
                      exact h_189 a0 (S.1 6 a1.toNatClampNeg) ls (lv_sub hl [1, 2] rfl) hf
                  · have hf := (if_pos hb16).symm.trans hf
                    refine lv_aload hx hb dX8_isSo_160 (lv_at hl 5 rfl) ?_
                    refine va_getN (D := (dC, dI)) (ci := 10) (C := RX9) (T := TX9) (N := 9) hx hb hts hinX9 hown hK hP 13 rfl rfl 5 (by decide) (v := .ref (raS 5)) (va_Nw.use rfl (hN _ (List.mem_of_getElem? (i := 43) rfl))) (fun _ h9 => h9) rfl dX8_isSo_162 ?_
                    refine lv_iload_n hx hb dX8_isSo_165 rfl (lv_at hl 3 rfl) ?_
                    obtain ⟨hc15, hf⟩ := ck_e hf
                    refine va_iald hx hb hK hP 14 1 rfl rfl hc15 dX8_isSo_166 ?_
                    refine lv_goto (tgt := 189) hx hb dX8_isSo_167 (by decide) ?_
                    exact h_189 a0 (S.1 5 a1.toNatClampNeg) ls (lv_sub hl [1, 2] rfl) hf
                · have hf := (if_pos hb21).symm.trans hf
                  refine lv_aload hx hb dX8_isSo_131 (lv_at hl 5 rfl) ?_
                  refine lv_iload_n hx hb dX8_isSo_133 rfl (lv_at hl 3 rfl) ?_
                  refine lv_aload_n hx hb dX8_isSo_134 rfl (lv_at hl 1 rfl) ?_
                  refine va_get (D := (dC, dI)) (ci := 9) (C := RX8) (T := TX8) (N := 6) hx hb hts hinX8 hown hK hP 0 rfl rfl 4 (by decide) (v := .ref (raN 4)) k_fieldLink_RX8_21__KeyLetters_Sentence___numbers____I_ (fun _ h9 => h9) rfl dX8_isSo_135 ?_
                  refine lv_iload_n hx hb dX8_isSo_138 rfl (lv_at hl 2 rfl) ?_
                  obtain ⟨hc17, hf⟩ := ck_e hf
                  refine va_iald hx hb hK hP 3 1 rfl rfl hc17 dX8_isSo_139 ?_
                  obtain ⟨v19, hq18, hf⟩ := bo_e hf
                  refine ko_call (v := some (.int v19)) (va_runVN (As := [.int a1, .int (N.1 4 a0.toNatClampNeg)]) (rest := []) ⟨hx, hb, hml, hown, hts⟩ (c_X9_debtOf l dC dI cs ad raS S a1 (N.1 4 a0.toNatClampNeg) v19 hq18) ⟨va_cnB 2 hts gX8_isSo_X9_debtOf_n176 rfl rfl rfl (hN _ (List.mem_of_getElem? (i := 149) rfl)) k_initialized_RX9 (by decide +kernel) ⟨Nat.le_of_ble_eq_true rfl, Nat.le_of_ble_eq_true rfl⟩, k_instanceMethod_yX9_debtOf, k_selects_RX9_yX9_debtOf_yX9_debtOf⟩ ⟨fun a U g mk q => ⟨q.1, (fun _ _ _ _ => cPr_bl) a U g mk q.2⟩, va_recv hK hP (ci := 10) (q0 := 13) rfl rfl, fun U hU hW => ⟨rfl, ⟨by rw [hU]; exact (hP.sub (ws' := (ww_X9_debtOf cs ad raS S)) [13, 14, 15, 16, 17] rfl), va_K.moved hW.alike hK, kN_warm hW hN⟩⟩⟩ rfl rfl hl.1 rfl (lv_room (Nat.le_of_ble_eq_true rfl)) dX8_isSo_140 ⟨Nat.le_refl _, Nat.le_refl _⟩) ?_
                  refine lv_if_le (tgt := 150) hx hb dX8_isSo_143 (by decide) (fun hb20 => ?_) (fun hb20 => ?_)
                  · have hf := (if_pos hb20).symm.trans hf
                    refine lv_iconst (v := 0) hx hb dX8_isSo_150 (by decide) ?_
                    have hf := Option.some.inj hf
                    subst hf
                    exact W.zret (v := (0 : Int32)) (ty := .boolean) hx hb hr rfl (fun t ht hW => ⟨rfl, ht⟩) (fun _ h => nomatch h) dX8_isSo_151
                  · have hf := (if_neg hb20).symm.trans hf
                    refine lv_iconst (v := 1) hx hb dX8_isSo_146 (by decide) ?_
                    refine lv_goto (tgt := 151) hx hb dX8_isSo_147 (by decide) ?_
                    have hf := Option.some.inj hf
                    subst hf
                    exact W.zret (v := (1 : Int32)) (ty := .boolean) hx hb hr rfl (fun t ht hW => ⟨rfl, ht⟩) (fun _ h => nomatch h) dX8_isSo_151
              · have hf := (if_pos hb26).symm.trans hf
                refine lv_aload hx hb dX8_isSo_101 (lv_at hl 5 rfl) ?_
                refine lv_aload_n hx hb dX8_isSo_103 rfl (lv_at hl 4 rfl) ?_
                refine lv_iload_n hx hb dX8_isSo_104 rfl (lv_at hl 3 rfl) ?_
                refine lv_aload_n hx hb dX8_isSo_105 rfl (lv_at hl 1 rfl) ?_
                refine va_get (D := (dC, dI)) (ci := 9) (C := RX8) (T := TX8) (N := 6) hx hb hts hinX8 hown hK hP 0 rfl rfl 4 (by decide) (v := .ref (raN 4)) k_fieldLink_RX8_21__KeyLetters_Sentence___numbers____I_ (fun _ h9 => h9) rfl dX8_isSo_106 ?_
                refine lv_iload_n hx hb dX8_isSo_109 rfl (lv_at hl 2 rfl) ?_
                obtain ⟨hc22, hf⟩ := ck_e hf
                refine va_iald hx hb hK hP 3 1 rfl rfl hc22 dX8_isSo_110 ?_
                obtain ⟨v24, hq23, hf⟩ := bo_e hf
                refine ko_call (v := some (.int v24)) (va_runVN (As := [.ref (raO 0), .int a1, .int (N.1 4 a0.toNatClampNeg)]) (rest := []) ⟨hx, hb, hml, hown, hts⟩ (c_X9_whyNotWrite l dC dI cs ad raS raO S O a1 (N.1 4 a0.toNatClampNeg) v24 hq23) ⟨va_cnB 3 hts gX8_isSo_X9_whyNotWrite_n172 rfl rfl rfl (hN _ (List.mem_of_getElem? (i := 148) rfl)) k_initialized_RX9 (by decide +kernel) ⟨Nat.le_of_ble_eq_true rfl, Nat.le_of_ble_eq_true rfl⟩, k_instanceMethod_yX9_whyNotWrite, k_selects_RX9_yX9_whyNotWrite_yX9_whyNotWrite⟩ ⟨fun a U g mk q => ⟨q.1, (fun _ _ _ _ => cPr_bl) a U g mk q.2⟩, va_recv hK hP (ci := 10) (q0 := 13) rfl rfl, fun U hU hW => ⟨rfl, ⟨by rw [hU]; exact (hP.sub (ws' := (ww_X9_whyNotWrite cs ad raS raO S O)) [13, 14, 15, 16, 17, 5, 6, 7, 8, 9, 10, 11, 12] rfl), va_K.moved hW.alike hK, kN_warm hW hN⟩⟩⟩ rfl rfl hl.1 rfl (lv_room (Nat.le_of_ble_eq_true rfl)) dX8_isSo_111 ⟨Nat.le_refl _, Nat.le_refl _⟩) ?_
                refine lv_if_ne (tgt := 121) hx hb dX8_isSo_114 (by decide) (fun hb25 => ?_) (fun hb25 => ?_)
                · have hf := (if_neg hb25).symm.trans hf
                  refine lv_iconst (v := 0) hx hb dX8_isSo_121 (by decide) ?_
                  have hf := Option.some.inj hf
                  subst hf
                  exact W.zret (v := (0 : Int32)) (ty := .boolean) hx hb hr rfl (fun t ht hW => ⟨rfl, ht⟩) (fun _ h => nomatch h) dX8_isSo_122
                · have hf := (if_pos hb25).symm.trans hf
                  refine lv_iconst (v := 1) hx hb dX8_isSo_117 (by decide) ?_
                  refine lv_goto (tgt := 122) hx hb dX8_isSo_118 (by decide) ?_
                  have hf := Option.some.inj hf
                  subst hf
                  exact W.zret (v := (1 : Int32)) (ty := .boolean) hx hb hr rfl (fun t ht hW => ⟨rfl, ht⟩) (fun _ h => nomatch h) dX8_isSo_122
            · have hf := (if_pos hb30).symm.trans hf
              refine lv_aload hx hb dX8_isSo_77 (lv_at hl 5 rfl) ?_
              refine lv_aload_n hx hb dX8_isSo_79 rfl (lv_at hl 4 rfl) ?_
              refine lv_iload_n hx hb dX8_isSo_80 rfl (lv_at hl 3 rfl) ?_
              obtain ⟨v28, hq27, hf⟩ := bo_e hf
              refine ko_call (v := some (.int v28)) (va_runVN (As := [.ref (raO 0), .int a1]) (rest := []) ⟨hx, hb, hml, hown, hts⟩ (c_X9_phrasesAble l dC dI cs ad raS raO S O a1 v28 hq27) ⟨va_cnB 2 hts gX8_isSo_X9_phrasesAble_n168 rfl rfl rfl (hN _ (List.mem_of_getElem? (i := 147) rfl)) k_initialized_RX9 (by decide +kernel) ⟨Nat.le_of_ble_eq_true rfl, Nat.le_of_ble_eq_true rfl⟩, k_instanceMethod_yX9_phrasesAble, k_selects_RX9_yX9_phrasesAble_yX9_phrasesAble⟩ ⟨fun a U g mk q => ⟨q.1, (fun _ _ _ _ => cPr_bl) a U g mk q.2⟩, va_recv hK hP (ci := 10) (q0 := 13) rfl rfl, fun U hU hW => ⟨rfl, ⟨by rw [hU]; exact (hP.sub (ws' := (ww_X9_phrasesAble cs ad raS raO S O)) [13, 14, 15, 16, 17, 5, 6, 7, 8, 9, 10, 11, 12] rfl), va_K.moved hW.alike hK, kN_warm hW hN⟩⟩⟩ rfl rfl hl.1 rfl (lv_room (Nat.le_of_ble_eq_true rfl)) dX8_isSo_81 ⟨Nat.le_refl _, Nat.le_refl _⟩) ?_
              refine lv_if_ne (tgt := 91) hx hb dX8_isSo_84 (by decide) (fun hb29 => ?_) (fun hb29 => ?_)
              · have hf := (if_neg hb29).symm.trans hf
                refine lv_iconst (v := 0) hx hb dX8_isSo_91 (by decide) ?_
                have hf := Option.some.inj hf
                subst hf
                exact W.zret (v := (0 : Int32)) (ty := .boolean) hx hb hr rfl (fun t ht hW => ⟨rfl, ht⟩) (fun _ h => nomatch h) dX8_isSo_92
              · have hf := (if_pos hb29).symm.trans hf
                refine lv_iconst (v := 1) hx hb dX8_isSo_87 (by decide) ?_
                refine lv_goto (tgt := 92) hx hb dX8_isSo_88 (by decide) ?_
                have hf := Option.some.inj hf
                subst hf
                exact W.zret (v := (1 : Int32)) (ty := .boolean) hx hb hr rfl (fun t ht hW => ⟨rfl, ht⟩) (fun _ h => nomatch h) dX8_isSo_92
          · have hf := (if_pos hb32).symm.trans hf
            refine lv_aload hx hb dX8_isSo_54 (lv_at hl 5 rfl) ?_
            refine va_getN (D := (dC, dI)) (ci := 10) (C := RX9) (T := TX9) (N := 9) hx hb hts hinX9 hown hK hP 13 rfl rfl 2 (by decide) (v := .int (S.1 0 2)) (va_Nw.use rfl (hN _ (List.mem_of_getElem? (i := 39) rfl))) (fun _ h9 => h9) rfl dX8_isSo_56 ?_
            refine lv_iload_n hx hb dX8_isSo_59 rfl (lv_at hl 3 rfl) ?_
            refine lv_icmp_ne (tgt := 67) hx hb dX8_isSo_60 (by decide) (fun hb31 => ?_) (fun hb31 => ?_)
            · have hf := (if_neg hb31).symm.trans hf
              refine lv_iconst (v := 0) hx hb dX8_isSo_67 (by decide) ?_
              have hf := Option.some.inj hf
              subst hf
              exact W.zret (v := (0 : Int32)) (ty := .boolean) hx hb hr rfl (fun t ht hW => ⟨rfl, ht⟩) (fun _ h => nomatch h) dX8_isSo_68
            · have hf := (if_pos hb31).symm.trans hf
              refine lv_iconst (v := 1) hx hb dX8_isSo_63 (by decide) ?_
              refine lv_goto (tgt := 68) hx hb dX8_isSo_64 (by decide) ?_
              have hf := Option.some.inj hf
              subst hf
              exact W.zret (v := (1 : Int32)) (ty := .boolean) hx hb hr rfl (fun t ht hW => ⟨rfl, ht⟩) (fun _ h => nomatch h) dX8_isSo_68
        · have hf := (if_pos hb33).symm.trans hf
          refine lv_aload hx hb dX8_isSo_39 (lv_at hl 5 rfl) ?_
          refine lv_iload_n hx hb dX8_isSo_41 rfl (lv_at hl 3 rfl) ?_
          refine ko_call (v := some (.int (f_X9_isHeld a1 S))) (va_runVN (As := [.int a1]) (rest := []) ⟨hx, hb, hml, hown, hts⟩ (c_X9_isHeld l dC dI cs ad raS S a1 _ rfl) ⟨va_cnB 1 hts gX8_isSo_X9_isHeld_n154 rfl rfl rfl (hN _ (List.mem_of_getElem? (i := 146) rfl)) k_initialized_RX9 (by decide +kernel) ⟨Nat.le_of_ble_eq_true rfl, Nat.le_of_ble_eq_true rfl⟩, k_instanceMethod_yX9_isHeld, k_selects_RX9_yX9_isHeld_yX9_isHeld⟩ ⟨fun a U g mk q => ⟨q.1, (fun _ _ _ _ => cPr_bl) a U g mk q.2⟩, va_recv hK hP (ci := 10) (q0 := 13) rfl rfl, fun U hU hW => ⟨rfl, ⟨by rw [hU]; exact (hP.sub (ws' := (ww_X9_isHeld cs ad raS S)) [13, 14, 15, 16, 17] rfl), va_K.moved hW.alike hK, kN_warm hW hN⟩⟩⟩ rfl rfl hl.1 rfl (lv_room (Nat.le_of_ble_eq_true rfl)) dX8_isSo_42 ⟨Nat.le_refl _, Nat.le_refl _⟩) ?_
          have hf := Option.some.inj hf
          subst hf
          exact W.zret (v := (f_X9_isHeld a1 S)) (ty := .boolean) hx hb hr (kt_z (z_X9_isHeld a1 S)) (fun t ht hW => ⟨rfl, ht⟩) (fun _ h => nomatch h) dX8_isSo_45
      · have hf := (if_pos hb34).symm.trans hf
        refine lv_iconst (v := 0) hx hb dX8_isSo_21 (by decide) ?_
        have hf := Option.some.inj hf
        subst hf
        exact W.zret (v := (0 : Int32)) (ty := .boolean) hx hb hr rfl (fun t ht hW => ⟨rfl, ht⟩) (fun _ h => nomatch h) dX8_isSo_22

def ww_X8_machinesOfPlain (cs : Nat → ClassId) (ad : Nat → Nat) (raN : Nat → Nat) (raO : Nat → Nat) (raS : Nat → Nat) (N : kD) (O : kD) (S : kD) : va_W := (wX8 cs ad raN N ++ (wX3 cs ad raO O ++ (wX9 cs ad raS S)))
abbrev rm_X8_machinesOfPlain : Room := { frames := 5, cells := 0, slots := 0, locals := 116 }
set_option maxHeartbeats 4000000 in
set_option maxRecDepth 100000 in
theorem c_X8_machinesOfPlain (l : Launch) (dC : Nat → ClassId) (dI : Nat → Nat → Nat) (cs : Nat → ClassId) (ad : Nat → Nat) (raN : Nat → Nat) (raO : Nat → Nat) (raS : Nat → Nat) (N : kD) (O : kD) (S : kD) (a0 : Int32) (r : Int32) (hf : f_X8_machinesOfPlain a0 N O S = some r) : Met l yX8_machinesOfPlain wsX8_machinesOfPlain rm_X8_machinesOfPlain (va_Pc [.ref (raN 0), .int a0, .ref (raO 0), .ref (raS 0)] (cPe ad (kF) (cPr dC dI cs (ww_X8_machinesOfPlain cs ad raN raO raS N O S)))) (kQ (some (.int r))) 0 0 (kF) := by
  refine Met.ofW (cc := cX8_machinesOfPlain) (maxL := 6) (ret := (some .int)) (by decide) rfl ?_
  intro p e s m args below meth c s₁ B hml hv
  obtain ⟨hav, hE, hP, hK, hN⟩ := hv
  have hx := B.exec
  have hb := B.bytes
  have hr := B.returns
  have hts := atoms_spec (ws := wsX8_machinesOfPlain) B.pre
  have hown : s.vm.findClass RX8 = some m.cls := findClass_of_methodNamed B.named
  have hlocks := B.notSynchronized
  have hinX3 := (show ∀ w ∈ wsX30, w ∈ wsX8_machinesOfPlain from fun w h => List.mem_cons_of_mem _ (List.mem_append_left _ (List.mem_append_left _ (List.mem_append_right _ h))))
  have hl := lv_entry ([.ref (raN 0), .int a0, .ref (raO 0), .ref (raS 0)]) (n := 6) (Nat.le_of_ble_eq_true rfl)
  rw [show entryFrame m args 6 = entryFrame m ([.ref (raN 0), .int a0, .ref (raO 0), .ref (raS 0)] : List Value).toArray 6 from by rw [hav], lg_entry_eq]
  generalize (lg_sl ([.ref (raN 0), .int a0, .ref (raO 0), .ref (raS 0)]) ++ List.replicate (6 - (lg_sl ([.ref (raN 0), .int a0, .ref (raO 0), .ref (raS 0)])).length) Slot.unset).toArray = ls at hl ⊢
  have hl : lv_has ls 6 [(0, .ref (raN 0)), (1, .int a0), (2, .ref (raO 0)), (3, .ref (raS 0))] := hl
  unfold f_X8_machinesOfPlain at hf
  have h_6 := lp_ind (z := (fun _ _ _ => none)) (b := (g_X8_machinesOfPlain_6 N O S)) (fun (rc_6 : Int32 → Int32 → Int32 → Option Int32) => ∀ (x1_6 : Int32) (x4_6 : Int32) (x5_6 : Int32) (ls : Array Slot), lv_has ls 6 [(0, .ref (raN 0)), (1, .int x1_6), (2, .ref (raO 0)), (3, .ref (raS 0)), (4, .int x4_6), (5, .int x5_6)] → rc_6 x1_6 x4_6 x5_6 = some r → W p l e (headSpec wsX8_machinesOfPlain rm_X8_machinesOfPlain).room s m args below meth c s.heap [] 0 0 (MQ below (kQ (some (.int r))) args s 0 0 (kF)) (F0 m 6 ls [])) (by
      intro x1_6 x4_6 x5_6 ls hl hf
      cases hf) (by
      intro rc_6 ih_6 x1_6 x4_6 x5_6 ls hl hf
      unfold g_X8_machinesOfPlain_6 at hf
      have h_36 : ∀ (x1_36 : Int32) (x4_36 : Int32) (x5_36 : Int32) (ls : Array Slot), lv_has ls 6 [(0, .ref (raN 0)), (1, .int x1_36), (2, .ref (raO 0)), (3, .ref (raS 0)), (4, .int x4_36), (5, .int x5_36)] → g_X8_machinesOfPlain_36 rc_6 N O S x1_36 x4_36 x5_36 = some r → W p l e (headSpec wsX8_machinesOfPlain rm_X8_machinesOfPlain).room s m args below meth c s.heap [] 0 0 (MQ below (kQ (some (.int r))) args s 0 0 (kF)) (F0 m 36 ls []) := by
        intro x1_36 x4_36 x5_36 ls hl hf
        unfold g_X8_machinesOfPlain_36 at hf
        obtain ⟨v1, ev1, hf⟩ := bd1_e hf
        refine lv_iinc (k := 5) (x := x5_36) (v := v1) (nL := 6) (lv' := [(5, .int v1), (0, .ref (raN 0)), (1, .int x1_36), (2, .ref (raO 0)), (3, .ref (raS 0)), (4, .int x4_36)]) hx hb dX8_machinesOfPlain_36 hl rfl (kt_inc (w := 1) (by decide) ev1) (by decide) rfl (fun ls hl => ?_)
        refine lv_goto (tgt := 6) hx hb dX8_machinesOfPlain_39 (by decide) ?_
        exact ih_6 x1_36 x4_36 v1 ls (lv_sub hl [1, 2, 3, 4, 5, 0] rfl) hf
      refine lv_iload hx hb dX8_machinesOfPlain_6 (lv_at hl 5 rfl) ?_
      refine lv_aload_n hx hb dX8_machinesOfPlain_8 rfl (lv_at hl 2 rfl) ?_
      refine va_getN (D := (dC, dI)) (ci := 4) (C := RX3) (T := TX3) (N := 11) hx hb hts hinX3 hown hK hP 5 rfl rfl 1 (by decide) (v := .int (O.1 0 1)) (va_Nw.use rfl (hN _ (List.mem_of_getElem? (i := 12) rfl))) (fun _ h9 => h9) rfl dX8_machinesOfPlain_9 ?_
      refine lv_icmp_ge (tgt := 42) hx hb dX8_machinesOfPlain_12 (by decide) (fun hb6 => ?_) (fun hb6 => ?_)
      · have hf := (if_pos hb6).symm.trans hf
        refine lv_iload hx hb dX8_machinesOfPlain_42 (lv_at hl 4 rfl) ?_
        have hf := Option.some.inj hf
        subst hf
        exact W.iret (v := x4_6) hx hb hr (fun t ht hW => ⟨rfl, ht⟩) (fun _ h => nomatch h) dX8_machinesOfPlain_44
      · have hf := (if_neg hb6).symm.trans hf
        refine lv_aload_n hx hb dX8_machinesOfPlain_15 rfl (lv_at hl 0 rfl) ?_
        refine lv_iload_n hx hb dX8_machinesOfPlain_16 rfl (lv_at hl 1 rfl) ?_
        refine lv_iload hx hb dX8_machinesOfPlain_17 (lv_at hl 5 rfl) ?_
        refine lv_aload_n hx hb dX8_machinesOfPlain_19 rfl (lv_at hl 2 rfl) ?_
        refine lv_aload_n hx hb dX8_machinesOfPlain_20 rfl (lv_at hl 3 rfl) ?_
        obtain ⟨v3, hq2, hf⟩ := bo_e hf
        have hEc := cE_subF hE va_S.rf
        refine ko_call (v := some (.int v3)) (va_runV (As := [.int x1_6, .int x5_6, .ref (raO 0), .ref (raS 0)]) (rest := []) ⟨hx, hb, hml, hown, hts⟩ (c_X8_isSo l dC dI cs ad raN raO raS N O S x1_6 x5_6 v3 hq2) (cwV 4 hts gX8_machinesOfPlain_X8_isSo rfl rfl rfl (by decide +kernel) ⟨Nat.le_of_ble_eq_true rfl, Nat.le_of_ble_eq_true rfl⟩) ⟨fun a U g mk q => ⟨q.1, (fun _ _ _ _ => cPe_bl (fun h => cPr_bl h)) a U g mk q.2⟩, va_recv hK hP (ci := 9) (q0 := 0) rfl rfl, fun U hU hW => ⟨rfl, ⟨hEc U hU hW, ⟨by rw [hU]; exact (hP.sub (ws' := (ww_X8_isSo cs ad raN raO raS N O S)) [0, 1, 2, 3, 4, 5, 6, 7, 8, 9, 10, 11, 12, 13, 14, 15, 16, 17] rfl), va_K.moved hW.alike hK, kN_warm hW hN⟩⟩⟩⟩ rfl rfl hl.1 rfl (lv_room (Nat.le_of_ble_eq_true rfl)) dX8_machinesOfPlain_21 ⟨Nat.le_refl _, Nat.le_refl _⟩) ?_
        refine lv_if_eq (tgt := 36) hx hb dX8_machinesOfPlain_24 (by decide) (fun hb5 => ?_) (fun hb5 => ?_)
        · have hf := (if_pos hb5).symm.trans hf
          exact h_36 x1_6 x4_6 x5_6 ls hl hf
        · have hf := (if_neg hb5).symm.trans hf
          refine lv_iload hx hb dX8_machinesOfPlain_27 (lv_at hl 4 rfl) ?_
          refine lv_iconst (v := 1) hx hb dX8_machinesOfPlain_29 (by decide) ?_
          refine lv_iload hx hb dX8_machinesOfPlain_30 (lv_at hl 5 rfl) ?_
          refine lv_ishl hx hb dX8_machinesOfPlain_32 ?_
          refine lv_ior hx hb dX8_machinesOfPlain_33 ?_
          obtain ⟨v4, ev4, hf⟩ := bd1_e hf
          refine kt_i ev4 ?_
          refine lv_istore (nL := 6) (lv' := [(4, .int v4), (0, .ref (raN 0)), (1, .int x1_6), (2, .ref (raO 0)), (3, .ref (raS 0)), (5, .int x5_6)]) hx hb dX8_machinesOfPlain_34 hl (by decide) rfl (fun ls hl => ?_)
          exact h_36 x1_6 v4 x5_6 ls (lv_sub hl [1, 2, 3, 4, 0, 5] rfl) hf) 2000
  refine lv_iconst (v := 0) hx hb dX8_machinesOfPlain_0 (by decide) ?_
  refine lv_istore (nL := 6) (lv' := [(4, .int (0 : Int32)), (0, .ref (raN 0)), (1, .int a0), (2, .ref (raO 0)), (3, .ref (raS 0))]) hx hb dX8_machinesOfPlain_1 hl (by decide) rfl (fun ls hl => ?_)
  refine lv_iconst (v := 0) hx hb dX8_machinesOfPlain_3 (by decide) ?_
  refine lv_istore (nL := 6) (lv' := [(5, .int (0 : Int32)), (4, .int (0 : Int32)), (0, .ref (raN 0)), (1, .int a0), (2, .ref (raO 0)), (3, .ref (raS 0))]) hx hb dX8_machinesOfPlain_4 hl (by decide) rfl (fun ls hl => ?_)
  exact h_6 a0 (0 : Int32) (0 : Int32) ls (lv_sub hl [2, 3, 4, 5, 1, 0] rfl) hf

def ww_X8_machinesOf (cs : Nat → ClassId) (ad : Nat → Nat) (raN : Nat → Nat) (raO : Nat → Nat) (raS : Nat → Nat) (N : kD) (O : kD) (S : kD) : va_W := (wX8 cs ad raN N ++ (wX3 cs ad raO O ++ (wX9 cs ad raS S)))
abbrev rm_X8_machinesOf : Room := { frames := 6, cells := 0, slots := 0, locals := 141 }
set_option maxHeartbeats 4000000 in
set_option maxRecDepth 100000 in
theorem c_X8_machinesOf (l : Launch) (dC : Nat → ClassId) (dI : Nat → Nat → Nat) (cs : Nat → ClassId) (ad : Nat → Nat) (raN : Nat → Nat) (raO : Nat → Nat) (raS : Nat → Nat) (sz : Nat) (N : kD) (O : kD) (S : kD) (r : Int32 × kD) (hf : f_X8_machinesOf N O S = some r) : Met l yX8_machinesOf wsX8_machinesOf rm_X8_machinesOf (va_Pc [.ref (raN 0), .ref (raO 0), .ref (raS 0)] (cPe ad (va_A (ww_X8_machinesOf cs ad raN raO raS zD zD zD) sz) (cPw dC dI cs sz (ww_X8_machinesOf cs ad raN raO raS N O S)))) (cQi dC dI cs (va_A (ww_X8_machinesOf cs ad raN raO raS zD zD zD) sz) r.1 (ww_X8_machinesOf cs ad raN raO raS r.2 O S)) 0 0 (va_A (ww_X8_machinesOf cs ad raN raO raS zD zD zD) sz) := by
  refine Met.ofW (cc := cX8_machinesOf) (maxL := 7) (ret := (some .int)) (by decide) rfl ?_
  intro p e s m args below meth c s₁ B hml hv
  obtain ⟨hav, hE, hsz, hP, hK, hD0, hN⟩ := hv
  have hx := B.exec
  have hb := B.bytes
  have hr := B.returns
  have hts := atoms_spec (ws := wsX8_machinesOf) B.pre
  have hown : s.vm.findClass RX8 = some m.cls := findClass_of_methodNamed B.named
  have hlocks := B.notSynchronized
  subst hsz
  have hA : ∀ q, s.heap.size ≤ q → va_A (ww_X8_machinesOf cs ad raN raO raS zD zD zD) s.heap.size q := fun q h => Or.inr h
  have hD : va_D (va_A (ww_X8_machinesOf cs ad raN raO raS zD zD zD) s.heap.size) (ww_X8_machinesOf cs ad raN raO raS N O S) := hD0.weaken (fun k q h _ => cA_in (ws := (ww_X8_machinesOf cs ad raN raO raS N O S)) (ws' := (ww_X8_machinesOf cs ad raN raO raS zD zD zD)) rfl h)
  have hS : va_S (va_A (ww_X8_machinesOf cs ad raN raO raS zD zD zD) s.heap.size) s.heap s.heap [] := va_S.rf
  have hinX3 := (show ∀ w ∈ wsX30, w ∈ wsX8_machinesOf from fun w h => List.mem_cons_of_mem _ (List.mem_append_left _ (List.mem_append_left _ (List.mem_append_right _ h))))
  have hinX8 := (show ∀ w ∈ wsX80, w ∈ wsX8_machinesOf from fun w h => List.mem_cons_of_mem _ (List.mem_append_left _ (List.mem_append_right _ h)))
  have k_fieldLink_RX8_24__KeyLetters_Sentence___open____I_ := hts (.fieldLink RX8 24 "KeyLetters$Sentence" "open" "[I") (List.mem_of_getElem? (i := 4) rfl)
  have k_fieldLink_RX8_27__KeyLetters_Sentence___size___I_ := hts (.fieldLink RX8 27 "KeyLetters$Sentence" "size" "I") (List.mem_of_getElem? (i := 1) rfl)
  have k_fieldLink_RX8_50__KeyLetters_Word___OR___LKeyLetters_Word__ := hts (.fieldLink RX8 50 "KeyLetters$Word" "OR" "LKeyLetters$Word;") (List.mem_of_getElem? (i := 6) rfl)
  have kfieldLink_RX8_68__KeyLetters_Word___AND___LKeyLetters_Word__ := hts (.fieldLink RX8 68 "KeyLetters$Word" "AND" "LKeyLetters$Word;") (List.mem_of_getElem? (i := 5) rfl)
  have kfieldLink_RX8_88__KeyLetters_Word___NOT___LKeyLetters_Word__ := hts (.fieldLink RX8 88 "KeyLetters$Word" "NOT" "LKeyLetters$Word;") (List.mem_of_getElem? (i := 3) rfl)
  have knk_RX8_13__KeyLetters_Sentence___words____LKeyLetters_Word__ := hts (.fieldLink RX8 13 "KeyLetters$Sentence" "words" "[LKeyLetters$Word;") (List.mem_of_getElem? (i := 2) rfl)
  have hl := lv_entry ([.ref (raN 0), .ref (raO 0), .ref (raS 0)]) (n := 7) (Nat.le_of_ble_eq_true rfl)
  rw [show entryFrame m args 7 = entryFrame m ([.ref (raN 0), .ref (raO 0), .ref (raS 0)] : List Value).toArray 7 from by rw [hav], lg_entry_eq]
  generalize (lg_sl ([.ref (raN 0), .ref (raO 0), .ref (raS 0)]) ++ List.replicate (7 - (lg_sl ([.ref (raN 0), .ref (raO 0), .ref (raS 0)])).length) Slot.unset).toArray = ls at hl ⊢
  have hl : lv_has ls 7 [(0, .ref (raN 0)), (1, .ref (raO 0)), (2, .ref (raS 0))] := hl
  unfold f_X8_machinesOf at hf
  have h_194 : ∀ (x4_194 : Int32) (N_194 : kD) (ls : Array Slot) (H : Heap) (locs : List Loc), lv_has ls 7 [(0, .ref (raN 0)), (4, .int x4_194)] → va_P (dC, dI) vwCl (ww_X8_machinesOf cs ad raN raO raS N_194 O S) H → va_D (va_A (ww_X8_machinesOf cs ad raN raO raS zD zD zD) s.heap.size) (ww_X8_machinesOf cs ad raN raO raS N_194 O S) → va_S (va_A (ww_X8_machinesOf cs ad raN raO raS zD zD zD) s.heap.size) s.heap H locs → g_X8_machinesOf_194 O S x4_194 N_194 = some r → W p l e (headSpec wsX8_machinesOf rm_X8_machinesOf).room s m args below meth c H locs 0 0 (MQ below (cQi dC dI cs (va_A (ww_X8_machinesOf cs ad raN raO raS zD zD zD) s.heap.size) r.1 (ww_X8_machinesOf cs ad raN raO raS r.2 O S)) args s 0 0 (va_A (ww_X8_machinesOf cs ad raN raO raS zD zD zD) s.heap.size)) (F0 m 194 ls []) := by
    intro x4_194 N_194 ls H locs hl hP hD hS hf
    unfold g_X8_machinesOf_194 at hf
    refine lv_iload hx hb dX8_machinesOf_194 (lv_at hl 1 rfl) ?_
    refine lv_if_le (tgt := 208) hx hb dX8_machinesOf_196 (by decide) (fun hb1 => ?_) (fun hb1 => ?_)
    · have hf := (if_pos hb1).symm.trans hf
      refine lv_iconst (v := 0) hx hb dX8_machinesOf_208 (by decide) ?_
      have hf := Option.some.inj hf
      subst hf
      exact c_iret (v := (0 : Int32)) hx hb hr hlocks hP hK hD hS dX8_machinesOf_209
    · have hf := (if_neg hb1).symm.trans hf
      refine lv_aload_n hx hb dX8_machinesOf_199 rfl (lv_at hl 0 rfl) ?_
      refine va_get (D := (dC, dI)) (ci := 9) (C := RX8) (T := TX8) (N := 6) hx hb hts hinX8 hown hK hP 0 rfl rfl 5 (by decide) (v := .ref (raN 5)) k_fieldLink_RX8_24__KeyLetters_Sentence___open____I_ (fun _ h9 => h9) rfl dX8_machinesOf_200 ?_
      refine lv_iconst (v := 0) hx hb dX8_machinesOf_203 (by decide) ?_
      refine va_iald hx hb hK hP 4 1 rfl rfl (show ¬ ((0 : Int32) < 0 ∨ 20 ≤ (0 : Int32).toNatClampNeg) by decide +kernel) dX8_machinesOf_204 ?_
      refine lv_goto (tgt := 209) hx hb dX8_machinesOf_205 (by decide) ?_
      have hf := Option.some.inj hf
      subst hf
      exact c_iret (v := (N_194.1 5 (0 : Int32).toNatClampNeg)) hx hb hr hlocks hP hK hD hS dX8_machinesOf_209
  have h_15 := lp_ind (z := (fun _ _ _ _ => none)) (b := (g_X8_machinesOf_15 O S)) (fun (rc_15 : Int32 → Int32 → Int32 → kD → Option (Int32 × kD)) => ∀ (x3_15 : Int32) (x4_15 : Int32) (x5_15 : Int32) (N_15 : kD) (ls : Array Slot) (H : Heap) (locs : List Loc), lv_has ls 7 [(0, .ref (raN 0)), (1, .ref (raO 0)), (2, .ref (raS 0)), (3, .int x3_15), (4, .int x4_15), (5, .int x5_15)] → va_P (dC, dI) vwCl (ww_X8_machinesOf cs ad raN raO raS N_15 O S) H → va_D (va_A (ww_X8_machinesOf cs ad raN raO raS zD zD zD) s.heap.size) (ww_X8_machinesOf cs ad raN raO raS N_15 O S) → va_S (va_A (ww_X8_machinesOf cs ad raN raO raS zD zD zD) s.heap.size) s.heap H locs → rc_15 x3_15 x4_15 x5_15 N_15 = some r → W p l e (headSpec wsX8_machinesOf rm_X8_machinesOf).room s m args below meth c H locs 0 0 (MQ below (cQi dC dI cs (va_A (ww_X8_machinesOf cs ad raN raO raS zD zD zD) s.heap.size) r.1 (ww_X8_machinesOf cs ad raN raO raS r.2 O S)) args s 0 0 (va_A (ww_X8_machinesOf cs ad raN raO raS zD zD zD) s.heap.size)) (F0 m 15 ls [])) (by
      intro x3_15 x4_15 x5_15 N_15 ls H locs hl hP hD hS hf
      cases hf) (by
      intro rc_15 ih_15 x3_15 x4_15 x5_15 N_15 ls H locs hl hP hD hS hf
      unfold g_X8_machinesOf_15 at hf
      have h_188 : ∀ (x3_188 : Int32) (x4_188 : Int32) (x5_188 : Int32) (N_188 : kD) (ls : Array Slot) (H : Heap) (locs : List Loc), lv_has ls 7 [(0, .ref (raN 0)), (1, .ref (raO 0)), (2, .ref (raS 0)), (3, .int x3_188), (4, .int x4_188), (5, .int x5_188)] → va_P (dC, dI) vwCl (ww_X8_machinesOf cs ad raN raO raS N_188 O S) H → va_D (va_A (ww_X8_machinesOf cs ad raN raO raS zD zD zD) s.heap.size) (ww_X8_machinesOf cs ad raN raO raS N_188 O S) → va_S (va_A (ww_X8_machinesOf cs ad raN raO raS zD zD zD) s.heap.size) s.heap H locs → g_X8_machinesOf_188 rc_15 O S x3_188 x4_188 x5_188 N_188 = some r → W p l e (headSpec wsX8_machinesOf rm_X8_machinesOf).room s m args below meth c H locs 0 0 (MQ below (cQi dC dI cs (va_A (ww_X8_machinesOf cs ad raN raO raS zD zD zD) s.heap.size) r.1 (ww_X8_machinesOf cs ad raN raO raS r.2 O S)) args s 0 0 (va_A (ww_X8_machinesOf cs ad raN raO raS zD zD zD) s.heap.size)) (F0 m 188 ls []) := by
        intro x3_188 x4_188 x5_188 N_188 ls H locs hl hP hD hS hf
        unfold g_X8_machinesOf_188 at hf
        obtain ⟨v2, ev2, hf⟩ := bd1_e hf
        refine lv_iinc (k := 5) (x := x5_188) (v := v2) (nL := 7) (lv' := [(5, .int v2), (0, .ref (raN 0)), (1, .ref (raO 0)), (2, .ref (raS 0)), (3, .int x3_188), (4, .int x4_188)]) hx hb dX8_machinesOf_188 hl rfl (kt_inc (w := 1) (by decide) ev2) (by decide) rfl (fun ls hl => ?_)
        refine lv_goto (tgt := 15) hx hb dX8_machinesOf_191 (by decide) ?_
        exact ih_15 x3_188 x4_188 v2 N_188 ls _ _ (lv_sub hl [1, 2, 3, 4, 5, 0] rfl) hP hD hS hf
      have h_82 : ∀ (x3_82 : Int32) (x4_82 : Int32) (x5_82 : Int32) (x6_82 : Int32) (N_82 : kD) (ls : Array Slot) (H : Heap) (locs : List Loc), lv_has ls 7 [(0, .ref (raN 0)), (1, .ref (raO 0)), (2, .ref (raS 0)), (3, .int x3_82), (4, .int x4_82), (5, .int x5_82), (6, .ref (ad x6_82.toNatClampNeg))] → va_P (dC, dI) vwCl (ww_X8_machinesOf cs ad raN raO raS N_82 O S) H → va_D (va_A (ww_X8_machinesOf cs ad raN raO raS zD zD zD) s.heap.size) (ww_X8_machinesOf cs ad raN raO raS N_82 O S) → va_S (va_A (ww_X8_machinesOf cs ad raN raO raS zD zD zD) s.heap.size) s.heap H locs → g_X8_machinesOf_82 rc_15 O S x3_82 x4_82 x5_82 x6_82 N_82 = some r → W p l e (headSpec wsX8_machinesOf rm_X8_machinesOf).room s m args below meth c H locs 0 0 (MQ below (cQi dC dI cs (va_A (ww_X8_machinesOf cs ad raN raO raS zD zD zD) s.heap.size) r.1 (ww_X8_machinesOf cs ad raN raO raS r.2 O S)) args s 0 0 (va_A (ww_X8_machinesOf cs ad raN raO raS zD zD zD) s.heap.size)) (F0 m 82 ls []) := by
        intro x3_82 x4_82 x5_82 x6_82 N_82 ls H locs hl hP hD hS hf
        unfold g_X8_machinesOf_82 at hf
        have h_121 : ∀ (x3_121 : Int32) (x4_121 : Int32) (x5_121 : Int32) (x6_121 : Int32) (N_121 : kD) (ls : Array Slot) (H : Heap) (locs : List Loc), lv_has ls 7 [(0, .ref (raN 0)), (1, .ref (raO 0)), (2, .ref (raS 0)), (3, .int x3_121), (4, .int x4_121), (5, .int x5_121), (6, .ref (ad x6_121.toNatClampNeg))] → va_P (dC, dI) vwCl (ww_X8_machinesOf cs ad raN raO raS N_121 O S) H → va_D (va_A (ww_X8_machinesOf cs ad raN raO raS zD zD zD) s.heap.size) (ww_X8_machinesOf cs ad raN raO raS N_121 O S) → va_S (va_A (ww_X8_machinesOf cs ad raN raO raS zD zD zD) s.heap.size) s.heap H locs → g_X8_machinesOf_121 rc_15 O S x3_121 x4_121 x5_121 x6_121 N_121 = some r → W p l e (headSpec wsX8_machinesOf rm_X8_machinesOf).room s m args below meth c H locs 0 0 (MQ below (cQi dC dI cs (va_A (ww_X8_machinesOf cs ad raN raO raS zD zD zD) s.heap.size) r.1 (ww_X8_machinesOf cs ad raN raO raS r.2 O S)) args s 0 0 (va_A (ww_X8_machinesOf cs ad raN raO raS zD zD zD) s.heap.size)) (F0 m 121 ls []) := by
          intro x3_121 x4_121 x5_121 x6_121 N_121 ls H locs hl hP hD hS hf
          unfold g_X8_machinesOf_121 at hf
          have h_160 : ∀ (x3_160 : Int32) (x4_160 : Int32) (x5_160 : Int32) (N_160 : kD) (ls : Array Slot) (H : Heap) (locs : List Loc), lv_has ls 7 [(0, .ref (raN 0)), (1, .ref (raO 0)), (2, .ref (raS 0)), (3, .int x3_160), (4, .int x4_160), (5, .int x5_160)] → va_P (dC, dI) vwCl (ww_X8_machinesOf cs ad raN raO raS N_160 O S) H → va_D (va_A (ww_X8_machinesOf cs ad raN raO raS zD zD zD) s.heap.size) (ww_X8_machinesOf cs ad raN raO raS N_160 O S) → va_S (va_A (ww_X8_machinesOf cs ad raN raO raS zD zD zD) s.heap.size) s.heap H locs → g_X8_machinesOf_160 rc_15 O S x3_160 x4_160 x5_160 N_160 = some r → W p l e (headSpec wsX8_machinesOf rm_X8_machinesOf).room s m args below meth c H locs 0 0 (MQ below (cQi dC dI cs (va_A (ww_X8_machinesOf cs ad raN raO raS zD zD zD) s.heap.size) r.1 (ww_X8_machinesOf cs ad raN raO raS r.2 O S)) args s 0 0 (va_A (ww_X8_machinesOf cs ad raN raO raS zD zD zD) s.heap.size)) (F0 m 160 ls []) := by
            intro x3_160 x4_160 x5_160 N_160 ls H locs hl hP hD hS hf
            unfold g_X8_machinesOf_160 at hf
            refine lv_iload hx hb dX8_machinesOf_160 (lv_at hl 4 rfl) ?_
            refine lv_aload_n hx hb dX8_machinesOf_162 rfl (lv_at hl 0 rfl) ?_
            refine va_get (D := (dC, dI)) (ci := 9) (C := RX8) (T := TX8) (N := 6) hx hb hts hinX8 hown hK hP 0 rfl rfl 5 (by decide) (v := .ref (raN 5)) k_fieldLink_RX8_24__KeyLetters_Sentence___open____I_ (fun _ h9 => h9) rfl dX8_machinesOf_163 ?_
            refine va_alen hx hb hK hP 4 1 rfl rfl (v := (20 : Int32)) rfl dX8_machinesOf_166 ?_
            refine lv_icmp_ge (tgt := 188) hx hb dX8_machinesOf_167 (by decide) (fun hb8 => ?_) (fun hb8 => ?_)
            · have hf := (if_pos hb8).symm.trans hf
              exact h_188 x3_160 x4_160 x5_160 N_160 ls _ _ hl hP hD hS hf
            · have hf := (if_neg hb8).symm.trans hf
              refine lv_aload_n hx hb dX8_machinesOf_170 rfl (lv_at hl 0 rfl) ?_
              refine va_get (D := (dC, dI)) (ci := 9) (C := RX8) (T := TX8) (N := 6) hx hb hts hinX8 hown hK hP 0 rfl rfl 5 (by decide) (v := .ref (raN 5)) k_fieldLink_RX8_24__KeyLetters_Sentence___open____I_ (fun _ h9 => h9) rfl dX8_machinesOf_171 ?_
              refine lv_iload hx hb dX8_machinesOf_174 (lv_at hl 4 rfl) ?_
              refine lv_aload_n hx hb dX8_machinesOf_176 rfl (lv_at hl 0 rfl) ?_
              refine lv_iload hx hb dX8_machinesOf_177 (lv_at hl 5 rfl) ?_
              refine lv_aload_n hx hb dX8_machinesOf_179 rfl (lv_at hl 1 rfl) ?_
              refine lv_aload_n hx hb dX8_machinesOf_180 rfl (lv_at hl 2 rfl) ?_
              obtain ⟨v4, hq3, hf⟩ := bo_e hf
              have hEc := cE_subF hE hS
              refine ko_call (v := some (.int v4)) (va_runV (As := [.int x5_160, .ref (raO 0), .ref (raS 0)]) (rest := [.int x4_160, .ref (raN 5)]) ⟨hx, hb, hml, hown, hts⟩ (c_X8_machinesOfPlain l dC dI cs ad raN raO raS N_160 O S x5_160 v4 hq3) (cwV 3 hts gX8_machinesOf_X8_machinesOfPlain rfl rfl rfl (by decide +kernel) ⟨Nat.le_of_ble_eq_true rfl, Nat.le_of_ble_eq_true rfl⟩) ⟨fun a U g mk q => ⟨q.1, (fun _ _ _ _ => cPe_bl (fun h => cPr_bl h)) a U g mk q.2⟩, va_recv hK hP (ci := 9) (q0 := 0) rfl rfl, fun U hU hW => ⟨rfl, ⟨hEc U hU hW, ⟨by rw [hU]; exact (hP.sub (ws' := (ww_X8_machinesOfPlain cs ad raN raO raS N_160 O S)) [0, 1, 2, 3, 4, 5, 6, 7, 8, 9, 10, 11, 12, 13, 14, 15, 16, 17] rfl), va_K.moved hW.alike hK, kN_warm hW hN⟩⟩⟩⟩ rfl rfl hl.1 rfl (lv_room (Nat.le_of_ble_eq_true rfl)) dX8_machinesOf_181 ⟨Nat.le_refl _, Nat.le_refl _⟩) ?_
              obtain ⟨hc5, hf⟩ := ck_e hf
              obtain ⟨Nv6, eNv6, hf⟩ := bd1_e hf
              refine va_iast hx hb hK hP hD hS 4 1 rfl rfl hc5 dX8_machinesOf_184 (fun H locs hP hD hS => ?_)
              have hP : va_P (dC, dI) vwCl (ww_X8_machinesOf cs ad raN raO raS Nv6 O S) H := g_toP (by rw [eNv6]; rfl) hP
              have hD : va_D (va_A (ww_X8_machinesOf cs ad raN raO raS zD zD zD) s.heap.size) (ww_X8_machinesOf cs ad raN raO raS Nv6 O S) := g_toD (by rw [eNv6]; rfl) hD
              obtain ⟨v7, ev7, hf⟩ := bd1_e hf
              refine lv_iinc (k := 4) (x := x4_160) (v := v7) (nL := 7) (lv' := [(4, .int v7), (0, .ref (raN 0)), (1, .ref (raO 0)), (2, .ref (raS 0)), (3, .int x3_160), (5, .int x5_160)]) hx hb dX8_machinesOf_185 hl rfl (kt_inc (w := 1) (by decide) ev7) (by decide) rfl (fun ls hl => ?_)
              exact h_188 x3_160 v7 x5_160 Nv6 ls _ _ (lv_sub hl [1, 2, 3, 4, 0, 5] rfl) hP hD hS hf
          refine lv_aload hx hb dX8_machinesOf_121 (lv_at hl 6 rfl) ?_
          refine va_gets hx hb (show va_Z "KeyLetters$Word" "OR" "LKeyLetters$Word;" (.ref (ad 11)) _ s s.heap from (hE.1.1 11 (by decide)).1) hS hown k_fieldLink_RX8_50__KeyLetters_Word___OR___LKeyLetters_Word__ (fun _ h9 => h9) dX8_machinesOf_123 ?_
          obtain ⟨hc9, hf⟩ := ck_e hf
          refine ke_acmp_ne (x := x6_121) (y := (11 : Int32)) hE hc9 (by decide +kernel) (tgt := 160) hx hb dX8_machinesOf_126 (by decide) (fun hb17 => ?_) (fun hb17 => ?_)
          · have hf := (if_neg hb17).symm.trans hf
            exact h_160 x3_121 x4_121 x5_121 N_121 ls _ _ (lv_sub hl [0, 1, 2, 3, 4, 5] rfl) hP hD hS hf
          · have hf := (if_pos hb17).symm.trans hf
            refine lv_iload hx hb dX8_machinesOf_129 (lv_at hl 4 rfl) ?_
            refine lv_iconst (v := 2) hx hb dX8_machinesOf_131 (by decide) ?_
            refine lv_icmp_lt (tgt := 160) hx hb dX8_machinesOf_132 (by decide) (fun hb16 => ?_) (fun hb16 => ?_)
            · have hf := (if_pos hb16).symm.trans hf
              exact h_160 x3_121 x4_121 x5_121 N_121 ls _ _ (lv_sub hl [0, 1, 2, 3, 4, 5] rfl) hP hD hS hf
            · have hf := (if_neg hb16).symm.trans hf
              obtain ⟨v10, ev10, hf⟩ := bd1_e hf
              refine lv_iinc (k := 4) (x := x4_121) (v := v10) (nL := 7) (lv' := [(4, .int v10), (0, .ref (raN 0)), (1, .ref (raO 0)), (2, .ref (raS 0)), (3, .int x3_121), (5, .int x5_121), (6, .ref (ad x6_121.toNatClampNeg))]) hx hb dX8_machinesOf_135 hl rfl (kt_inc (w := (-1)) (by decide) ev10) (by decide) rfl (fun ls hl => ?_)
              refine lv_aload_n hx hb dX8_machinesOf_138 rfl (lv_at hl 1 rfl) ?_
              refine va_get (D := (dC, dI)) (ci := 9) (C := RX8) (T := TX8) (N := 6) hx hb hts hinX8 hown hK hP 0 rfl rfl 5 (by decide) (v := .ref (raN 5)) k_fieldLink_RX8_24__KeyLetters_Sentence___open____I_ (fun _ h9 => h9) rfl dX8_machinesOf_139 ?_
              refine lv_iload hx hb dX8_machinesOf_142 (lv_at hl 0 rfl) ?_
              refine lv_iconst (v := 1) hx hb dX8_machinesOf_144 (by decide) ?_
              refine lv_isub hx hb dX8_machinesOf_145 ?_
              obtain ⟨v11, ev11, hf⟩ := bd1_e hf
              refine kt_i ev11 ?_
              refine lv_dup2_11 hx hb dX8_machinesOf_146 rfl rfl ?_
              obtain ⟨hc12, hf⟩ := ck_e hf
              refine va_iald hx hb hK hP 4 1 rfl rfl hc12 dX8_machinesOf_147 ?_
              refine lv_aload_n hx hb dX8_machinesOf_148 rfl (lv_at hl 1 rfl) ?_
              refine va_get (D := (dC, dI)) (ci := 9) (C := RX8) (T := TX8) (N := 6) hx hb hts hinX8 hown hK hP 0 rfl rfl 5 (by decide) (v := .ref (raN 5)) k_fieldLink_RX8_24__KeyLetters_Sentence___open____I_ (fun _ h9 => h9) rfl dX8_machinesOf_149 ?_
              refine lv_iload hx hb dX8_machinesOf_152 (lv_at hl 0 rfl) ?_
              obtain ⟨hc13, hf⟩ := ck_e hf
              refine va_iald hx hb hK hP 4 1 rfl rfl hc13 dX8_machinesOf_154 ?_
              refine lv_ior hx hb dX8_machinesOf_155 ?_
              obtain ⟨hc14, hf⟩ := ck_e hf
              obtain ⟨Nv15, eNv15, hf⟩ := bd1_e hf
              refine va_iast hx hb hK hP hD hS 4 1 rfl rfl hc14 dX8_machinesOf_156 (fun H locs hP hD hS => ?_)
              have hP : va_P (dC, dI) vwCl (ww_X8_machinesOf cs ad raN raO raS Nv15 O S) H := g_toP (by rw [eNv15]; rfl) hP
              have hD : va_D (va_A (ww_X8_machinesOf cs ad raN raO raS zD zD zD) s.heap.size) (ww_X8_machinesOf cs ad raN raO raS Nv15 O S) := g_toD (by rw [eNv15]; rfl) hD
              refine lv_goto (tgt := 188) hx hb dX8_machinesOf_157 (by decide) ?_
              exact h_188 x3_121 v10 x5_121 Nv15 ls _ _ (lv_sub hl [1, 2, 3, 4, 0, 5] rfl) hP hD hS hf
        refine lv_aload hx hb dX8_machinesOf_82 (lv_at hl 6 rfl) ?_
        refine va_gets hx hb (show va_Z "KeyLetters$Word" "AND" "LKeyLetters$Word;" (.ref (ad 12)) _ s s.heap from (hE.1.1 12 (by decide)).1) hS hown kfieldLink_RX8_68__KeyLetters_Word___AND___LKeyLetters_Word__ (fun _ h9 => h9) dX8_machinesOf_84 ?_
        obtain ⟨hc18, hf⟩ := ck_e hf
        refine ke_acmp_ne (x := x6_82) (y := (12 : Int32)) hE hc18 (by decide +kernel) (tgt := 121) hx hb dX8_machinesOf_87 (by decide) (fun hb26 => ?_) (fun hb26 => ?_)
        · have hf := (if_neg hb26).symm.trans hf
          exact h_121 x3_82 x4_82 x5_82 x6_82 N_82 ls _ _ hl hP hD hS hf
        · have hf := (if_pos hb26).symm.trans hf
          refine lv_iload hx hb dX8_machinesOf_90 (lv_at hl 4 rfl) ?_
          refine lv_iconst (v := 2) hx hb dX8_machinesOf_92 (by decide) ?_
          refine lv_icmp_lt (tgt := 121) hx hb dX8_machinesOf_93 (by decide) (fun hb25 => ?_) (fun hb25 => ?_)
          · have hf := (if_pos hb25).symm.trans hf
            exact h_121 x3_82 x4_82 x5_82 x6_82 N_82 ls _ _ hl hP hD hS hf
          · have hf := (if_neg hb25).symm.trans hf
            obtain ⟨v19, ev19, hf⟩ := bd1_e hf
            refine lv_iinc (k := 4) (x := x4_82) (v := v19) (nL := 7) (lv' := [(4, .int v19), (0, .ref (raN 0)), (1, .ref (raO 0)), (2, .ref (raS 0)), (3, .int x3_82), (5, .int x5_82), (6, .ref (ad x6_82.toNatClampNeg))]) hx hb dX8_machinesOf_96 hl rfl (kt_inc (w := (-1)) (by decide) ev19) (by decide) rfl (fun ls hl => ?_)
            refine lv_aload_n hx hb dX8_machinesOf_99 rfl (lv_at hl 1 rfl) ?_
            refine va_get (D := (dC, dI)) (ci := 9) (C := RX8) (T := TX8) (N := 6) hx hb hts hinX8 hown hK hP 0 rfl rfl 5 (by decide) (v := .ref (raN 5)) k_fieldLink_RX8_24__KeyLetters_Sentence___open____I_ (fun _ h9 => h9) rfl dX8_machinesOf_100 ?_
            refine lv_iload hx hb dX8_machinesOf_103 (lv_at hl 0 rfl) ?_
            refine lv_iconst (v := 1) hx hb dX8_machinesOf_105 (by decide) ?_
            refine lv_isub hx hb dX8_machinesOf_106 ?_
            obtain ⟨v20, ev20, hf⟩ := bd1_e hf
            refine kt_i ev20 ?_
            refine lv_dup2_11 hx hb dX8_machinesOf_107 rfl rfl ?_
            obtain ⟨hc21, hf⟩ := ck_e hf
            refine va_iald hx hb hK hP 4 1 rfl rfl hc21 dX8_machinesOf_108 ?_
            refine lv_aload_n hx hb dX8_machinesOf_109 rfl (lv_at hl 1 rfl) ?_
            refine va_get (D := (dC, dI)) (ci := 9) (C := RX8) (T := TX8) (N := 6) hx hb hts hinX8 hown hK hP 0 rfl rfl 5 (by decide) (v := .ref (raN 5)) k_fieldLink_RX8_24__KeyLetters_Sentence___open____I_ (fun _ h9 => h9) rfl dX8_machinesOf_110 ?_
            refine lv_iload hx hb dX8_machinesOf_113 (lv_at hl 0 rfl) ?_
            obtain ⟨hc22, hf⟩ := ck_e hf
            refine va_iald hx hb hK hP 4 1 rfl rfl hc22 dX8_machinesOf_115 ?_
            refine lv_iand hx hb dX8_machinesOf_116 ?_
            obtain ⟨hc23, hf⟩ := ck_e hf
            obtain ⟨Nv24, eNv24, hf⟩ := bd1_e hf
            refine va_iast hx hb hK hP hD hS 4 1 rfl rfl hc23 dX8_machinesOf_117 (fun H locs hP hD hS => ?_)
            have hP : va_P (dC, dI) vwCl (ww_X8_machinesOf cs ad raN raO raS Nv24 O S) H := g_toP (by rw [eNv24]; rfl) hP
            have hD : va_D (va_A (ww_X8_machinesOf cs ad raN raO raS zD zD zD) s.heap.size) (ww_X8_machinesOf cs ad raN raO raS Nv24 O S) := g_toD (by rw [eNv24]; rfl) hD
            refine lv_goto (tgt := 188) hx hb dX8_machinesOf_118 (by decide) ?_
            exact h_188 x3_82 v19 x5_82 Nv24 ls _ _ (lv_sub hl [1, 2, 3, 4, 0, 5] rfl) hP hD hS hf
      refine lv_iload hx hb dX8_machinesOf_15 (lv_at hl 5 rfl) ?_
      refine lv_aload_n hx hb dX8_machinesOf_17 rfl (lv_at hl 0 rfl) ?_
      refine va_get (D := (dC, dI)) (ci := 9) (C := RX8) (T := TX8) (N := 6) hx hb hts hinX8 hown hK hP 0 rfl rfl 1 (by decide) (v := .int (N_15.1 0 1)) k_fieldLink_RX8_27__KeyLetters_Sentence___size___I_ (fun _ h9 => h9) rfl dX8_machinesOf_18 ?_
      refine lv_icmp_ge (tgt := 194) hx hb dX8_machinesOf_21 (by decide) (fun hb36 => ?_) (fun hb36 => ?_)
      · have hf := (if_pos hb36).symm.trans hf
        exact h_194 x4_15 N_15 ls _ _ (lv_sub hl [0, 4] rfl) hP hD hS hf
      · have hf := (if_neg hb36).symm.trans hf
        refine lv_iload hx hb dX8_machinesOf_24 (lv_at hl 5 rfl) ?_
        refine lv_aload_n hx hb dX8_machinesOf_26 rfl (lv_at hl 0 rfl) ?_
        refine va_get (D := (dC, dI)) (ci := 9) (C := RX8) (T := TX8) (N := 6) hx hb hts hinX8 hown hK hP 0 rfl rfl 2 (by decide) (v := .ref (raN 2)) knk_RX8_13__KeyLetters_Sentence___words____LKeyLetters_Word__ (fun _ h9 => h9) rfl dX8_machinesOf_27 ?_
        refine va_alen hx hb hK hP 1 4 rfl rfl (v := (40 : Int32)) rfl dX8_machinesOf_30 ?_
        refine lv_icmp_ge (tgt := 194) hx hb dX8_machinesOf_31 (by decide) (fun hb35 => ?_) (fun hb35 => ?_)
        · have hf := (if_pos hb35).symm.trans hf
          exact h_194 x4_15 N_15 ls _ _ (lv_sub hl [0, 4] rfl) hP hD hS hf
        · have hf := (if_neg hb35).symm.trans hf
          refine lv_aload_n hx hb dX8_machinesOf_34 rfl (lv_at hl 0 rfl) ?_
          refine va_get (D := (dC, dI)) (ci := 9) (C := RX8) (T := TX8) (N := 6) hx hb hts hinX8 hown hK hP 0 rfl rfl 2 (by decide) (v := .ref (raN 2)) knk_RX8_13__KeyLetters_Sentence___words____LKeyLetters_Word__ (fun _ h9 => h9) rfl dX8_machinesOf_35 ?_
          refine lv_iload hx hb dX8_machinesOf_38 (lv_at hl 5 rfl) ?_
          obtain ⟨hc27, hf⟩ := ck_e hf
          refine va_aldq hx hb hK hP 1 4 rfl rfl hc27 dX8_machinesOf_40 ?_
          obtain ⟨hc28, hf⟩ := ck_e hf
          rw [kW_in ad hc28]
          refine lv_astore (nL := 7) (lv' := [(6, .ref (ad (N_15.1 2 x5_15.toNatClampNeg).toNatClampNeg)), (0, .ref (raN 0)), (1, .ref (raO 0)), (2, .ref (raS 0)), (3, .int x3_15), (4, .int x4_15), (5, .int x5_15)]) hx hb dX8_machinesOf_41 hl (by decide) rfl (fun ls hl => ?_)
          refine lv_aload hx hb dX8_machinesOf_43 (lv_at hl 0 rfl) ?_
          refine va_gets hx hb (show va_Z "KeyLetters$Word" "NOT" "LKeyLetters$Word;" (.ref (ad 13)) _ s s.heap from (hE.1.1 13 (by decide)).1) hS hown kfieldLink_RX8_88__KeyLetters_Word___NOT___LKeyLetters_Word__ (fun _ h9 => h9) dX8_machinesOf_45 ?_
          refine ke_acmp_ne (x := (N_15.1 2 x5_15.toNatClampNeg)) (y := (13 : Int32)) hE hc28 (by decide +kernel) (tgt := 82) hx hb dX8_machinesOf_48 (by decide) (fun hb34 => ?_) (fun hb34 => ?_)
          · have hf := (if_neg hb34).symm.trans hf
            exact h_82 x3_15 x4_15 x5_15 (N_15.1 2 x5_15.toNatClampNeg) N_15 ls _ _ (lv_sub hl [1, 2, 3, 4, 5, 6, 0] rfl) hP hD hS hf
          · have hf := (if_pos hb34).symm.trans hf
            refine lv_iload hx hb dX8_machinesOf_51 (lv_at hl 5 rfl) ?_
            refine lv_iconst (v := 1) hx hb dX8_machinesOf_53 (by decide) ?_
            refine lv_icmp_lt (tgt := 82) hx hb dX8_machinesOf_54 (by decide) (fun hb33 => ?_) (fun hb33 => ?_)
            · have hf := (if_pos hb33).symm.trans hf
              exact h_82 x3_15 x4_15 x5_15 (N_15.1 2 x5_15.toNatClampNeg) N_15 ls _ _ (lv_sub hl [1, 2, 3, 4, 5, 6, 0] rfl) hP hD hS hf
            · have hf := (if_neg hb33).symm.trans hf
              refine lv_aload_n hx hb dX8_machinesOf_57 rfl (lv_at hl 1 rfl) ?_
              refine va_get (D := (dC, dI)) (ci := 9) (C := RX8) (T := TX8) (N := 6) hx hb hts hinX8 hown hK hP 0 rfl rfl 5 (by decide) (v := .ref (raN 5)) k_fieldLink_RX8_24__KeyLetters_Sentence___open____I_ (fun _ h9 => h9) rfl dX8_machinesOf_58 ?_
              refine lv_iload hx hb dX8_machinesOf_61 (lv_at hl 5 rfl) ?_
              refine lv_iconst (v := 1) hx hb dX8_machinesOf_63 (by decide) ?_
              refine lv_isub hx hb dX8_machinesOf_64 ?_
              refine lv_iload_n hx hb dX8_machinesOf_65 rfl (lv_at hl 4 rfl) ?_
              refine lv_aload_n hx hb dX8_machinesOf_66 rfl (lv_at hl 1 rfl) ?_
              refine va_get (D := (dC, dI)) (ci := 9) (C := RX8) (T := TX8) (N := 6) hx hb hts hinX8 hown hK hP 0 rfl rfl 5 (by decide) (v := .ref (raN 5)) k_fieldLink_RX8_24__KeyLetters_Sentence___open____I_ (fun _ h9 => h9) rfl dX8_machinesOf_67 ?_
              refine lv_iload hx hb dX8_machinesOf_70 (lv_at hl 5 rfl) ?_
              refine lv_iconst (v := 1) hx hb dX8_machinesOf_72 (by decide) ?_
              refine lv_isub hx hb dX8_machinesOf_73 ?_
              obtain ⟨v29, ev29, hf⟩ := bd1_e hf
              refine kt_i ev29 ?_
              obtain ⟨hc30, hf⟩ := ck_e hf
              refine va_iald hx hb hK hP 4 1 rfl rfl hc30 dX8_machinesOf_74 ?_
              refine lv_iconst (v := -1) hx hb dX8_machinesOf_75 (by decide) ?_
              refine lv_ixor hx hb dX8_machinesOf_76 ?_
              refine lv_iand hx hb dX8_machinesOf_77 ?_
              obtain ⟨hc31, hf⟩ := ck_e hf
              obtain ⟨Nv32, eNv32, hf⟩ := bd1_e hf
              refine va_iast hx hb hK hP hD hS 4 1 rfl rfl hc31 dX8_machinesOf_78 (fun H locs hP hD hS => ?_)
              have hP : va_P (dC, dI) vwCl (ww_X8_machinesOf cs ad raN raO raS Nv32 O S) H := g_toP (by rw [eNv32]; rfl) hP
              have hD : va_D (va_A (ww_X8_machinesOf cs ad raN raO raS zD zD zD) s.heap.size) (ww_X8_machinesOf cs ad raN raO raS Nv32 O S) := g_toD (by rw [eNv32]; rfl) hD
              refine lv_goto (tgt := 188) hx hb dX8_machinesOf_79 (by decide) ?_
              exact h_188 x3_15 x4_15 x5_15 Nv32 ls _ _ (lv_sub hl [1, 2, 3, 4, 5, 6] rfl) hP hD hS hf) 2000
  refine lv_iconst (v := 1) hx hb dX8_machinesOf_0 (by decide) ?_
  refine lv_aload_n hx hb dX8_machinesOf_1 rfl (lv_at hl 1 rfl) ?_
  refine va_getN (D := (dC, dI)) (ci := 4) (C := RX3) (T := TX3) (N := 11) hx hb hts hinX3 hown hK hP 5 rfl rfl 1 (by decide) (v := .int (O.1 0 1)) (va_Nw.use rfl (hN _ (List.mem_of_getElem? (i := 12) rfl))) (fun _ h9 => h9) rfl dX8_machinesOf_2 ?_
  refine lv_ishl hx hb dX8_machinesOf_5 ?_
  refine lv_iconst (v := 1) hx hb dX8_machinesOf_6 (by decide) ?_
  refine lv_isub hx hb dX8_machinesOf_7 ?_
  obtain ⟨v37, ev37, hf⟩ := bd1_e hf
  refine kt_i ev37 ?_
  refine lv_istore_n (nL := 7) (lv' := [(3, .int v37), (0, .ref (raN 0)), (1, .ref (raO 0)), (2, .ref (raS 0))]) hx hb dX8_machinesOf_8 rfl hl (by decide) rfl (fun ls hl => ?_)
  refine lv_iconst (v := 0) hx hb dX8_machinesOf_9 (by decide) ?_
  refine lv_istore (nL := 7) (lv' := [(4, .int (0 : Int32)), (3, .int v37), (0, .ref (raN 0)), (1, .ref (raO 0)), (2, .ref (raS 0))]) hx hb dX8_machinesOf_10 hl (by decide) rfl (fun ls hl => ?_)
  refine lv_iconst (v := 0) hx hb dX8_machinesOf_12 (by decide) ?_
  refine lv_istore (nL := 7) (lv' := [(5, .int (0 : Int32)), (4, .int (0 : Int32)), (3, .int v37), (0, .ref (raN 0)), (1, .ref (raO 0)), (2, .ref (raS 0))]) hx hb dX8_machinesOf_13 hl (by decide) rfl (fun ls hl => ?_)
  exact h_15 v37 (0 : Int32) (0 : Int32) N ls _ _ (lv_sub hl [3, 4, 5, 2, 1, 0] rfl) hP hD hS hf

