theorem c6x {i : Nat} (h : i < 6) : i = 0 ∨ i = 1 ∨ i = 2 ∨ i = 3 ∨ i = 4 ∨ i = 5 := by omega
theorem c9x {i : Nat} (h : i < 9) : i = 0 ∨ i = 1 ∨ i = 2 ∨ i = 3 ∨ i = 4 ∨ i = 5 ∨ i = 6 ∨ i = 7 ∨ i = 8 := by omega
theorem c11x {i : Nat} (h : i < 11) : i = 0 ∨ i = 1 ∨ i = 2 ∨ i = 3 ∨ i = 4 ∨ i = 5 ∨ i = 6 ∨ i = 7 ∨ i = 8 ∨ i = 9 ∨ i = 10 := by omega
abbrev rm_X7_init : Room := { frames := 2, cells := 18, slots := 270, locals := 32 }
set_option maxHeartbeats 8000000 in
set_option maxRecDepth 100000 in
theorem c_X7_init (l : Launch) (dC : Nat → ClassId) (dI : Nat → Nat → Nat) (cs : Nat → ClassId) (ad : Nat → Nat) (h : Nat) (sz : Nat) : Met l yX7_init wsX7_init rm_X7_init (va_Pc [.ref h] (fun U => cPw dC dI cs sz [(h, .inr (8, [.null, .null, .null]))] U ∧ kAO U ∧ kE ad (va_A [(h, .inr (8, [.null, .null, .null]))] sz) U U.heap)) (cQn dC dI cs (va_A [(h, .inr (8, [.null, .null, .null]))] sz) (fun ra => ra 0 = h) (fun ra => wX7 cs ad ra (ra 1000) (ra 2000) (ra 3000) zD ++ (wX3 cs ad (fun k => ra (1000 + k)) iX3 ++ (wX9 cs ad (fun k => ra (2000 + k)) iX9 ++ wX8 cs ad (fun k => ra (3000 + k)) iX8)))) 18 270 (va_A [(h, .inr (8, [.null, .null, .null]))] sz) := by
  refine Met.ofW (cc := cX7_init) (maxL := 1) (ret := none) (by decide) rfl ?_
  intro p e s m args below meth c s₁ B hml hv
  obtain ⟨hav, ⟨hsz, hP, hK, hD0, hN⟩, hAO, hE⟩ := hv
  have hx := B.exec
  have hb := B.bytes
  have hr := B.returns
  have hts := atoms_spec (ws := wsX7_init) B.pre
  have hown : s.vm.findClass RX7 = some m.cls := findClass_of_methodNamed B.named
  have hlocks := B.notSynchronized
  have hmi : meth.name = "<init>" := (name_of_methodNamed B.named B.method).1
  subst hsz
  have hA : ∀ q, s.heap.size ≤ q → va_A [(h, .inr (8, [.null, .null, .null]))] s.heap.size q := fun q h => Or.inr h
  have hD : va_D (va_A [(h, .inr (8, [.null, .null, .null]))] s.heap.size) [(h, .inr (8, [.null, .null, .null]))] := hD0.self
  have hS : va_S (va_A [(h, .inr (8, [.null, .null, .null]))] s.heap.size) s.heap s.heap [] := va_S.rf
  have k_methodLink_RX7_1_objectInit := hts (.methodLink RX7 1 objectInit) (by decide +kernel)
  have k_instanceMethod_objectInit := hts (.instanceMethod objectInit) (by decide +kernel)
  have k_code_objectInit____0xb1___1_none := hts (.code objectInit ⟨#[0xb1]⟩ 1 none) (by decide +kernel)
  have kink_RX7_10__KeyLetters_Scene___office___LKeyLetters_Office__ := hts (.fieldLink RX7 10 "KeyLetters$Scene" "office" "LKeyLetters$Office;") (by decide +kernel)
  have kdLink_RX7_19__KeyLetters_Scene___state___LKeyLetters_State__ := hts (.fieldLink RX7 19 "KeyLetters$Scene" "state" "LKeyLetters$State;") (by decide +kernel)
  have kRX7_26__KeyLetters_Scene___sentence___LKeyLetters_Sentence__ := hts (.fieldLink RX7 26 "KeyLetters$Scene" "sentence" "LKeyLetters$Sentence;") (by decide +kernel)
  have hl := lv_entry ([.ref h]) (n := 1) (Nat.le_of_ble_eq_true rfl)
  rw [show entryFrame m args 1 = entryFrame m ([.ref h] : List Value).toArray 1 from by rw [hav], lg_entry_eq]
  generalize (lg_sl ([.ref h]) ++ List.replicate (1 - (lg_sl ([.ref h])).length) Slot.unset).toArray = ls at hl ⊢
  have hl : lv_has ls 1 [(0, .ref h)] := hl
  refine lv_aload_n hx hb dX7_init_0 rfl (lv_at hl 0 rfl) ?_
  refine W.objInit hx hb hown k_methodLink_RX7_1_objectInit k_instanceMethod_objectInit k_code_objectInit____0xb1___1_none rfl (by rw [hml]; exact hl.1) rfl dX7_init_1 (Nat.le_of_ble_eq_true rfl) (Nat.le_of_ble_eq_true rfl) ?_
  refine W.eq (g2 := F0 m 4 ls []) rfl ?_
  refine lv_aload_n hx hb dX7_init_4 rfl (lv_at hl 0 rfl) ?_
  refine g_mk (ad := ad) (C := RX3) (T := TX3) (N := 11) (ci := 4) (fs := [.int 0, .int 0, .int 0, .int 0, .null, .null, .null, .null, .null, .null, .null]) (y := yX3_init) (host := "KeyLetters") (w := fun ra => wX3 cs ad ra iX3) ⟨hx, hb, hml, hown, hts⟩ (by decide +kernel) tyX3 tyX3_ok (hts (.classLink RX7 7 RX3) (by decide +kernel)) (hts (.instantiable RX3 11) (by decide +kernel)) (hts (.initialized RX3) (by decide +kernel)) hK hN hAO hE hP hD hS hA rfl (fun j hj => by rcases c11x hj with rfl | rfl | rfl | rfl | rfl | rfl | rfl | rfl | rfl | rfl | rfl <;> rfl) (Nat.le_of_ble_eq_true rfl) (Nat.le_of_ble_eq_true rfl) dX7_init_5 dX7_init_8 dX7_init_9 (fun q sz => c_X3_init l dC dI cs ad q sz) ⟨va_cnB 0 hts gX7_init_X3_init_n9 rfl rfl rfl (hN _ (List.mem_of_getElem? (i := 9) rfl)) (hts (.initialized RX3) (by decide +kernel)) (by decide +kernel) ⟨Nat.le_of_ble_eq_true rfl, Nat.le_of_ble_eq_true rfl⟩, rfl, hts (.instanceMethod yX3_init) (by decide +kernel)⟩ hl.1 (fun q => lv_room (Nat.le_of_ble_eq_true rfl)) ⟨Nat.le_of_ble_eq_true rfl, Nat.le_of_ble_eq_true rfl⟩ (fun ra1 H locs hP hD hS => ?_)
  have hP : va_P (dC, dI) vwCl ([(h, .inr (8, [.null, .null, .null]))] ++ (wX3 cs ad ra1 iX3)) H := hP
  have hD : va_D (va_A [(h, .inr (8, [.null, .null, .null]))] s.heap.size) ([(h, .inr (8, [.null, .null, .null]))] ++ (wX3 cs ad ra1 iX3)) := hD
  refine va_putF (D := (dC, dI)) (ci := 8) (v := .ref (ra1 0)) (ty := .object "KeyLetters$Office") (C := RX7) (T := TX7) (N := 3) hx hb hts (by decide +kernel) tyX7 tyX7_ok nmX7 hown hK hP hD hS 0 rfl rfl 0 (by decide) kink_RX7_10__KeyLetters_Scene___office___LKeyLetters_Office__ (fun _ h9 => h9) rfl hmi rfl (by decide +kernel) rfl rfl (Nat.le_of_ble_eq_true rfl) dX7_init_12 (fun H locs hP hD hS => ?_)
  have hP : va_P (dC, dI) vwCl ([(h, .inr (8, [.ref (ra1 0), .null, .null]))] ++ (wX3 cs ad ra1 iX3)) H := hP
  have hD : va_D (va_A [(h, .inr (8, [.null, .null, .null]))] s.heap.size) ([(h, .inr (8, [.ref (ra1 0), .null, .null]))] ++ (wX3 cs ad ra1 iX3)) := hD
  refine lv_aload_n hx hb dX7_init_15 rfl (lv_at hl 0 rfl) ?_
  refine g_mk (ad := ad) (C := RX9) (T := TX9) (N := 9) (ci := 10) (fs := [.int 0, .int 0, .int 0, .int 0, .int 0, .null, .null, .null, .null]) (y := yX9_init) (host := "KeyLetters") (w := fun ra => wX9 cs ad ra iX9) ⟨hx, hb, hml, hown, hts⟩ (by decide +kernel) tyX9 tyX9_ok (hts (.classLink RX7 16 RX9) (by decide +kernel)) (hts (.instantiable RX9 9) (by decide +kernel)) (hts (.initialized RX9) (by decide +kernel)) hK hN hAO hE hP hD hS hA rfl (fun j hj => by rcases c9x hj with rfl | rfl | rfl | rfl | rfl | rfl | rfl | rfl | rfl <;> rfl) (Nat.le_of_ble_eq_true rfl) (Nat.le_of_ble_eq_true rfl) dX7_init_16 dX7_init_19 dX7_init_20 (fun q sz => c_X9_init l dC dI cs ad q sz) ⟨va_cnB 0 hts gX7_init_X9_init_n18 rfl rfl rfl (hN _ (List.mem_of_getElem? (i := 33) rfl)) (hts (.initialized RX9) (by decide +kernel)) (by decide +kernel) ⟨Nat.le_of_ble_eq_true rfl, Nat.le_of_ble_eq_true rfl⟩, rfl, hts (.instanceMethod yX9_init) (by decide +kernel)⟩ hl.1 (fun q => lv_room (Nat.le_of_ble_eq_true rfl)) ⟨Nat.le_of_ble_eq_true rfl, Nat.le_of_ble_eq_true rfl⟩ (fun ra3 H locs hP hD hS => ?_)
  have hP : va_P (dC, dI) vwCl (([(h, .inr (8, [.ref (ra1 0), .null, .null]))] ++ (wX3 cs ad ra1 iX3)) ++ (wX9 cs ad ra3 iX9)) H := hP
  have hD : va_D (va_A [(h, .inr (8, [.null, .null, .null]))] s.heap.size) (([(h, .inr (8, [.ref (ra1 0), .null, .null]))] ++ (wX3 cs ad ra1 iX3)) ++ (wX9 cs ad ra3 iX9)) := hD
  refine va_putF (D := (dC, dI)) (ci := 8) (v := .ref (ra3 0)) (ty := .object "KeyLetters$State") (C := RX7) (T := TX7) (N := 3) hx hb hts (by decide +kernel) tyX7 tyX7_ok nmX7 hown hK hP hD hS 0 rfl rfl 1 (by decide) kdLink_RX7_19__KeyLetters_Scene___state___LKeyLetters_State__ (fun _ h9 => h9) rfl hmi rfl (by decide +kernel) rfl rfl (Nat.le_of_ble_eq_true rfl) dX7_init_23 (fun H locs hP hD hS => ?_)
  have hP : va_P (dC, dI) vwCl (([(h, .inr (8, [.ref (ra1 0), .ref (ra3 0), .null]))] ++ (wX3 cs ad ra1 iX3)) ++ (wX9 cs ad ra3 iX9)) H := hP
  have hD : va_D (va_A [(h, .inr (8, [.null, .null, .null]))] s.heap.size) (([(h, .inr (8, [.ref (ra1 0), .ref (ra3 0), .null]))] ++ (wX3 cs ad ra1 iX3)) ++ (wX9 cs ad ra3 iX9)) := hD
  refine lv_aload_n hx hb dX7_init_26 rfl (lv_at hl 0 rfl) ?_
  refine g_mk (ad := ad) (C := RX8) (T := TX8) (N := 6) (ci := 9) (fs := [.int 0, .int 0, .null, .null, .null, .null]) (y := yX8_init) (host := "KeyLetters") (w := fun ra => wX8 cs ad ra iX8) ⟨hx, hb, hml, hown, hts⟩ (by decide +kernel) tyX8 tyX8_ok (hts (.classLink RX7 23 RX8) (by decide +kernel)) (hts (.instantiable RX8 6) (by decide +kernel)) (hts (.initialized RX8) (by decide +kernel)) hK hN hAO hE hP hD hS hA rfl (fun j hj => by rcases c6x hj with rfl | rfl | rfl | rfl | rfl | rfl <;> rfl) (Nat.le_of_ble_eq_true rfl) (Nat.le_of_ble_eq_true rfl) dX7_init_27 dX7_init_30 dX7_init_31 (fun q sz => c_X8_init l dC dI cs ad q sz) ⟨va_cnB 0 hts gX7_init_X8_init_n25 rfl rfl rfl (hN _ (List.mem_of_getElem? (i := 48) rfl)) (hts (.initialized RX8) (by decide +kernel)) (by decide +kernel) ⟨Nat.le_of_ble_eq_true rfl, Nat.le_of_ble_eq_true rfl⟩, rfl, hts (.instanceMethod yX8_init) (by decide +kernel)⟩ hl.1 (fun q => lv_room (Nat.le_of_ble_eq_true rfl)) ⟨Nat.le_of_ble_eq_true rfl, Nat.le_of_ble_eq_true rfl⟩ (fun ra5 H locs hP hD hS => ?_)
  have hP : va_P (dC, dI) vwCl ((([(h, .inr (8, [.ref (ra1 0), .ref (ra3 0), .null]))] ++ (wX3 cs ad ra1 iX3)) ++ (wX9 cs ad ra3 iX9)) ++ (wX8 cs ad ra5 iX8)) H := hP
  have hD : va_D (va_A [(h, .inr (8, [.null, .null, .null]))] s.heap.size) ((([(h, .inr (8, [.ref (ra1 0), .ref (ra3 0), .null]))] ++ (wX3 cs ad ra1 iX3)) ++ (wX9 cs ad ra3 iX9)) ++ (wX8 cs ad ra5 iX8)) := hD
  refine va_putF (D := (dC, dI)) (ci := 8) (v := .ref (ra5 0)) (ty := .object "KeyLetters$Sentence") (C := RX7) (T := TX7) (N := 3) hx hb hts (by decide +kernel) tyX7 tyX7_ok nmX7 hown hK hP hD hS 0 rfl rfl 2 (by decide) kRX7_26__KeyLetters_Scene___sentence___LKeyLetters_Sentence__ (fun _ h9 => h9) rfl hmi rfl (by decide +kernel) rfl rfl (Nat.le_of_ble_eq_true rfl) dX7_init_34 (fun H locs hP hD hS => ?_)
  have hP : va_P (dC, dI) vwCl ((([(h, .inr (8, [.ref (ra1 0), .ref (ra3 0), .ref (ra5 0)]))] ++ (wX3 cs ad ra1 iX3)) ++ (wX9 cs ad ra3 iX9)) ++ (wX8 cs ad ra5 iX8)) H := hP
  have hD : va_D (va_A [(h, .inr (8, [.null, .null, .null]))] s.heap.size) ((([(h, .inr (8, [.ref (ra1 0), .ref (ra3 0), .ref (ra5 0)]))] ++ (wX3 cs ad ra1 iX3)) ++ (wX9 cs ad ra3 iX9)) ++ (wX8 cs ad ra5 iX8)) := hD
  obtain ⟨ra, hra⟩ : ∃ z : Nat → Nat, z = (fun k => if k < 1000 then h else if k < 2000 then ra1 (k - 1000) else if k < 3000 then ra3 (k - 2000) else ra5 (k - 3000)) := ⟨_, rfl⟩
  have hP9 : va_P (dC, dI) vwCl (wX7 cs ad ra (ra 1000) (ra 2000) (ra 3000) zD ++ (wX3 cs ad (fun k => ra (1000 + k)) iX3 ++ (wX9 cs ad (fun k => ra (2000 + k)) iX9 ++ wX8 cs ad (fun k => ra (3000 + k)) iX8))) H := hP.sub [0, 1, 2, 3, 4, 5, 6, 7, 8, 9, 10, 11, 12, 13, 14, 15, 16, 17, 18] (by rw [hra]; rfl)
  have hD9 : va_D (va_A [(h, .inr (8, [.null, .null, .null]))] s.heap.size) (wX7 cs ad ra (ra 1000) (ra 2000) (ra 3000) zD ++ (wX3 cs ad (fun k => ra (1000 + k)) iX3 ++ (wX9 cs ad (fun k => ra (2000 + k)) iX9 ++ wX8 cs ad (fun k => ra (3000 + k)) iX8))) := hD.sub [0, 1, 2, 3, 4, 5, 6, 7, 8, 9, 10, 11, 12, 13, 14, 15, 16, 17, 18] rfl (by rw [hra]; rfl)
  exact W.vret hx hb hr (fun t ht hW => ⟨⟨ra, rfl, show ra 0 = h by rw [hra]; rfl, by rw [ht]; exact hP9, va_K.moved hW.alike hK, hD9⟩, hS.F ht⟩) hS.2.2 dX7_init_37
