def iX1 : kD := (fun a k => 0, fun _ _ => 0)
abbrev rm_X1_init : Room := { frames := 1, cells := 0, slots := 0, locals := 12 }
set_option maxHeartbeats 4000000 in
set_option maxRecDepth 100000 in
theorem c_X1_init (l : Launch) (dC : Nat → ClassId) (dI : Nat → Nat → Nat) (cs : Nat → ClassId) (ad : Nat → Nat) (h : Nat) (sz : Nat) : Met l yX1_init wsX1_init rm_X1_init (va_Pc [.ref h] (fun U => cPw dC dI cs sz [(h, .inr (2, [.int 0]))] U ∧ kAO U ∧ kE ad (va_A [(h, .inr (2, [.int 0]))] sz) U U.heap)) (cQn dC dI cs (va_A [(h, .inr (2, [.int 0]))] sz) (fun ra => ra 0 = h) (fun ra => wX1 cs ad ra iX1)) 0 0 (va_A [(h, .inr (2, [.int 0]))] sz) := by
  refine Met.ofW (cc := cX1_init) (maxL := 1) (ret := none) (by decide) rfl ?_
  intro p e s m args below meth c s₁ B hml hv
  obtain ⟨hav, ⟨hsz, hP, hK, hD0, hN⟩, hAO, hE⟩ := hv
  have hx := B.exec
  have hb := B.bytes
  have hr := B.returns
  have hts := atoms_spec (ws := wsX1_init) B.pre
  have hown : s.vm.findClass RX1 = some m.cls := findClass_of_methodNamed B.named
  have hlocks := B.notSynchronized
  have hmi : meth.name = "<init>" := (name_of_methodNamed B.named B.method).1
  subst hsz
  have hA : ∀ q, s.heap.size ≤ q → va_A [(h, .inr (2, [.int 0]))] s.heap.size q := fun q h => Or.inr h
  have hD : va_D (va_A [(h, .inr (2, [.int 0]))] s.heap.size) [(h, .inr (2, [.int 0]))] := hD0.self
  have hS : va_S (va_A [(h, .inr (2, [.int 0]))] s.heap.size) s.heap s.heap [] := va_S.rf
  have k_methodLink_RX1_1_objectInit := hts (.methodLink RX1 1 objectInit) (by decide +kernel)
  have k_instanceMethod_objectInit := hts (.instanceMethod objectInit) (by decide +kernel)
  have hl := lv_entry ([.ref h]) (n := 1) (Nat.le_of_ble_eq_true rfl)
  rw [show entryFrame m args 1 = entryFrame m ([.ref h] : List Value).toArray 1 from by rw [hav], lg_entry_eq]
  generalize (lg_sl ([.ref h]) ++ List.replicate (1 - (lg_sl ([.ref h])).length) Slot.unset).toArray = ls at hl ⊢
  have hl : lv_has ls 1 [(0, .ref h)] := hl
  refine lv_aload_n hx hb dX1_init_0 rfl (lv_at hl 0 rfl) ?_
  refine W.objInit hx hb hown k_methodLink_RX1_1_objectInit k_instanceMethod_objectInit (hts (.code objectInit ⟨#[0xb1]⟩ 1 none) (by decide +kernel)) rfl (by rw [hml]; exact hl.1) rfl dX1_init_1 (Nat.le_of_ble_eq_true rfl) (Nat.le_of_ble_eq_true rfl) ?_
  refine W.eq (g2 := F0 m 4 ls []) rfl ?_
  obtain ⟨ra, hra⟩ : ∃ z : Nat → Nat, z = (fun k => match k with | 0 => h  | _ => 0) := ⟨_, rfl⟩
  have hP9 : va_P (dC, dI) vwCl (wX1 cs ad ra iX1) s.heap := hP.sub [0] (by rw [hra]; rfl)
  have hD9 : va_D (va_A [(h, .inr (2, [.int 0]))] s.heap.size) (wX1 cs ad ra iX1) := hD.sub [0] rfl (by rw [hra]; rfl)
  exact W.vret hx hb hr (fun t ht hW => ⟨⟨ra, rfl, show ra 0 = h by rw [hra]; rfl, by rw [ht]; exact hP9, va_K.moved hW.alike hK, hD9⟩, hS.F ht⟩) hS.2.2 dX1_init_4
def iX0 : kD := (fun a k => 0, fun _ _ => 0)
abbrev rm_X0_init : Room := { frames := 1, cells := 3, slots := 120, locals := 12 }
set_option maxHeartbeats 4000000 in
set_option maxRecDepth 100000 in
theorem c_X0_init (l : Launch) (dC : Nat → ClassId) (dI : Nat → Nat → Nat) (cs : Nat → ClassId) (ad : Nat → Nat) (h : Nat) (sz : Nat) : Met l yX0_init wsX0_init rm_X0_init (va_Pc [.ref h] (fun U => cPw dC dI cs sz [(h, .inr (1, [.int 0, .int 0, .int 0, .null, .null, .null]))] U ∧ kAO U ∧ kE ad (va_A [(h, .inr (1, [.int 0, .int 0, .int 0, .null, .null, .null]))] sz) U U.heap)) (cQn dC dI cs (va_A [(h, .inr (1, [.int 0, .int 0, .int 0, .null, .null, .null]))] sz) (fun ra => ra 0 = h) (fun ra => wX0 cs ad ra iX0)) 3 120 (va_A [(h, .inr (1, [.int 0, .int 0, .int 0, .null, .null, .null]))] sz) := by
  refine Met.ofW (cc := cX0_init) (maxL := 1) (ret := none) (by decide) rfl ?_
  intro p e s m args below meth c s₁ B hml hv
  obtain ⟨hav, ⟨hsz, hP, hK, hD0, hN⟩, hAO, hE⟩ := hv
  have hx := B.exec
  have hb := B.bytes
  have hr := B.returns
  have hts := atoms_spec (ws := wsX0_init) B.pre
  have hown : s.vm.findClass RX0 = some m.cls := findClass_of_methodNamed B.named
  have hlocks := B.notSynchronized
  have hmi : meth.name = "<init>" := (name_of_methodNamed B.named B.method).1
  subst hsz
  have hA : ∀ q, s.heap.size ≤ q → va_A [(h, .inr (1, [.int 0, .int 0, .int 0, .null, .null, .null]))] s.heap.size q := fun q h => Or.inr h
  have hD : va_D (va_A [(h, .inr (1, [.int 0, .int 0, .int 0, .null, .null, .null]))] s.heap.size) [(h, .inr (1, [.int 0, .int 0, .int 0, .null, .null, .null]))] := hD0.self
  have hS : va_S (va_A [(h, .inr (1, [.int 0, .int 0, .int 0, .null, .null, .null]))] s.heap.size) s.heap s.heap [] := va_S.rf
  have k_methodLink_RX0_3_objectInit := hts (.methodLink RX0 3 objectInit) (by decide +kernel)
  have k_instanceMethod_objectInit := hts (.instanceMethod objectInit) (by decide +kernel)
  have k_arrayClass__int := hts (.arrayClass .int) (by decide +kernel)
  have k_fieldLink_RX0_11__KeyLetters_Book___acts____I_ := hts (.fieldLink RX0 11 "KeyLetters$Book" "acts" "[I") (by decide +kernel)
  have k_fieldLink_RX0_15__KeyLetters_Book___machines____I_ := hts (.fieldLink RX0 15 "KeyLetters$Book" "machines" "[I") (by decide +kernel)
  have k_fieldLink_RX0_18__KeyLetters_Book___numbers____I_ := hts (.fieldLink RX0 18 "KeyLetters$Book" "numbers" "[I") (by decide +kernel)
  have hl := lv_entry ([.ref h]) (n := 1) (Nat.le_of_ble_eq_true rfl)
  rw [show entryFrame m args 1 = entryFrame m ([.ref h] : List Value).toArray 1 from by rw [hav], lg_entry_eq]
  generalize (lg_sl ([.ref h]) ++ List.replicate (1 - (lg_sl ([.ref h])).length) Slot.unset).toArray = ls at hl ⊢
  have hl : lv_has ls 1 [(0, .ref h)] := hl
  have hin : ∀ w ∈ wsX00, w ∈ wsX0_init := fun w h => List.mem_cons_of_mem _ (List.mem_append_right _ h)
  refine lv_aload_n hx hb dX0_init_0 rfl (lv_at hl 0 rfl) ?_
  refine W.objInit hx hb hown k_methodLink_RX0_3_objectInit k_instanceMethod_objectInit (hts (.code objectInit ⟨#[0xb1]⟩ 1 none) (by decide +kernel)) rfl (by rw [hml]; exact hl.1) rfl dX0_init_1 (Nat.le_of_ble_eq_true rfl) (Nat.le_of_ble_eq_true rfl) ?_
  refine W.eq (g2 := F0 m 4 ls []) rfl ?_
  refine lv_aload_n hx hb dX0_init_4 rfl (lv_at hl 0 rfl) ?_
  refine lv_bipush (v := 40) hx hb dX0_init_5 (by decide) ?_
  refine va_newa (atype := .int) (a0 := (40, .inl (fun _ => 0))) (N' := 40) hx hb k_arrayClass__int (ty := .int) rfl hK hP hD hS hA (fun _ => rfl) (by decide) (by decide +kernel) (Nat.le_of_ble_eq_true rfl) (Nat.le_of_ble_eq_true rfl) (Nat.le_of_ble_eq_true rfl) dX0_init_7 (fun q1 cA H hK2 hP hD hS => ?_)
  have ecA : cA = cs 1 := Option.some.inj (((hK2.2 8 _ rfl).2 : s.vm.findClass _ = some _).symm.trans ((hK.2 1 _ rfl).2 : s.vm.findClass _ = some _))
  subst ecA
  have hP : va_P (dC, dI) vwCl [(h, .inr (1, [.int 0, .int 0, .int 0, .null, .null, .null])), (q1, .inl (cs 1, 40, .inl (fun _ => 0)))] H := hP
  have hD : va_D (va_A [(h, .inr (1, [.int 0, .int 0, .int 0, .null, .null, .null]))] s.heap.size) [(h, .inr (1, [.int 0, .int 0, .int 0, .null, .null, .null])), (q1, .inl (cs 1, 40, .inl (fun _ => 0)))] := hD
  refine va_putF (D := (dC, dI)) (ci := 1) (v := .ref q1) (ty := .array .int) (C := RX0) (T := TX0) (N := 6) hx hb hts hin tyX0 tyX0_ok nmX0 hown hK hP hD hS 0 rfl rfl 3 (by decide) k_fieldLink_RX0_11__KeyLetters_Book___acts____I_ (fun _ h9 => h9) rfl hmi rfl (by decide +kernel) rfl rfl (Nat.le_of_ble_eq_true rfl) dX0_init_9 (fun H locs hP hD hS => ?_)
  have hP : va_P (dC, dI) vwCl [(h, .inr (1, [.int 0, .int 0, .int 0, .ref q1, .null, .null])), (q1, .inl (cs 1, 40, .inl (fun _ => 0)))] H := hP
  have hD : va_D (va_A [(h, .inr (1, [.int 0, .int 0, .int 0, .null, .null, .null]))] s.heap.size) [(h, .inr (1, [.int 0, .int 0, .int 0, .ref q1, .null, .null])), (q1, .inl (cs 1, 40, .inl (fun _ => 0)))] := hD
  refine lv_aload_n hx hb dX0_init_12 rfl (lv_at hl 0 rfl) ?_
  refine lv_bipush (v := 40) hx hb dX0_init_13 (by decide) ?_
  refine va_newa (atype := .int) (a0 := (40, .inl (fun _ => 0))) (N' := 40) hx hb k_arrayClass__int (ty := .int) rfl hK hP hD hS hA (fun _ => rfl) (by decide) (by decide +kernel) (Nat.le_of_ble_eq_true rfl) (Nat.le_of_ble_eq_true rfl) (Nat.le_of_ble_eq_true rfl) dX0_init_15 (fun q2 cA H hK2 hP hD hS => ?_)
  have ecA : cA = cs 1 := Option.some.inj (((hK2.2 8 _ rfl).2 : s.vm.findClass _ = some _).symm.trans ((hK.2 1 _ rfl).2 : s.vm.findClass _ = some _))
  subst ecA
  have hP : va_P (dC, dI) vwCl [(h, .inr (1, [.int 0, .int 0, .int 0, .ref q1, .null, .null])), (q1, .inl (cs 1, 40, .inl (fun _ => 0))), (q2, .inl (cs 1, 40, .inl (fun _ => 0)))] H := hP
  have hD : va_D (va_A [(h, .inr (1, [.int 0, .int 0, .int 0, .null, .null, .null]))] s.heap.size) [(h, .inr (1, [.int 0, .int 0, .int 0, .ref q1, .null, .null])), (q1, .inl (cs 1, 40, .inl (fun _ => 0))), (q2, .inl (cs 1, 40, .inl (fun _ => 0)))] := hD
  refine va_putF (D := (dC, dI)) (ci := 1) (v := .ref q2) (ty := .array .int) (C := RX0) (T := TX0) (N := 6) hx hb hts hin tyX0 tyX0_ok nmX0 hown hK hP hD hS 0 rfl rfl 4 (by decide) k_fieldLink_RX0_15__KeyLetters_Book___machines____I_ (fun _ h9 => h9) rfl hmi rfl (by decide +kernel) rfl rfl (Nat.le_of_ble_eq_true rfl) dX0_init_17 (fun H locs hP hD hS => ?_)
  have hP : va_P (dC, dI) vwCl [(h, .inr (1, [.int 0, .int 0, .int 0, .ref q1, .ref q2, .null])), (q1, .inl (cs 1, 40, .inl (fun _ => 0))), (q2, .inl (cs 1, 40, .inl (fun _ => 0)))] H := hP
  have hD : va_D (va_A [(h, .inr (1, [.int 0, .int 0, .int 0, .null, .null, .null]))] s.heap.size) [(h, .inr (1, [.int 0, .int 0, .int 0, .ref q1, .ref q2, .null])), (q1, .inl (cs 1, 40, .inl (fun _ => 0))), (q2, .inl (cs 1, 40, .inl (fun _ => 0)))] := hD
  refine lv_aload_n hx hb dX0_init_20 rfl (lv_at hl 0 rfl) ?_
  refine lv_bipush (v := 40) hx hb dX0_init_21 (by decide) ?_
  refine va_newa (atype := .int) (a0 := (40, .inl (fun _ => 0))) (N' := 40) hx hb k_arrayClass__int (ty := .int) rfl hK hP hD hS hA (fun _ => rfl) (by decide) (by decide +kernel) (Nat.le_of_ble_eq_true rfl) (Nat.le_of_ble_eq_true rfl) (Nat.le_of_ble_eq_true rfl) dX0_init_23 (fun q3 cA H hK2 hP hD hS => ?_)
  have ecA : cA = cs 1 := Option.some.inj (((hK2.2 8 _ rfl).2 : s.vm.findClass _ = some _).symm.trans ((hK.2 1 _ rfl).2 : s.vm.findClass _ = some _))
  subst ecA
  have hP : va_P (dC, dI) vwCl [(h, .inr (1, [.int 0, .int 0, .int 0, .ref q1, .ref q2, .null])), (q1, .inl (cs 1, 40, .inl (fun _ => 0))), (q2, .inl (cs 1, 40, .inl (fun _ => 0))), (q3, .inl (cs 1, 40, .inl (fun _ => 0)))] H := hP
  have hD : va_D (va_A [(h, .inr (1, [.int 0, .int 0, .int 0, .null, .null, .null]))] s.heap.size) [(h, .inr (1, [.int 0, .int 0, .int 0, .ref q1, .ref q2, .null])), (q1, .inl (cs 1, 40, .inl (fun _ => 0))), (q2, .inl (cs 1, 40, .inl (fun _ => 0))), (q3, .inl (cs 1, 40, .inl (fun _ => 0)))] := hD
  refine va_putF (D := (dC, dI)) (ci := 1) (v := .ref q3) (ty := .array .int) (C := RX0) (T := TX0) (N := 6) hx hb hts hin tyX0 tyX0_ok nmX0 hown hK hP hD hS 0 rfl rfl 5 (by decide) k_fieldLink_RX0_18__KeyLetters_Book___numbers____I_ (fun _ h9 => h9) rfl hmi rfl (by decide +kernel) rfl rfl (Nat.le_of_ble_eq_true rfl) dX0_init_25 (fun H locs hP hD hS => ?_)
  have hP : va_P (dC, dI) vwCl [(h, .inr (1, [.int 0, .int 0, .int 0, .ref q1, .ref q2, .ref q3])), (q1, .inl (cs 1, 40, .inl (fun _ => 0))), (q2, .inl (cs 1, 40, .inl (fun _ => 0))), (q3, .inl (cs 1, 40, .inl (fun _ => 0)))] H := hP
  have hD : va_D (va_A [(h, .inr (1, [.int 0, .int 0, .int 0, .null, .null, .null]))] s.heap.size) [(h, .inr (1, [.int 0, .int 0, .int 0, .ref q1, .ref q2, .ref q3])), (q1, .inl (cs 1, 40, .inl (fun _ => 0))), (q2, .inl (cs 1, 40, .inl (fun _ => 0))), (q3, .inl (cs 1, 40, .inl (fun _ => 0)))] := hD
  obtain ⟨ra, hra⟩ : ∃ z : Nat → Nat, z = (fun k => match k with | 0 => h | 3 => q1 | 4 => q2 | 5 => q3 | _ => 0) := ⟨_, rfl⟩
  have hP9 : va_P (dC, dI) vwCl (wX0 cs ad ra iX0) H := hP.sub [0, 1, 2, 3] (by rw [hra]; rfl)
  have hD9 : va_D (va_A [(h, .inr (1, [.int 0, .int 0, .int 0, .null, .null, .null]))] s.heap.size) (wX0 cs ad ra iX0) := hD.sub [0, 1, 2, 3] rfl (by rw [hra]; rfl)
  exact W.vret hx hb hr (fun t ht hW => ⟨⟨ra, rfl, show ra 0 = h by rw [hra]; rfl, by rw [ht]; exact hP9, va_K.moved hW.alike hK, hD9⟩, hS.F ht⟩) hS.2.2 dX0_init_28
def iX5 : kD := (fun a k => 0, fun _ _ => 0)
abbrev rm_X5_init : Room := { frames := 1, cells := 3, slots := 144, locals := 12 }
set_option maxHeartbeats 4000000 in
set_option maxRecDepth 100000 in
theorem c_X5_init (l : Launch) (dC : Nat → ClassId) (dI : Nat → Nat → Nat) (cs : Nat → ClassId) (ad : Nat → Nat) (h : Nat) (sz : Nat) : Met l yX5_init wsX5_init rm_X5_init (va_Pc [.ref h] (fun U => cPw dC dI cs sz [(h, .inr (6, [.null, .null, .null, .int 0]))] U ∧ kAO U ∧ kE ad (va_A [(h, .inr (6, [.null, .null, .null, .int 0]))] sz) U U.heap)) (cQn dC dI cs (va_A [(h, .inr (6, [.null, .null, .null, .int 0]))] sz) (fun ra => ra 0 = h) (fun ra => wX5 cs ad ra iX5)) 3 144 (va_A [(h, .inr (6, [.null, .null, .null, .int 0]))] sz) := by
  refine Met.ofW (cc := cX5_init) (maxL := 1) (ret := none) (by decide) rfl ?_
  intro p e s m args below meth c s₁ B hml hv
  obtain ⟨hav, ⟨hsz, hP, hK, hD0, hN⟩, hAO, hE⟩ := hv
  have hx := B.exec
  have hb := B.bytes
  have hr := B.returns
  have hts := atoms_spec (ws := wsX5_init) B.pre
  have hown : s.vm.findClass RX5 = some m.cls := findClass_of_methodNamed B.named
  have hlocks := B.notSynchronized
  have hmi : meth.name = "<init>" := (name_of_methodNamed B.named B.method).1
  subst hsz
  have hA : ∀ q, s.heap.size ≤ q → va_A [(h, .inr (6, [.null, .null, .null, .int 0]))] s.heap.size q := fun q h => Or.inr h
  have hD : va_D (va_A [(h, .inr (6, [.null, .null, .null, .int 0]))] s.heap.size) [(h, .inr (6, [.null, .null, .null, .int 0]))] := hD0.self
  have hS : va_S (va_A [(h, .inr (6, [.null, .null, .null, .int 0]))] s.heap.size) s.heap s.heap [] := va_S.rf
  have k_methodLink_RX5_3_objectInit := hts (.methodLink RX5 3 objectInit) (by decide +kernel)
  have k_instanceMethod_objectInit := hts (.instanceMethod objectInit) (by decide +kernel)
  have k_arrayClass__int := hts (.arrayClass .int) (by decide +kernel)
  have k_fieldLink_RX5_11__KeyLetters_Route___stillToGo____I_ := hts (.fieldLink RX5 11 "KeyLetters$Route" "stillToGo" "[I") (by decide +kernel)
  have k_fieldLink_RX5_15__KeyLetters_Route___queue____I_ := hts (.fieldLink RX5 15 "KeyLetters$Route" "queue" "[I") (by decide +kernel)
  have k_fieldLink_RX5_18__KeyLetters_Route___steps____I_ := hts (.fieldLink RX5 18 "KeyLetters$Route" "steps" "[I") (by decide +kernel)
  have hl := lv_entry ([.ref h]) (n := 1) (Nat.le_of_ble_eq_true rfl)
  rw [show entryFrame m args 1 = entryFrame m ([.ref h] : List Value).toArray 1 from by rw [hav], lg_entry_eq]
  generalize (lg_sl ([.ref h]) ++ List.replicate (1 - (lg_sl ([.ref h])).length) Slot.unset).toArray = ls at hl ⊢
  have hl : lv_has ls 1 [(0, .ref h)] := hl
  have hin : ∀ w ∈ wsX50, w ∈ wsX5_init := fun w h => List.mem_cons_of_mem _ (List.mem_append_right _ h)
  refine lv_aload_n hx hb dX5_init_0 rfl (lv_at hl 0 rfl) ?_
  refine W.objInit hx hb hown k_methodLink_RX5_3_objectInit k_instanceMethod_objectInit (hts (.code objectInit ⟨#[0xb1]⟩ 1 none) (by decide +kernel)) rfl (by rw [hml]; exact hl.1) rfl dX5_init_1 (Nat.le_of_ble_eq_true rfl) (Nat.le_of_ble_eq_true rfl) ?_
  refine W.eq (g2 := F0 m 4 ls []) rfl ?_
  refine lv_aload_n hx hb dX5_init_4 rfl (lv_at hl 0 rfl) ?_
  refine lv_bipush (v := 48) hx hb dX5_init_5 (by decide) ?_
  refine va_newa (atype := .int) (a0 := (48, .inl (fun _ => 0))) (N' := 48) hx hb k_arrayClass__int (ty := .int) rfl hK hP hD hS hA (fun _ => rfl) (by decide) (by decide +kernel) (Nat.le_of_ble_eq_true rfl) (Nat.le_of_ble_eq_true rfl) (Nat.le_of_ble_eq_true rfl) dX5_init_7 (fun q1 cA H hK2 hP hD hS => ?_)
  have ecA : cA = cs 1 := Option.some.inj (((hK2.2 8 _ rfl).2 : s.vm.findClass _ = some _).symm.trans ((hK.2 1 _ rfl).2 : s.vm.findClass _ = some _))
  subst ecA
  have hP : va_P (dC, dI) vwCl [(h, .inr (6, [.null, .null, .null, .int 0])), (q1, .inl (cs 1, 48, .inl (fun _ => 0)))] H := hP
  have hD : va_D (va_A [(h, .inr (6, [.null, .null, .null, .int 0]))] s.heap.size) [(h, .inr (6, [.null, .null, .null, .int 0])), (q1, .inl (cs 1, 48, .inl (fun _ => 0)))] := hD
  refine va_putF (D := (dC, dI)) (ci := 6) (v := .ref q1) (ty := .array .int) (C := RX5) (T := TX5) (N := 4) hx hb hts hin tyX5 tyX5_ok nmX5 hown hK hP hD hS 0 rfl rfl 0 (by decide) k_fieldLink_RX5_11__KeyLetters_Route___stillToGo____I_ (fun _ h9 => h9) rfl hmi rfl (by decide +kernel) rfl rfl (Nat.le_of_ble_eq_true rfl) dX5_init_9 (fun H locs hP hD hS => ?_)
  have hP : va_P (dC, dI) vwCl [(h, .inr (6, [.ref q1, .null, .null, .int 0])), (q1, .inl (cs 1, 48, .inl (fun _ => 0)))] H := hP
  have hD : va_D (va_A [(h, .inr (6, [.null, .null, .null, .int 0]))] s.heap.size) [(h, .inr (6, [.ref q1, .null, .null, .int 0])), (q1, .inl (cs 1, 48, .inl (fun _ => 0)))] := hD
  refine lv_aload_n hx hb dX5_init_12 rfl (lv_at hl 0 rfl) ?_
  refine lv_bipush (v := 48) hx hb dX5_init_13 (by decide) ?_
  refine va_newa (atype := .int) (a0 := (48, .inl (fun _ => 0))) (N' := 48) hx hb k_arrayClass__int (ty := .int) rfl hK hP hD hS hA (fun _ => rfl) (by decide) (by decide +kernel) (Nat.le_of_ble_eq_true rfl) (Nat.le_of_ble_eq_true rfl) (Nat.le_of_ble_eq_true rfl) dX5_init_15 (fun q2 cA H hK2 hP hD hS => ?_)
  have ecA : cA = cs 1 := Option.some.inj (((hK2.2 8 _ rfl).2 : s.vm.findClass _ = some _).symm.trans ((hK.2 1 _ rfl).2 : s.vm.findClass _ = some _))
  subst ecA
  have hP : va_P (dC, dI) vwCl [(h, .inr (6, [.ref q1, .null, .null, .int 0])), (q1, .inl (cs 1, 48, .inl (fun _ => 0))), (q2, .inl (cs 1, 48, .inl (fun _ => 0)))] H := hP
  have hD : va_D (va_A [(h, .inr (6, [.null, .null, .null, .int 0]))] s.heap.size) [(h, .inr (6, [.ref q1, .null, .null, .int 0])), (q1, .inl (cs 1, 48, .inl (fun _ => 0))), (q2, .inl (cs 1, 48, .inl (fun _ => 0)))] := hD
  refine va_putF (D := (dC, dI)) (ci := 6) (v := .ref q2) (ty := .array .int) (C := RX5) (T := TX5) (N := 4) hx hb hts hin tyX5 tyX5_ok nmX5 hown hK hP hD hS 0 rfl rfl 1 (by decide) k_fieldLink_RX5_15__KeyLetters_Route___queue____I_ (fun _ h9 => h9) rfl hmi rfl (by decide +kernel) rfl rfl (Nat.le_of_ble_eq_true rfl) dX5_init_17 (fun H locs hP hD hS => ?_)
  have hP : va_P (dC, dI) vwCl [(h, .inr (6, [.ref q1, .ref q2, .null, .int 0])), (q1, .inl (cs 1, 48, .inl (fun _ => 0))), (q2, .inl (cs 1, 48, .inl (fun _ => 0)))] H := hP
  have hD : va_D (va_A [(h, .inr (6, [.null, .null, .null, .int 0]))] s.heap.size) [(h, .inr (6, [.ref q1, .ref q2, .null, .int 0])), (q1, .inl (cs 1, 48, .inl (fun _ => 0))), (q2, .inl (cs 1, 48, .inl (fun _ => 0)))] := hD
  refine lv_aload_n hx hb dX5_init_20 rfl (lv_at hl 0 rfl) ?_
  refine lv_bipush (v := 48) hx hb dX5_init_21 (by decide) ?_
  refine va_newa (atype := .int) (a0 := (48, .inl (fun _ => 0))) (N' := 48) hx hb k_arrayClass__int (ty := .int) rfl hK hP hD hS hA (fun _ => rfl) (by decide) (by decide +kernel) (Nat.le_of_ble_eq_true rfl) (Nat.le_of_ble_eq_true rfl) (Nat.le_of_ble_eq_true rfl) dX5_init_23 (fun q3 cA H hK2 hP hD hS => ?_)
  have ecA : cA = cs 1 := Option.some.inj (((hK2.2 8 _ rfl).2 : s.vm.findClass _ = some _).symm.trans ((hK.2 1 _ rfl).2 : s.vm.findClass _ = some _))
  subst ecA
  have hP : va_P (dC, dI) vwCl [(h, .inr (6, [.ref q1, .ref q2, .null, .int 0])), (q1, .inl (cs 1, 48, .inl (fun _ => 0))), (q2, .inl (cs 1, 48, .inl (fun _ => 0))), (q3, .inl (cs 1, 48, .inl (fun _ => 0)))] H := hP
  have hD : va_D (va_A [(h, .inr (6, [.null, .null, .null, .int 0]))] s.heap.size) [(h, .inr (6, [.ref q1, .ref q2, .null, .int 0])), (q1, .inl (cs 1, 48, .inl (fun _ => 0))), (q2, .inl (cs 1, 48, .inl (fun _ => 0))), (q3, .inl (cs 1, 48, .inl (fun _ => 0)))] := hD
  refine va_putF (D := (dC, dI)) (ci := 6) (v := .ref q3) (ty := .array .int) (C := RX5) (T := TX5) (N := 4) hx hb hts hin tyX5 tyX5_ok nmX5 hown hK hP hD hS 0 rfl rfl 2 (by decide) k_fieldLink_RX5_18__KeyLetters_Route___steps____I_ (fun _ h9 => h9) rfl hmi rfl (by decide +kernel) rfl rfl (Nat.le_of_ble_eq_true rfl) dX5_init_25 (fun H locs hP hD hS => ?_)
  have hP : va_P (dC, dI) vwCl [(h, .inr (6, [.ref q1, .ref q2, .ref q3, .int 0])), (q1, .inl (cs 1, 48, .inl (fun _ => 0))), (q2, .inl (cs 1, 48, .inl (fun _ => 0))), (q3, .inl (cs 1, 48, .inl (fun _ => 0)))] H := hP
  have hD : va_D (va_A [(h, .inr (6, [.null, .null, .null, .int 0]))] s.heap.size) [(h, .inr (6, [.ref q1, .ref q2, .ref q3, .int 0])), (q1, .inl (cs 1, 48, .inl (fun _ => 0))), (q2, .inl (cs 1, 48, .inl (fun _ => 0))), (q3, .inl (cs 1, 48, .inl (fun _ => 0)))] := hD
  obtain ⟨ra, hra⟩ : ∃ z : Nat → Nat, z = (fun k => match k with | 0 => h | 100 => q1 | 1 => q2 | 2 => q3 | _ => 0) := ⟨_, rfl⟩
  have hP9 : va_P (dC, dI) vwCl (wX5 cs ad ra iX5) H := hP.sub [0, 1, 2, 3] (by rw [hra]; rfl)
  have hD9 : va_D (va_A [(h, .inr (6, [.null, .null, .null, .int 0]))] s.heap.size) (wX5 cs ad ra iX5) := hD.sub [0, 1, 2, 3] rfl (by rw [hra]; rfl)
  exact W.vret hx hb hr (fun t ht hW => ⟨⟨ra, rfl, show ra 0 = h by rw [hra]; rfl, by rw [ht]; exact hP9, va_K.moved hW.alike hK, hD9⟩, hS.F ht⟩) hS.2.2 dX5_init_28
def iX9 : kD := (fun a k => if a = 0 ∧ k = 2 then (-1) else if a = 0 ∧ k = 1 then (-1) else 0, fun _ _ => 0)
abbrev rm_X9_init : Room := { frames := 1, cells := 4, slots := 54, locals := 12 }
set_option maxHeartbeats 4000000 in
set_option maxRecDepth 100000 in
theorem c_X9_init (l : Launch) (dC : Nat → ClassId) (dI : Nat → Nat → Nat) (cs : Nat → ClassId) (ad : Nat → Nat) (h : Nat) (sz : Nat) : Met l yX9_init wsX9_init rm_X9_init (va_Pc [.ref h] (fun U => cPw dC dI cs sz [(h, .inr (10, [.int 0, .int 0, .int 0, .int 0, .int 0, .null, .null, .null, .null]))] U ∧ kAO U ∧ kE ad (va_A [(h, .inr (10, [.int 0, .int 0, .int 0, .int 0, .int 0, .null, .null, .null, .null]))] sz) U U.heap)) (cQn dC dI cs (va_A [(h, .inr (10, [.int 0, .int 0, .int 0, .int 0, .int 0, .null, .null, .null, .null]))] sz) (fun ra => ra 0 = h) (fun ra => wX9 cs ad ra iX9)) 4 54 (va_A [(h, .inr (10, [.int 0, .int 0, .int 0, .int 0, .int 0, .null, .null, .null, .null]))] sz) := by
  refine Met.ofW (cc := cX9_init) (maxL := 1) (ret := none) (by decide) rfl ?_
  intro p e s m args below meth c s₁ B hml hv
  obtain ⟨hav, ⟨hsz, hP, hK, hD0, hN⟩, hAO, hE⟩ := hv
  have hx := B.exec
  have hb := B.bytes
  have hr := B.returns
  have hts := atoms_spec (ws := wsX9_init) B.pre
  have hown : s.vm.findClass RX9 = some m.cls := findClass_of_methodNamed B.named
  have hlocks := B.notSynchronized
  have hmi : meth.name = "<init>" := (name_of_methodNamed B.named B.method).1
  subst hsz
  have hA : ∀ q, s.heap.size ≤ q → va_A [(h, .inr (10, [.int 0, .int 0, .int 0, .int 0, .int 0, .null, .null, .null, .null]))] s.heap.size q := fun q h => Or.inr h
  have hD : va_D (va_A [(h, .inr (10, [.int 0, .int 0, .int 0, .int 0, .int 0, .null, .null, .null, .null]))] s.heap.size) [(h, .inr (10, [.int 0, .int 0, .int 0, .int 0, .int 0, .null, .null, .null, .null]))] := hD0.self
  have hS : va_S (va_A [(h, .inr (10, [.int 0, .int 0, .int 0, .int 0, .int 0, .null, .null, .null, .null]))] s.heap.size) s.heap s.heap [] := va_S.rf
  have k_methodLink_RX9_3_objectInit := hts (.methodLink RX9 3 objectInit) (by decide +kernel)
  have k_instanceMethod_objectInit := hts (.instanceMethod objectInit) (by decide +kernel)
  have k_arrayClass__int := hts (.arrayClass .int) (by decide +kernel)
  have k_fieldLink_RX9_9__KeyLetters_State___ink____I_ := hts (.fieldLink RX9 9 "KeyLetters$State" "ink" "[I") (by decide +kernel)
  have k_fieldLink_RX9_15__KeyLetters_State___wrote____I_ := hts (.fieldLink RX9 15 "KeyLetters$State" "wrote" "[I") (by decide +kernel)
  have k_fieldLink_RX9_18__KeyLetters_State___letters____I_ := hts (.fieldLink RX9 18 "KeyLetters$State" "letters" "[I") (by decide +kernel)
  have k_fieldLink_RX9_21__KeyLetters_State___debts____I_ := hts (.fieldLink RX9 21 "KeyLetters$State" "debts" "[I") (by decide +kernel)
  have k_fieldLink_RX9_24__KeyLetters_State___latest___I_ := hts (.fieldLink RX9 24 "KeyLetters$State" "latest" "I") (by decide +kernel)
  have k_fieldLink_RX9_28__KeyLetters_State___writer___I_ := hts (.fieldLink RX9 28 "KeyLetters$State" "writer" "I") (by decide +kernel)
  have hl := lv_entry ([.ref h]) (n := 1) (Nat.le_of_ble_eq_true rfl)
  rw [show entryFrame m args 1 = entryFrame m ([.ref h] : List Value).toArray 1 from by rw [hav], lg_entry_eq]
  generalize (lg_sl ([.ref h]) ++ List.replicate (1 - (lg_sl ([.ref h])).length) Slot.unset).toArray = ls at hl ⊢
  have hl : lv_has ls 1 [(0, .ref h)] := hl
  have hin : ∀ w ∈ wsX90, w ∈ wsX9_init := fun w h => List.mem_cons_of_mem _ (List.mem_append_right _ h)
  refine lv_aload_n hx hb dX9_init_0 rfl (lv_at hl 0 rfl) ?_
  refine W.objInit hx hb hown k_methodLink_RX9_3_objectInit k_instanceMethod_objectInit (hts (.code objectInit ⟨#[0xb1]⟩ 1 none) (by decide +kernel)) rfl (by rw [hml]; exact hl.1) rfl dX9_init_1 (Nat.le_of_ble_eq_true rfl) (Nat.le_of_ble_eq_true rfl) ?_
  refine W.eq (g2 := F0 m 4 ls []) rfl ?_
  refine lv_aload_n hx hb dX9_init_4 rfl (lv_at hl 0 rfl) ?_
  refine lv_bipush (v := 6) hx hb dX9_init_5 (by decide) ?_
  refine va_newa (atype := .int) (a0 := (6, .inl (fun _ => 0))) (N' := 6) hx hb k_arrayClass__int (ty := .int) rfl hK hP hD hS hA (fun _ => rfl) (by decide) (by decide +kernel) (Nat.le_of_ble_eq_true rfl) (Nat.le_of_ble_eq_true rfl) (Nat.le_of_ble_eq_true rfl) dX9_init_7 (fun q1 cA H hK2 hP hD hS => ?_)
  have ecA : cA = cs 1 := Option.some.inj (((hK2.2 8 _ rfl).2 : s.vm.findClass _ = some _).symm.trans ((hK.2 1 _ rfl).2 : s.vm.findClass _ = some _))
  subst ecA
  have hP : va_P (dC, dI) vwCl [(h, .inr (10, [.int 0, .int 0, .int 0, .int 0, .int 0, .null, .null, .null, .null])), (q1, .inl (cs 1, 6, .inl (fun _ => 0)))] H := hP
  have hD : va_D (va_A [(h, .inr (10, [.int 0, .int 0, .int 0, .int 0, .int 0, .null, .null, .null, .null]))] s.heap.size) [(h, .inr (10, [.int 0, .int 0, .int 0, .int 0, .int 0, .null, .null, .null, .null])), (q1, .inl (cs 1, 6, .inl (fun _ => 0)))] := hD
  refine va_putF (D := (dC, dI)) (ci := 10) (v := .ref q1) (ty := .array .int) (C := RX9) (T := TX9) (N := 9) hx hb hts hin tyX9 tyX9_ok nmX9 hown hK hP hD hS 0 rfl rfl 5 (by decide) k_fieldLink_RX9_9__KeyLetters_State___ink____I_ (fun _ h9 => h9) rfl hmi rfl (by decide +kernel) rfl rfl (Nat.le_of_ble_eq_true rfl) dX9_init_9 (fun H locs hP hD hS => ?_)
  have hP : va_P (dC, dI) vwCl [(h, .inr (10, [.int 0, .int 0, .int 0, .int 0, .int 0, .ref q1, .null, .null, .null])), (q1, .inl (cs 1, 6, .inl (fun _ => 0)))] H := hP
  have hD : va_D (va_A [(h, .inr (10, [.int 0, .int 0, .int 0, .int 0, .int 0, .null, .null, .null, .null]))] s.heap.size) [(h, .inr (10, [.int 0, .int 0, .int 0, .int 0, .int 0, .ref q1, .null, .null, .null])), (q1, .inl (cs 1, 6, .inl (fun _ => 0)))] := hD
  refine lv_aload_n hx hb dX9_init_12 rfl (lv_at hl 0 rfl) ?_
  refine lv_bipush (v := 6) hx hb dX9_init_13 (by decide) ?_
  refine va_newa (atype := .int) (a0 := (6, .inl (fun _ => 0))) (N' := 6) hx hb k_arrayClass__int (ty := .int) rfl hK hP hD hS hA (fun _ => rfl) (by decide) (by decide +kernel) (Nat.le_of_ble_eq_true rfl) (Nat.le_of_ble_eq_true rfl) (Nat.le_of_ble_eq_true rfl) dX9_init_15 (fun q2 cA H hK2 hP hD hS => ?_)
  have ecA : cA = cs 1 := Option.some.inj (((hK2.2 8 _ rfl).2 : s.vm.findClass _ = some _).symm.trans ((hK.2 1 _ rfl).2 : s.vm.findClass _ = some _))
  subst ecA
  have hP : va_P (dC, dI) vwCl [(h, .inr (10, [.int 0, .int 0, .int 0, .int 0, .int 0, .ref q1, .null, .null, .null])), (q1, .inl (cs 1, 6, .inl (fun _ => 0))), (q2, .inl (cs 1, 6, .inl (fun _ => 0)))] H := hP
  have hD : va_D (va_A [(h, .inr (10, [.int 0, .int 0, .int 0, .int 0, .int 0, .null, .null, .null, .null]))] s.heap.size) [(h, .inr (10, [.int 0, .int 0, .int 0, .int 0, .int 0, .ref q1, .null, .null, .null])), (q1, .inl (cs 1, 6, .inl (fun _ => 0))), (q2, .inl (cs 1, 6, .inl (fun _ => 0)))] := hD
  refine va_putF (D := (dC, dI)) (ci := 10) (v := .ref q2) (ty := .array .int) (C := RX9) (T := TX9) (N := 9) hx hb hts hin tyX9 tyX9_ok nmX9 hown hK hP hD hS 0 rfl rfl 6 (by decide) k_fieldLink_RX9_15__KeyLetters_State___wrote____I_ (fun _ h9 => h9) rfl hmi rfl (by decide +kernel) rfl rfl (Nat.le_of_ble_eq_true rfl) dX9_init_17 (fun H locs hP hD hS => ?_)
  have hP : va_P (dC, dI) vwCl [(h, .inr (10, [.int 0, .int 0, .int 0, .int 0, .int 0, .ref q1, .ref q2, .null, .null])), (q1, .inl (cs 1, 6, .inl (fun _ => 0))), (q2, .inl (cs 1, 6, .inl (fun _ => 0)))] H := hP
  have hD : va_D (va_A [(h, .inr (10, [.int 0, .int 0, .int 0, .int 0, .int 0, .null, .null, .null, .null]))] s.heap.size) [(h, .inr (10, [.int 0, .int 0, .int 0, .int 0, .int 0, .ref q1, .ref q2, .null, .null])), (q1, .inl (cs 1, 6, .inl (fun _ => 0))), (q2, .inl (cs 1, 6, .inl (fun _ => 0)))] := hD
  refine lv_aload_n hx hb dX9_init_20 rfl (lv_at hl 0 rfl) ?_
  refine lv_bipush (v := 6) hx hb dX9_init_21 (by decide) ?_
  refine va_newa (atype := .int) (a0 := (6, .inl (fun _ => 0))) (N' := 6) hx hb k_arrayClass__int (ty := .int) rfl hK hP hD hS hA (fun _ => rfl) (by decide) (by decide +kernel) (Nat.le_of_ble_eq_true rfl) (Nat.le_of_ble_eq_true rfl) (Nat.le_of_ble_eq_true rfl) dX9_init_23 (fun q3 cA H hK2 hP hD hS => ?_)
  have ecA : cA = cs 1 := Option.some.inj (((hK2.2 8 _ rfl).2 : s.vm.findClass _ = some _).symm.trans ((hK.2 1 _ rfl).2 : s.vm.findClass _ = some _))
  subst ecA
  have hP : va_P (dC, dI) vwCl [(h, .inr (10, [.int 0, .int 0, .int 0, .int 0, .int 0, .ref q1, .ref q2, .null, .null])), (q1, .inl (cs 1, 6, .inl (fun _ => 0))), (q2, .inl (cs 1, 6, .inl (fun _ => 0))), (q3, .inl (cs 1, 6, .inl (fun _ => 0)))] H := hP
  have hD : va_D (va_A [(h, .inr (10, [.int 0, .int 0, .int 0, .int 0, .int 0, .null, .null, .null, .null]))] s.heap.size) [(h, .inr (10, [.int 0, .int 0, .int 0, .int 0, .int 0, .ref q1, .ref q2, .null, .null])), (q1, .inl (cs 1, 6, .inl (fun _ => 0))), (q2, .inl (cs 1, 6, .inl (fun _ => 0))), (q3, .inl (cs 1, 6, .inl (fun _ => 0)))] := hD
  refine va_putF (D := (dC, dI)) (ci := 10) (v := .ref q3) (ty := .array .int) (C := RX9) (T := TX9) (N := 9) hx hb hts hin tyX9 tyX9_ok nmX9 hown hK hP hD hS 0 rfl rfl 7 (by decide) k_fieldLink_RX9_18__KeyLetters_State___letters____I_ (fun _ h9 => h9) rfl hmi rfl (by decide +kernel) rfl rfl (Nat.le_of_ble_eq_true rfl) dX9_init_25 (fun H locs hP hD hS => ?_)
  have hP : va_P (dC, dI) vwCl [(h, .inr (10, [.int 0, .int 0, .int 0, .int 0, .int 0, .ref q1, .ref q2, .ref q3, .null])), (q1, .inl (cs 1, 6, .inl (fun _ => 0))), (q2, .inl (cs 1, 6, .inl (fun _ => 0))), (q3, .inl (cs 1, 6, .inl (fun _ => 0)))] H := hP
  have hD : va_D (va_A [(h, .inr (10, [.int 0, .int 0, .int 0, .int 0, .int 0, .null, .null, .null, .null]))] s.heap.size) [(h, .inr (10, [.int 0, .int 0, .int 0, .int 0, .int 0, .ref q1, .ref q2, .ref q3, .null])), (q1, .inl (cs 1, 6, .inl (fun _ => 0))), (q2, .inl (cs 1, 6, .inl (fun _ => 0))), (q3, .inl (cs 1, 6, .inl (fun _ => 0)))] := hD
  refine lv_aload_n hx hb dX9_init_28 rfl (lv_at hl 0 rfl) ?_
  refine lv_bipush (v := 36) hx hb dX9_init_29 (by decide) ?_
  refine va_newa (atype := .int) (a0 := (36, .inl (fun _ => 0))) (N' := 36) hx hb k_arrayClass__int (ty := .int) rfl hK hP hD hS hA (fun _ => rfl) (by decide) (by decide +kernel) (Nat.le_of_ble_eq_true rfl) (Nat.le_of_ble_eq_true rfl) (Nat.le_of_ble_eq_true rfl) dX9_init_31 (fun q4 cA H hK2 hP hD hS => ?_)
  have ecA : cA = cs 1 := Option.some.inj (((hK2.2 8 _ rfl).2 : s.vm.findClass _ = some _).symm.trans ((hK.2 1 _ rfl).2 : s.vm.findClass _ = some _))
  subst ecA
  have hP : va_P (dC, dI) vwCl [(h, .inr (10, [.int 0, .int 0, .int 0, .int 0, .int 0, .ref q1, .ref q2, .ref q3, .null])), (q1, .inl (cs 1, 6, .inl (fun _ => 0))), (q2, .inl (cs 1, 6, .inl (fun _ => 0))), (q3, .inl (cs 1, 6, .inl (fun _ => 0))), (q4, .inl (cs 1, 36, .inl (fun _ => 0)))] H := hP
  have hD : va_D (va_A [(h, .inr (10, [.int 0, .int 0, .int 0, .int 0, .int 0, .null, .null, .null, .null]))] s.heap.size) [(h, .inr (10, [.int 0, .int 0, .int 0, .int 0, .int 0, .ref q1, .ref q2, .ref q3, .null])), (q1, .inl (cs 1, 6, .inl (fun _ => 0))), (q2, .inl (cs 1, 6, .inl (fun _ => 0))), (q3, .inl (cs 1, 6, .inl (fun _ => 0))), (q4, .inl (cs 1, 36, .inl (fun _ => 0)))] := hD
  refine va_putF (D := (dC, dI)) (ci := 10) (v := .ref q4) (ty := .array .int) (C := RX9) (T := TX9) (N := 9) hx hb hts hin tyX9 tyX9_ok nmX9 hown hK hP hD hS 0 rfl rfl 8 (by decide) k_fieldLink_RX9_21__KeyLetters_State___debts____I_ (fun _ h9 => h9) rfl hmi rfl (by decide +kernel) rfl rfl (Nat.le_of_ble_eq_true rfl) dX9_init_33 (fun H locs hP hD hS => ?_)
  have hP : va_P (dC, dI) vwCl [(h, .inr (10, [.int 0, .int 0, .int 0, .int 0, .int 0, .ref q1, .ref q2, .ref q3, .ref q4])), (q1, .inl (cs 1, 6, .inl (fun _ => 0))), (q2, .inl (cs 1, 6, .inl (fun _ => 0))), (q3, .inl (cs 1, 6, .inl (fun _ => 0))), (q4, .inl (cs 1, 36, .inl (fun _ => 0)))] H := hP
  have hD : va_D (va_A [(h, .inr (10, [.int 0, .int 0, .int 0, .int 0, .int 0, .null, .null, .null, .null]))] s.heap.size) [(h, .inr (10, [.int 0, .int 0, .int 0, .int 0, .int 0, .ref q1, .ref q2, .ref q3, .ref q4])), (q1, .inl (cs 1, 6, .inl (fun _ => 0))), (q2, .inl (cs 1, 6, .inl (fun _ => 0))), (q3, .inl (cs 1, 6, .inl (fun _ => 0))), (q4, .inl (cs 1, 36, .inl (fun _ => 0)))] := hD
  refine lv_aload_n hx hb dX9_init_36 rfl (lv_at hl 0 rfl) ?_
  refine lv_iconst (v := -1) hx hb dX9_init_37 (by decide) ?_
  refine va_put (D := (dC, dI)) (ci := 10) (v := .int (-1)) (ty := .int) (C := RX9) (T := TX9) (N := 9) hx hb hts hin tyX9 tyX9_ok nmX9 hown hK hP hD hS 0 rfl rfl 1 (by decide) k_fieldLink_RX9_24__KeyLetters_State___latest___I_ (fun _ h9 => h9) rfl (by decide +kernel) rfl rfl (Nat.le_of_ble_eq_true rfl) dX9_init_38 (fun H locs hP hD hS => ?_)
  have hP : va_P (dC, dI) vwCl [(h, .inr (10, [.int 0, .int (-1), .int 0, .int 0, .int 0, .ref q1, .ref q2, .ref q3, .ref q4])), (q1, .inl (cs 1, 6, .inl (fun _ => 0))), (q2, .inl (cs 1, 6, .inl (fun _ => 0))), (q3, .inl (cs 1, 6, .inl (fun _ => 0))), (q4, .inl (cs 1, 36, .inl (fun _ => 0)))] H := hP
  have hD : va_D (va_A [(h, .inr (10, [.int 0, .int 0, .int 0, .int 0, .int 0, .null, .null, .null, .null]))] s.heap.size) [(h, .inr (10, [.int 0, .int (-1), .int 0, .int 0, .int 0, .ref q1, .ref q2, .ref q3, .ref q4])), (q1, .inl (cs 1, 6, .inl (fun _ => 0))), (q2, .inl (cs 1, 6, .inl (fun _ => 0))), (q3, .inl (cs 1, 6, .inl (fun _ => 0))), (q4, .inl (cs 1, 36, .inl (fun _ => 0)))] := hD
  refine lv_aload_n hx hb dX9_init_41 rfl (lv_at hl 0 rfl) ?_
  refine lv_iconst (v := -1) hx hb dX9_init_42 (by decide) ?_
  refine va_put (D := (dC, dI)) (ci := 10) (v := .int (-1)) (ty := .int) (C := RX9) (T := TX9) (N := 9) hx hb hts hin tyX9 tyX9_ok nmX9 hown hK hP hD hS 0 rfl rfl 2 (by decide) k_fieldLink_RX9_28__KeyLetters_State___writer___I_ (fun _ h9 => h9) rfl (by decide +kernel) rfl rfl (Nat.le_of_ble_eq_true rfl) dX9_init_43 (fun H locs hP hD hS => ?_)
  have hP : va_P (dC, dI) vwCl [(h, .inr (10, [.int 0, .int (-1), .int (-1), .int 0, .int 0, .ref q1, .ref q2, .ref q3, .ref q4])), (q1, .inl (cs 1, 6, .inl (fun _ => 0))), (q2, .inl (cs 1, 6, .inl (fun _ => 0))), (q3, .inl (cs 1, 6, .inl (fun _ => 0))), (q4, .inl (cs 1, 36, .inl (fun _ => 0)))] H := hP
  have hD : va_D (va_A [(h, .inr (10, [.int 0, .int 0, .int 0, .int 0, .int 0, .null, .null, .null, .null]))] s.heap.size) [(h, .inr (10, [.int 0, .int (-1), .int (-1), .int 0, .int 0, .ref q1, .ref q2, .ref q3, .ref q4])), (q1, .inl (cs 1, 6, .inl (fun _ => 0))), (q2, .inl (cs 1, 6, .inl (fun _ => 0))), (q3, .inl (cs 1, 6, .inl (fun _ => 0))), (q4, .inl (cs 1, 36, .inl (fun _ => 0)))] := hD
  obtain ⟨ra, hra⟩ : ∃ z : Nat → Nat, z = (fun k => match k with | 0 => h | 5 => q1 | 6 => q2 | 7 => q3 | 8 => q4 | _ => 0) := ⟨_, rfl⟩
  have hP9 : va_P (dC, dI) vwCl (wX9 cs ad ra iX9) H := hP.sub [0, 1, 2, 3, 4] (by rw [hra]; rfl)
  have hD9 : va_D (va_A [(h, .inr (10, [.int 0, .int 0, .int 0, .int 0, .int 0, .null, .null, .null, .null]))] s.heap.size) (wX9 cs ad ra iX9) := hD.sub [0, 1, 2, 3, 4] rfl (by rw [hra]; rfl)
  exact W.vret hx hb hr (fun t ht hW => ⟨⟨ra, rfl, show ra 0 = h by rw [hra]; rfl, by rw [ht]; exact hP9, va_K.moved hW.alike hK, hD9⟩, hS.F ht⟩) hS.2.2 dX9_init_46
def iX3 : kD := (fun a k => 0, fun _ _ => 0)
abbrev rm_X3_init : Room := { frames := 1, cells := 7, slots := 50, locals := 12 }
set_option maxHeartbeats 4000000 in
set_option maxRecDepth 100000 in
theorem c_X3_init (l : Launch) (dC : Nat → ClassId) (dI : Nat → Nat → Nat) (cs : Nat → ClassId) (ad : Nat → Nat) (h : Nat) (sz : Nat) : Met l yX3_init wsX3_init rm_X3_init (va_Pc [.ref h] (fun U => cPw dC dI cs sz [(h, .inr (4, [.int 0, .int 0, .int 0, .int 0, .null, .null, .null, .null, .null, .null, .null]))] U ∧ kAO U ∧ kE ad (va_A [(h, .inr (4, [.int 0, .int 0, .int 0, .int 0, .null, .null, .null, .null, .null, .null, .null]))] sz) U U.heap)) (cQn dC dI cs (va_A [(h, .inr (4, [.int 0, .int 0, .int 0, .int 0, .null, .null, .null, .null, .null, .null, .null]))] sz) (fun ra => ra 0 = h) (fun ra => wX3 cs ad ra iX3)) 7 50 (va_A [(h, .inr (4, [.int 0, .int 0, .int 0, .int 0, .null, .null, .null, .null, .null, .null, .null]))] sz) := by
  refine Met.ofW (cc := cX3_init) (maxL := 1) (ret := none) (by decide) rfl ?_
  intro p e s m args below meth c s₁ B hml hv
  obtain ⟨hav, ⟨hsz, hP, hK, hD0, hN⟩, hAO, hE⟩ := hv
  have hx := B.exec
  have hb := B.bytes
  have hr := B.returns
  have hts := atoms_spec (ws := wsX3_init) B.pre
  have hown : s.vm.findClass RX3 = some m.cls := findClass_of_methodNamed B.named
  have hlocks := B.notSynchronized
  have hmi : meth.name = "<init>" := (name_of_methodNamed B.named B.method).1
  subst hsz
  have hA : ∀ q, s.heap.size ≤ q → va_A [(h, .inr (4, [.int 0, .int 0, .int 0, .int 0, .null, .null, .null, .null, .null, .null, .null]))] s.heap.size q := fun q h => Or.inr h
  have hD : va_D (va_A [(h, .inr (4, [.int 0, .int 0, .int 0, .int 0, .null, .null, .null, .null, .null, .null, .null]))] s.heap.size) [(h, .inr (4, [.int 0, .int 0, .int 0, .int 0, .null, .null, .null, .null, .null, .null, .null]))] := hD0.self
  have hS : va_S (va_A [(h, .inr (4, [.int 0, .int 0, .int 0, .int 0, .null, .null, .null, .null, .null, .null, .null]))] s.heap.size) s.heap s.heap [] := va_S.rf
  have k_methodLink_RX3_3_objectInit := hts (.methodLink RX3 3 objectInit) (by decide +kernel)
  have k_instanceMethod_objectInit := hts (.instanceMethod objectInit) (by decide +kernel)
  have k_arrayClass__long := hts (.arrayClass .long) (by decide +kernel)
  have k_fieldLink_RX3_9__KeyLetters_Office___machineNames____J_ := hts (.fieldLink RX3 9 "KeyLetters$Office" "machineNames" "[J") (by decide +kernel)
  have k_arrayClass__int := hts (.arrayClass .int) (by decide +kernel)
  have k_fieldLink_RX3_15__KeyLetters_Office___ink____I_ := hts (.fieldLink RX3 15 "KeyLetters$Office" "ink" "[I") (by decide +kernel)
  have k_fieldLink_RX3_19__KeyLetters_Office___known____I_ := hts (.fieldLink RX3 19 "KeyLetters$Office" "known" "[I") (by decide +kernel)
  have k_fieldLink_RX3_22__KeyLetters_Office___phraseNames____J_ := hts (.fieldLink RX3 22 "KeyLetters$Office" "phraseNames" "[J") (by decide +kernel)
  have k_fieldLink_RX3_25__KeyLetters_Office___sizes____I_ := hts (.fieldLink RX3 25 "KeyLetters$Office" "sizes" "[I") (by decide +kernel)
  have k_fieldLink_RX3_28__KeyLetters_Office___claims____I_ := hts (.fieldLink RX3 28 "KeyLetters$Office" "claims" "[I") (by decide +kernel)
  have k_fieldLink_RX3_31__KeyLetters_Office___answers____I_ := hts (.fieldLink RX3 31 "KeyLetters$Office" "answers" "[I") (by decide +kernel)
  have hl := lv_entry ([.ref h]) (n := 1) (Nat.le_of_ble_eq_true rfl)
  rw [show entryFrame m args 1 = entryFrame m ([.ref h] : List Value).toArray 1 from by rw [hav], lg_entry_eq]
  generalize (lg_sl ([.ref h]) ++ List.replicate (1 - (lg_sl ([.ref h])).length) Slot.unset).toArray = ls at hl ⊢
  have hl : lv_has ls 1 [(0, .ref h)] := hl
  have hin : ∀ w ∈ wsX30, w ∈ wsX3_init := fun w h => List.mem_cons_of_mem _ (List.mem_append_right _ h)
  refine lv_aload_n hx hb dX3_init_0 rfl (lv_at hl 0 rfl) ?_
  refine W.objInit hx hb hown k_methodLink_RX3_3_objectInit k_instanceMethod_objectInit (hts (.code objectInit ⟨#[0xb1]⟩ 1 none) (by decide +kernel)) rfl (by rw [hml]; exact hl.1) rfl dX3_init_1 (Nat.le_of_ble_eq_true rfl) (Nat.le_of_ble_eq_true rfl) ?_
  refine W.eq (g2 := F0 m 4 ls []) rfl ?_
  refine lv_aload_n hx hb dX3_init_4 rfl (lv_at hl 0 rfl) ?_
  refine lv_bipush (v := 6) hx hb dX3_init_5 (by decide) ?_
  refine va_newa (atype := .long) (a0 := (6, .inr (.inl (fun _ => 0)))) (N' := 6) hx hb k_arrayClass__long (ty := .long) rfl hK hP hD hS hA (fun _ => rfl) (by decide) (by decide +kernel) (Nat.le_of_ble_eq_true rfl) (Nat.le_of_ble_eq_true rfl) (Nat.le_of_ble_eq_true rfl) dX3_init_7 (fun q1 cA H hK2 hP hD hS => ?_)
  have ecA : cA = cs 2 := Option.some.inj (((hK2.2 8 _ rfl).2 : s.vm.findClass _ = some _).symm.trans ((hK.2 2 _ rfl).2 : s.vm.findClass _ = some _))
  subst ecA
  have hP : va_P (dC, dI) vwCl [(h, .inr (4, [.int 0, .int 0, .int 0, .int 0, .null, .null, .null, .null, .null, .null, .null])), (q1, .inl (cs 2, 6, .inr (.inl (fun _ => 0))))] H := hP
  have hD : va_D (va_A [(h, .inr (4, [.int 0, .int 0, .int 0, .int 0, .null, .null, .null, .null, .null, .null, .null]))] s.heap.size) [(h, .inr (4, [.int 0, .int 0, .int 0, .int 0, .null, .null, .null, .null, .null, .null, .null])), (q1, .inl (cs 2, 6, .inr (.inl (fun _ => 0))))] := hD
  refine va_putF (D := (dC, dI)) (ci := 4) (v := .ref q1) (ty := .array .long) (C := RX3) (T := TX3) (N := 11) hx hb hts hin tyX3 tyX3_ok nmX3 hown hK hP hD hS 0 rfl rfl 4 (by decide) k_fieldLink_RX3_9__KeyLetters_Office___machineNames____J_ (fun _ h9 => h9) rfl hmi rfl (by decide +kernel) rfl rfl (Nat.le_of_ble_eq_true rfl) dX3_init_9 (fun H locs hP hD hS => ?_)
  have hP : va_P (dC, dI) vwCl [(h, .inr (4, [.int 0, .int 0, .int 0, .int 0, .ref q1, .null, .null, .null, .null, .null, .null])), (q1, .inl (cs 2, 6, .inr (.inl (fun _ => 0))))] H := hP
  have hD : va_D (va_A [(h, .inr (4, [.int 0, .int 0, .int 0, .int 0, .null, .null, .null, .null, .null, .null, .null]))] s.heap.size) [(h, .inr (4, [.int 0, .int 0, .int 0, .int 0, .ref q1, .null, .null, .null, .null, .null, .null])), (q1, .inl (cs 2, 6, .inr (.inl (fun _ => 0))))] := hD
  refine lv_aload_n hx hb dX3_init_12 rfl (lv_at hl 0 rfl) ?_
  refine lv_bipush (v := 6) hx hb dX3_init_13 (by decide) ?_
  refine va_newa (atype := .int) (a0 := (6, .inl (fun _ => 0))) (N' := 6) hx hb k_arrayClass__int (ty := .int) rfl hK hP hD hS hA (fun _ => rfl) (by decide) (by decide +kernel) (Nat.le_of_ble_eq_true rfl) (Nat.le_of_ble_eq_true rfl) (Nat.le_of_ble_eq_true rfl) dX3_init_15 (fun q2 cA H hK2 hP hD hS => ?_)
  have ecA : cA = cs 1 := Option.some.inj (((hK2.2 8 _ rfl).2 : s.vm.findClass _ = some _).symm.trans ((hK.2 1 _ rfl).2 : s.vm.findClass _ = some _))
  subst ecA
  have hP : va_P (dC, dI) vwCl [(h, .inr (4, [.int 0, .int 0, .int 0, .int 0, .ref q1, .null, .null, .null, .null, .null, .null])), (q1, .inl (cs 2, 6, .inr (.inl (fun _ => 0)))), (q2, .inl (cs 1, 6, .inl (fun _ => 0)))] H := hP
  have hD : va_D (va_A [(h, .inr (4, [.int 0, .int 0, .int 0, .int 0, .null, .null, .null, .null, .null, .null, .null]))] s.heap.size) [(h, .inr (4, [.int 0, .int 0, .int 0, .int 0, .ref q1, .null, .null, .null, .null, .null, .null])), (q1, .inl (cs 2, 6, .inr (.inl (fun _ => 0)))), (q2, .inl (cs 1, 6, .inl (fun _ => 0)))] := hD
  refine va_putF (D := (dC, dI)) (ci := 4) (v := .ref q2) (ty := .array .int) (C := RX3) (T := TX3) (N := 11) hx hb hts hin tyX3 tyX3_ok nmX3 hown hK hP hD hS 0 rfl rfl 5 (by decide) k_fieldLink_RX3_15__KeyLetters_Office___ink____I_ (fun _ h9 => h9) rfl hmi rfl (by decide +kernel) rfl rfl (Nat.le_of_ble_eq_true rfl) dX3_init_17 (fun H locs hP hD hS => ?_)
  have hP : va_P (dC, dI) vwCl [(h, .inr (4, [.int 0, .int 0, .int 0, .int 0, .ref q1, .ref q2, .null, .null, .null, .null, .null])), (q1, .inl (cs 2, 6, .inr (.inl (fun _ => 0)))), (q2, .inl (cs 1, 6, .inl (fun _ => 0)))] H := hP
  have hD : va_D (va_A [(h, .inr (4, [.int 0, .int 0, .int 0, .int 0, .null, .null, .null, .null, .null, .null, .null]))] s.heap.size) [(h, .inr (4, [.int 0, .int 0, .int 0, .int 0, .ref q1, .ref q2, .null, .null, .null, .null, .null])), (q1, .inl (cs 2, 6, .inr (.inl (fun _ => 0)))), (q2, .inl (cs 1, 6, .inl (fun _ => 0)))] := hD
  refine lv_aload_n hx hb dX3_init_20 rfl (lv_at hl 0 rfl) ?_
  refine lv_bipush (v := 6) hx hb dX3_init_21 (by decide) ?_
  refine va_newa (atype := .int) (a0 := (6, .inl (fun _ => 0))) (N' := 6) hx hb k_arrayClass__int (ty := .int) rfl hK hP hD hS hA (fun _ => rfl) (by decide) (by decide +kernel) (Nat.le_of_ble_eq_true rfl) (Nat.le_of_ble_eq_true rfl) (Nat.le_of_ble_eq_true rfl) dX3_init_23 (fun q3 cA H hK2 hP hD hS => ?_)
  have ecA : cA = cs 1 := Option.some.inj (((hK2.2 8 _ rfl).2 : s.vm.findClass _ = some _).symm.trans ((hK.2 1 _ rfl).2 : s.vm.findClass _ = some _))
  subst ecA
  have hP : va_P (dC, dI) vwCl [(h, .inr (4, [.int 0, .int 0, .int 0, .int 0, .ref q1, .ref q2, .null, .null, .null, .null, .null])), (q1, .inl (cs 2, 6, .inr (.inl (fun _ => 0)))), (q2, .inl (cs 1, 6, .inl (fun _ => 0))), (q3, .inl (cs 1, 6, .inl (fun _ => 0)))] H := hP
  have hD : va_D (va_A [(h, .inr (4, [.int 0, .int 0, .int 0, .int 0, .null, .null, .null, .null, .null, .null, .null]))] s.heap.size) [(h, .inr (4, [.int 0, .int 0, .int 0, .int 0, .ref q1, .ref q2, .null, .null, .null, .null, .null])), (q1, .inl (cs 2, 6, .inr (.inl (fun _ => 0)))), (q2, .inl (cs 1, 6, .inl (fun _ => 0))), (q3, .inl (cs 1, 6, .inl (fun _ => 0)))] := hD
  refine va_putF (D := (dC, dI)) (ci := 4) (v := .ref q3) (ty := .array .int) (C := RX3) (T := TX3) (N := 11) hx hb hts hin tyX3 tyX3_ok nmX3 hown hK hP hD hS 0 rfl rfl 6 (by decide) k_fieldLink_RX3_19__KeyLetters_Office___known____I_ (fun _ h9 => h9) rfl hmi rfl (by decide +kernel) rfl rfl (Nat.le_of_ble_eq_true rfl) dX3_init_25 (fun H locs hP hD hS => ?_)
  have hP : va_P (dC, dI) vwCl [(h, .inr (4, [.int 0, .int 0, .int 0, .int 0, .ref q1, .ref q2, .ref q3, .null, .null, .null, .null])), (q1, .inl (cs 2, 6, .inr (.inl (fun _ => 0)))), (q2, .inl (cs 1, 6, .inl (fun _ => 0))), (q3, .inl (cs 1, 6, .inl (fun _ => 0)))] H := hP
  have hD : va_D (va_A [(h, .inr (4, [.int 0, .int 0, .int 0, .int 0, .null, .null, .null, .null, .null, .null, .null]))] s.heap.size) [(h, .inr (4, [.int 0, .int 0, .int 0, .int 0, .ref q1, .ref q2, .ref q3, .null, .null, .null, .null])), (q1, .inl (cs 2, 6, .inr (.inl (fun _ => 0)))), (q2, .inl (cs 1, 6, .inl (fun _ => 0))), (q3, .inl (cs 1, 6, .inl (fun _ => 0)))] := hD
  refine lv_aload_n hx hb dX3_init_28 rfl (lv_at hl 0 rfl) ?_
  refine lv_bipush (v := 8) hx hb dX3_init_29 (by decide) ?_
  refine va_newa (atype := .long) (a0 := (8, .inr (.inl (fun _ => 0)))) (N' := 8) hx hb k_arrayClass__long (ty := .long) rfl hK hP hD hS hA (fun _ => rfl) (by decide) (by decide +kernel) (Nat.le_of_ble_eq_true rfl) (Nat.le_of_ble_eq_true rfl) (Nat.le_of_ble_eq_true rfl) dX3_init_31 (fun q4 cA H hK2 hP hD hS => ?_)
  have ecA : cA = cs 2 := Option.some.inj (((hK2.2 8 _ rfl).2 : s.vm.findClass _ = some _).symm.trans ((hK.2 2 _ rfl).2 : s.vm.findClass _ = some _))
  subst ecA
  have hP : va_P (dC, dI) vwCl [(h, .inr (4, [.int 0, .int 0, .int 0, .int 0, .ref q1, .ref q2, .ref q3, .null, .null, .null, .null])), (q1, .inl (cs 2, 6, .inr (.inl (fun _ => 0)))), (q2, .inl (cs 1, 6, .inl (fun _ => 0))), (q3, .inl (cs 1, 6, .inl (fun _ => 0))), (q4, .inl (cs 2, 8, .inr (.inl (fun _ => 0))))] H := hP
  have hD : va_D (va_A [(h, .inr (4, [.int 0, .int 0, .int 0, .int 0, .null, .null, .null, .null, .null, .null, .null]))] s.heap.size) [(h, .inr (4, [.int 0, .int 0, .int 0, .int 0, .ref q1, .ref q2, .ref q3, .null, .null, .null, .null])), (q1, .inl (cs 2, 6, .inr (.inl (fun _ => 0)))), (q2, .inl (cs 1, 6, .inl (fun _ => 0))), (q3, .inl (cs 1, 6, .inl (fun _ => 0))), (q4, .inl (cs 2, 8, .inr (.inl (fun _ => 0))))] := hD
  refine va_putF (D := (dC, dI)) (ci := 4) (v := .ref q4) (ty := .array .long) (C := RX3) (T := TX3) (N := 11) hx hb hts hin tyX3 tyX3_ok nmX3 hown hK hP hD hS 0 rfl rfl 7 (by decide) k_fieldLink_RX3_22__KeyLetters_Office___phraseNames____J_ (fun _ h9 => h9) rfl hmi rfl (by decide +kernel) rfl rfl (Nat.le_of_ble_eq_true rfl) dX3_init_33 (fun H locs hP hD hS => ?_)
  have hP : va_P (dC, dI) vwCl [(h, .inr (4, [.int 0, .int 0, .int 0, .int 0, .ref q1, .ref q2, .ref q3, .ref q4, .null, .null, .null])), (q1, .inl (cs 2, 6, .inr (.inl (fun _ => 0)))), (q2, .inl (cs 1, 6, .inl (fun _ => 0))), (q3, .inl (cs 1, 6, .inl (fun _ => 0))), (q4, .inl (cs 2, 8, .inr (.inl (fun _ => 0))))] H := hP
  have hD : va_D (va_A [(h, .inr (4, [.int 0, .int 0, .int 0, .int 0, .null, .null, .null, .null, .null, .null, .null]))] s.heap.size) [(h, .inr (4, [.int 0, .int 0, .int 0, .int 0, .ref q1, .ref q2, .ref q3, .ref q4, .null, .null, .null])), (q1, .inl (cs 2, 6, .inr (.inl (fun _ => 0)))), (q2, .inl (cs 1, 6, .inl (fun _ => 0))), (q3, .inl (cs 1, 6, .inl (fun _ => 0))), (q4, .inl (cs 2, 8, .inr (.inl (fun _ => 0))))] := hD
  refine lv_aload_n hx hb dX3_init_36 rfl (lv_at hl 0 rfl) ?_
  refine lv_bipush (v := 8) hx hb dX3_init_37 (by decide) ?_
  refine va_newa (atype := .int) (a0 := (8, .inl (fun _ => 0))) (N' := 8) hx hb k_arrayClass__int (ty := .int) rfl hK hP hD hS hA (fun _ => rfl) (by decide) (by decide +kernel) (Nat.le_of_ble_eq_true rfl) (Nat.le_of_ble_eq_true rfl) (Nat.le_of_ble_eq_true rfl) dX3_init_39 (fun q5 cA H hK2 hP hD hS => ?_)
  have ecA : cA = cs 1 := Option.some.inj (((hK2.2 8 _ rfl).2 : s.vm.findClass _ = some _).symm.trans ((hK.2 1 _ rfl).2 : s.vm.findClass _ = some _))
  subst ecA
  have hP : va_P (dC, dI) vwCl [(h, .inr (4, [.int 0, .int 0, .int 0, .int 0, .ref q1, .ref q2, .ref q3, .ref q4, .null, .null, .null])), (q1, .inl (cs 2, 6, .inr (.inl (fun _ => 0)))), (q2, .inl (cs 1, 6, .inl (fun _ => 0))), (q3, .inl (cs 1, 6, .inl (fun _ => 0))), (q4, .inl (cs 2, 8, .inr (.inl (fun _ => 0)))), (q5, .inl (cs 1, 8, .inl (fun _ => 0)))] H := hP
  have hD : va_D (va_A [(h, .inr (4, [.int 0, .int 0, .int 0, .int 0, .null, .null, .null, .null, .null, .null, .null]))] s.heap.size) [(h, .inr (4, [.int 0, .int 0, .int 0, .int 0, .ref q1, .ref q2, .ref q3, .ref q4, .null, .null, .null])), (q1, .inl (cs 2, 6, .inr (.inl (fun _ => 0)))), (q2, .inl (cs 1, 6, .inl (fun _ => 0))), (q3, .inl (cs 1, 6, .inl (fun _ => 0))), (q4, .inl (cs 2, 8, .inr (.inl (fun _ => 0)))), (q5, .inl (cs 1, 8, .inl (fun _ => 0)))] := hD
  refine va_putF (D := (dC, dI)) (ci := 4) (v := .ref q5) (ty := .array .int) (C := RX3) (T := TX3) (N := 11) hx hb hts hin tyX3 tyX3_ok nmX3 hown hK hP hD hS 0 rfl rfl 8 (by decide) k_fieldLink_RX3_25__KeyLetters_Office___sizes____I_ (fun _ h9 => h9) rfl hmi rfl (by decide +kernel) rfl rfl (Nat.le_of_ble_eq_true rfl) dX3_init_41 (fun H locs hP hD hS => ?_)
  have hP : va_P (dC, dI) vwCl [(h, .inr (4, [.int 0, .int 0, .int 0, .int 0, .ref q1, .ref q2, .ref q3, .ref q4, .ref q5, .null, .null])), (q1, .inl (cs 2, 6, .inr (.inl (fun _ => 0)))), (q2, .inl (cs 1, 6, .inl (fun _ => 0))), (q3, .inl (cs 1, 6, .inl (fun _ => 0))), (q4, .inl (cs 2, 8, .inr (.inl (fun _ => 0)))), (q5, .inl (cs 1, 8, .inl (fun _ => 0)))] H := hP
  have hD : va_D (va_A [(h, .inr (4, [.int 0, .int 0, .int 0, .int 0, .null, .null, .null, .null, .null, .null, .null]))] s.heap.size) [(h, .inr (4, [.int 0, .int 0, .int 0, .int 0, .ref q1, .ref q2, .ref q3, .ref q4, .ref q5, .null, .null])), (q1, .inl (cs 2, 6, .inr (.inl (fun _ => 0)))), (q2, .inl (cs 1, 6, .inl (fun _ => 0))), (q3, .inl (cs 1, 6, .inl (fun _ => 0))), (q4, .inl (cs 2, 8, .inr (.inl (fun _ => 0)))), (q5, .inl (cs 1, 8, .inl (fun _ => 0)))] := hD
  refine lv_aload_n hx hb dX3_init_44 rfl (lv_at hl 0 rfl) ?_
  refine lv_bipush (v := 8) hx hb dX3_init_45 (by decide) ?_
  refine va_newa (atype := .int) (a0 := (8, .inl (fun _ => 0))) (N' := 8) hx hb k_arrayClass__int (ty := .int) rfl hK hP hD hS hA (fun _ => rfl) (by decide) (by decide +kernel) (Nat.le_of_ble_eq_true rfl) (Nat.le_of_ble_eq_true rfl) (Nat.le_of_ble_eq_true rfl) dX3_init_47 (fun q6 cA H hK2 hP hD hS => ?_)
  have ecA : cA = cs 1 := Option.some.inj (((hK2.2 8 _ rfl).2 : s.vm.findClass _ = some _).symm.trans ((hK.2 1 _ rfl).2 : s.vm.findClass _ = some _))
  subst ecA
  have hP : va_P (dC, dI) vwCl [(h, .inr (4, [.int 0, .int 0, .int 0, .int 0, .ref q1, .ref q2, .ref q3, .ref q4, .ref q5, .null, .null])), (q1, .inl (cs 2, 6, .inr (.inl (fun _ => 0)))), (q2, .inl (cs 1, 6, .inl (fun _ => 0))), (q3, .inl (cs 1, 6, .inl (fun _ => 0))), (q4, .inl (cs 2, 8, .inr (.inl (fun _ => 0)))), (q5, .inl (cs 1, 8, .inl (fun _ => 0))), (q6, .inl (cs 1, 8, .inl (fun _ => 0)))] H := hP
  have hD : va_D (va_A [(h, .inr (4, [.int 0, .int 0, .int 0, .int 0, .null, .null, .null, .null, .null, .null, .null]))] s.heap.size) [(h, .inr (4, [.int 0, .int 0, .int 0, .int 0, .ref q1, .ref q2, .ref q3, .ref q4, .ref q5, .null, .null])), (q1, .inl (cs 2, 6, .inr (.inl (fun _ => 0)))), (q2, .inl (cs 1, 6, .inl (fun _ => 0))), (q3, .inl (cs 1, 6, .inl (fun _ => 0))), (q4, .inl (cs 2, 8, .inr (.inl (fun _ => 0)))), (q5, .inl (cs 1, 8, .inl (fun _ => 0))), (q6, .inl (cs 1, 8, .inl (fun _ => 0)))] := hD
  refine va_putF (D := (dC, dI)) (ci := 4) (v := .ref q6) (ty := .array .int) (C := RX3) (T := TX3) (N := 11) hx hb hts hin tyX3 tyX3_ok nmX3 hown hK hP hD hS 0 rfl rfl 9 (by decide) k_fieldLink_RX3_28__KeyLetters_Office___claims____I_ (fun _ h9 => h9) rfl hmi rfl (by decide +kernel) rfl rfl (Nat.le_of_ble_eq_true rfl) dX3_init_49 (fun H locs hP hD hS => ?_)
  have hP : va_P (dC, dI) vwCl [(h, .inr (4, [.int 0, .int 0, .int 0, .int 0, .ref q1, .ref q2, .ref q3, .ref q4, .ref q5, .ref q6, .null])), (q1, .inl (cs 2, 6, .inr (.inl (fun _ => 0)))), (q2, .inl (cs 1, 6, .inl (fun _ => 0))), (q3, .inl (cs 1, 6, .inl (fun _ => 0))), (q4, .inl (cs 2, 8, .inr (.inl (fun _ => 0)))), (q5, .inl (cs 1, 8, .inl (fun _ => 0))), (q6, .inl (cs 1, 8, .inl (fun _ => 0)))] H := hP
  have hD : va_D (va_A [(h, .inr (4, [.int 0, .int 0, .int 0, .int 0, .null, .null, .null, .null, .null, .null, .null]))] s.heap.size) [(h, .inr (4, [.int 0, .int 0, .int 0, .int 0, .ref q1, .ref q2, .ref q3, .ref q4, .ref q5, .ref q6, .null])), (q1, .inl (cs 2, 6, .inr (.inl (fun _ => 0)))), (q2, .inl (cs 1, 6, .inl (fun _ => 0))), (q3, .inl (cs 1, 6, .inl (fun _ => 0))), (q4, .inl (cs 2, 8, .inr (.inl (fun _ => 0)))), (q5, .inl (cs 1, 8, .inl (fun _ => 0))), (q6, .inl (cs 1, 8, .inl (fun _ => 0)))] := hD
  refine lv_aload_n hx hb dX3_init_52 rfl (lv_at hl 0 rfl) ?_
  refine lv_bipush (v := 8) hx hb dX3_init_53 (by decide) ?_
  refine va_newa (atype := .int) (a0 := (8, .inl (fun _ => 0))) (N' := 8) hx hb k_arrayClass__int (ty := .int) rfl hK hP hD hS hA (fun _ => rfl) (by decide) (by decide +kernel) (Nat.le_of_ble_eq_true rfl) (Nat.le_of_ble_eq_true rfl) (Nat.le_of_ble_eq_true rfl) dX3_init_55 (fun q7 cA H hK2 hP hD hS => ?_)
  have ecA : cA = cs 1 := Option.some.inj (((hK2.2 8 _ rfl).2 : s.vm.findClass _ = some _).symm.trans ((hK.2 1 _ rfl).2 : s.vm.findClass _ = some _))
  subst ecA
  have hP : va_P (dC, dI) vwCl [(h, .inr (4, [.int 0, .int 0, .int 0, .int 0, .ref q1, .ref q2, .ref q3, .ref q4, .ref q5, .ref q6, .null])), (q1, .inl (cs 2, 6, .inr (.inl (fun _ => 0)))), (q2, .inl (cs 1, 6, .inl (fun _ => 0))), (q3, .inl (cs 1, 6, .inl (fun _ => 0))), (q4, .inl (cs 2, 8, .inr (.inl (fun _ => 0)))), (q5, .inl (cs 1, 8, .inl (fun _ => 0))), (q6, .inl (cs 1, 8, .inl (fun _ => 0))), (q7, .inl (cs 1, 8, .inl (fun _ => 0)))] H := hP
  have hD : va_D (va_A [(h, .inr (4, [.int 0, .int 0, .int 0, .int 0, .null, .null, .null, .null, .null, .null, .null]))] s.heap.size) [(h, .inr (4, [.int 0, .int 0, .int 0, .int 0, .ref q1, .ref q2, .ref q3, .ref q4, .ref q5, .ref q6, .null])), (q1, .inl (cs 2, 6, .inr (.inl (fun _ => 0)))), (q2, .inl (cs 1, 6, .inl (fun _ => 0))), (q3, .inl (cs 1, 6, .inl (fun _ => 0))), (q4, .inl (cs 2, 8, .inr (.inl (fun _ => 0)))), (q5, .inl (cs 1, 8, .inl (fun _ => 0))), (q6, .inl (cs 1, 8, .inl (fun _ => 0))), (q7, .inl (cs 1, 8, .inl (fun _ => 0)))] := hD
  refine va_putF (D := (dC, dI)) (ci := 4) (v := .ref q7) (ty := .array .int) (C := RX3) (T := TX3) (N := 11) hx hb hts hin tyX3 tyX3_ok nmX3 hown hK hP hD hS 0 rfl rfl 10 (by decide) k_fieldLink_RX3_31__KeyLetters_Office___answers____I_ (fun _ h9 => h9) rfl hmi rfl (by decide +kernel) rfl rfl (Nat.le_of_ble_eq_true rfl) dX3_init_57 (fun H locs hP hD hS => ?_)
  have hP : va_P (dC, dI) vwCl [(h, .inr (4, [.int 0, .int 0, .int 0, .int 0, .ref q1, .ref q2, .ref q3, .ref q4, .ref q5, .ref q6, .ref q7])), (q1, .inl (cs 2, 6, .inr (.inl (fun _ => 0)))), (q2, .inl (cs 1, 6, .inl (fun _ => 0))), (q3, .inl (cs 1, 6, .inl (fun _ => 0))), (q4, .inl (cs 2, 8, .inr (.inl (fun _ => 0)))), (q5, .inl (cs 1, 8, .inl (fun _ => 0))), (q6, .inl (cs 1, 8, .inl (fun _ => 0))), (q7, .inl (cs 1, 8, .inl (fun _ => 0)))] H := hP
  have hD : va_D (va_A [(h, .inr (4, [.int 0, .int 0, .int 0, .int 0, .null, .null, .null, .null, .null, .null, .null]))] s.heap.size) [(h, .inr (4, [.int 0, .int 0, .int 0, .int 0, .ref q1, .ref q2, .ref q3, .ref q4, .ref q5, .ref q6, .ref q7])), (q1, .inl (cs 2, 6, .inr (.inl (fun _ => 0)))), (q2, .inl (cs 1, 6, .inl (fun _ => 0))), (q3, .inl (cs 1, 6, .inl (fun _ => 0))), (q4, .inl (cs 2, 8, .inr (.inl (fun _ => 0)))), (q5, .inl (cs 1, 8, .inl (fun _ => 0))), (q6, .inl (cs 1, 8, .inl (fun _ => 0))), (q7, .inl (cs 1, 8, .inl (fun _ => 0)))] := hD
  obtain ⟨ra, hra⟩ : ∃ z : Nat → Nat, z = (fun k => match k with | 0 => h | 4 => q1 | 5 => q2 | 6 => q3 | 7 => q4 | 8 => q5 | 9 => q6 | 10 => q7 | _ => 0) := ⟨_, rfl⟩
  have hP9 : va_P (dC, dI) vwCl (wX3 cs ad ra iX3) H := hP.sub [0, 1, 2, 3, 4, 5, 6, 7] (by rw [hra]; rfl)
  have hD9 : va_D (va_A [(h, .inr (4, [.int 0, .int 0, .int 0, .int 0, .null, .null, .null, .null, .null, .null, .null]))] s.heap.size) (wX3 cs ad ra iX3) := hD.sub [0, 1, 2, 3, 4, 5, 6, 7] rfl (by rw [hra]; rfl)
  exact W.vret hx hb hr (fun t ht hW => ⟨⟨ra, rfl, show ra 0 = h by rw [hra]; rfl, by rw [ht]; exact hP9, va_K.moved hW.alike hK, hD9⟩, hS.F ht⟩) hS.2.2 dX3_init_60
def iX8 : kD := (fun a k => if a = 2 then (-1) else 0, fun _ _ => 0)
abbrev rm_X8_init : Room := { frames := 1, cells := 4, slots := 140, locals := 12 }
set_option maxHeartbeats 4000000 in
set_option maxRecDepth 100000 in
theorem c_X8_init (l : Launch) (dC : Nat → ClassId) (dI : Nat → Nat → Nat) (cs : Nat → ClassId) (ad : Nat → Nat) (h : Nat) (sz : Nat) : Met l yX8_init wsX8_init rm_X8_init (va_Pc [.ref h] (fun U => cPw dC dI cs sz [(h, .inr (9, [.int 0, .int 0, .null, .null, .null, .null]))] U ∧ kAO U ∧ kE ad (va_A [(h, .inr (9, [.int 0, .int 0, .null, .null, .null, .null]))] sz) U U.heap)) (cQn dC dI cs (va_A [(h, .inr (9, [.int 0, .int 0, .null, .null, .null, .null]))] sz) (fun ra => ra 0 = h) (fun ra => wX8 cs ad ra iX8)) 4 140 (va_A [(h, .inr (9, [.int 0, .int 0, .null, .null, .null, .null]))] sz) := by
  refine Met.ofW (cc := cX8_init) (maxL := 1) (ret := none) (by decide) rfl ?_
  intro p e s m args below meth c s₁ B hml hv
  obtain ⟨hav, ⟨hsz, hP, hK, hD0, hN⟩, hAO, hE⟩ := hv
  have hx := B.exec
  have hb := B.bytes
  have hr := B.returns
  have hts := atoms_spec (ws := wsX8_init) B.pre
  have hown : s.vm.findClass RX8 = some m.cls := findClass_of_methodNamed B.named
  have hlocks := B.notSynchronized
  have hmi : meth.name = "<init>" := (name_of_methodNamed B.named B.method).1
  subst hsz
  have hA : ∀ q, s.heap.size ≤ q → va_A [(h, .inr (9, [.int 0, .int 0, .null, .null, .null, .null]))] s.heap.size q := fun q h => Or.inr h
  have hD : va_D (va_A [(h, .inr (9, [.int 0, .int 0, .null, .null, .null, .null]))] s.heap.size) [(h, .inr (9, [.int 0, .int 0, .null, .null, .null, .null]))] := hD0.self
  have hS : va_S (va_A [(h, .inr (9, [.int 0, .int 0, .null, .null, .null, .null]))] s.heap.size) s.heap s.heap [] := va_S.rf
  have k_methodLink_RX8_3_objectInit := hts (.methodLink RX8 3 objectInit) (by decide +kernel)
  have k_instanceMethod_objectInit := hts (.instanceMethod objectInit) (by decide +kernel)
  have k_classLink_RX8_11_RX10 := hts (.classLink RX8 11 RX10) (by decide +kernel)
  have knk_RX8_13__KeyLetters_Sentence___words____LKeyLetters_Word__ := hts (.fieldLink RX8 13 "KeyLetters$Sentence" "words" "[LKeyLetters$Word;") (by decide +kernel)
  have k_arrayClass__int := hts (.arrayClass .int) (by decide +kernel)
  have k_fieldLink_RX8_17__KeyLetters_Sentence___signs____I_ := hts (.fieldLink RX8 17 "KeyLetters$Sentence" "signs" "[I") (by decide +kernel)
  have k_fieldLink_RX8_21__KeyLetters_Sentence___numbers____I_ := hts (.fieldLink RX8 21 "KeyLetters$Sentence" "numbers" "[I") (by decide +kernel)
  have k_fieldLink_RX8_24__KeyLetters_Sentence___open____I_ := hts (.fieldLink RX8 24 "KeyLetters$Sentence" "open" "[I") (by decide +kernel)
  have hl := lv_entry ([.ref h]) (n := 1) (Nat.le_of_ble_eq_true rfl)
  rw [show entryFrame m args 1 = entryFrame m ([.ref h] : List Value).toArray 1 from by rw [hav], lg_entry_eq]
  generalize (lg_sl ([.ref h]) ++ List.replicate (1 - (lg_sl ([.ref h])).length) Slot.unset).toArray = ls at hl ⊢
  have hl : lv_has ls 1 [(0, .ref h)] := hl
  have hin : ∀ w ∈ wsX80, w ∈ wsX8_init := fun w h => List.mem_cons_of_mem _ (List.mem_append_right _ h)
  refine lv_aload_n hx hb dX8_init_0 rfl (lv_at hl 0 rfl) ?_
  refine W.objInit hx hb hown k_methodLink_RX8_3_objectInit k_instanceMethod_objectInit (hts (.code objectInit ⟨#[0xb1]⟩ 1 none) (by decide +kernel)) rfl (by rw [hml]; exact hl.1) rfl dX8_init_1 (Nat.le_of_ble_eq_true rfl) (Nat.le_of_ble_eq_true rfl) ?_
  refine W.eq (g2 := F0 m 4 ls []) rfl ?_
  refine lv_aload_n hx hb dX8_init_4 rfl (lv_at hl 0 rfl) ?_
  refine lv_bipush (v := 40) hx hb dX8_init_5 (by decide) ?_
  refine va_newq (C := "KeyLetters$Word") (N' := 40) hx hb hown k_classLink_RX8_11_RX10 hAO.1 hK hP hD hS hA (by decide) (by decide +kernel) (Nat.le_of_ble_eq_true rfl) (Nat.le_of_ble_eq_true rfl) (Nat.le_of_ble_eq_true rfl) dX8_init_7 (fun q1 cA H hK2 hP hD hS => ?_)
  have ecA : cA = cs 4 := kt_arrq hK2 (i := 8) (j := 4) rfl rfl
  subst ecA
  have hP : va_P (dC, dI) vwCl [(h, .inr (9, [.int 0, .int 0, .null, .null, .null, .null])), (q1, .inl (cs 4, 40, .inr (.inr (.inr (.inr (fun j => kW ad (-1)))))))] H := hP
  have hD : va_D (va_A [(h, .inr (9, [.int 0, .int 0, .null, .null, .null, .null]))] s.heap.size) [(h, .inr (9, [.int 0, .int 0, .null, .null, .null, .null])), (q1, .inl (cs 4, 40, .inr (.inr (.inr (.inr (fun j => kW ad (-1)))))))] := hD
  refine va_putF (D := (dC, dI)) (ci := 9) (v := .ref q1) (ty := .array (.object "KeyLetters$Word")) (C := RX8) (T := TX8) (N := 6) hx hb hts hin tyX8 tyX8_ok nmX8 hown hK hP hD hS 0 rfl rfl 2 (by decide) knk_RX8_13__KeyLetters_Sentence___words____LKeyLetters_Word__ (fun _ h9 => h9) rfl hmi rfl (by decide +kernel) rfl rfl (Nat.le_of_ble_eq_true rfl) dX8_init_10 (fun H locs hP hD hS => ?_)
  have hP : va_P (dC, dI) vwCl [(h, .inr (9, [.int 0, .int 0, .ref q1, .null, .null, .null])), (q1, .inl (cs 4, 40, .inr (.inr (.inr (.inr (fun j => kW ad (-1)))))))] H := hP
  have hD : va_D (va_A [(h, .inr (9, [.int 0, .int 0, .null, .null, .null, .null]))] s.heap.size) [(h, .inr (9, [.int 0, .int 0, .ref q1, .null, .null, .null])), (q1, .inl (cs 4, 40, .inr (.inr (.inr (.inr (fun j => kW ad (-1)))))))] := hD
  refine lv_aload_n hx hb dX8_init_13 rfl (lv_at hl 0 rfl) ?_
  refine lv_bipush (v := 40) hx hb dX8_init_14 (by decide) ?_
  refine va_newa (atype := .int) (a0 := (40, .inl (fun _ => 0))) (N' := 40) hx hb k_arrayClass__int (ty := .int) rfl hK hP hD hS hA (fun _ => rfl) (by decide) (by decide +kernel) (Nat.le_of_ble_eq_true rfl) (Nat.le_of_ble_eq_true rfl) (Nat.le_of_ble_eq_true rfl) dX8_init_16 (fun q2 cA H hK2 hP hD hS => ?_)
  have ecA : cA = cs 1 := Option.some.inj (((hK2.2 8 _ rfl).2 : s.vm.findClass _ = some _).symm.trans ((hK.2 1 _ rfl).2 : s.vm.findClass _ = some _))
  subst ecA
  have hP : va_P (dC, dI) vwCl [(h, .inr (9, [.int 0, .int 0, .ref q1, .null, .null, .null])), (q1, .inl (cs 4, 40, .inr (.inr (.inr (.inr (fun j => kW ad (-1))))))), (q2, .inl (cs 1, 40, .inl (fun _ => 0)))] H := hP
  have hD : va_D (va_A [(h, .inr (9, [.int 0, .int 0, .null, .null, .null, .null]))] s.heap.size) [(h, .inr (9, [.int 0, .int 0, .ref q1, .null, .null, .null])), (q1, .inl (cs 4, 40, .inr (.inr (.inr (.inr (fun j => kW ad (-1))))))), (q2, .inl (cs 1, 40, .inl (fun _ => 0)))] := hD
  refine va_putF (D := (dC, dI)) (ci := 9) (v := .ref q2) (ty := .array .int) (C := RX8) (T := TX8) (N := 6) hx hb hts hin tyX8 tyX8_ok nmX8 hown hK hP hD hS 0 rfl rfl 3 (by decide) k_fieldLink_RX8_17__KeyLetters_Sentence___signs____I_ (fun _ h9 => h9) rfl hmi rfl (by decide +kernel) rfl rfl (Nat.le_of_ble_eq_true rfl) dX8_init_18 (fun H locs hP hD hS => ?_)
  have hP : va_P (dC, dI) vwCl [(h, .inr (9, [.int 0, .int 0, .ref q1, .ref q2, .null, .null])), (q1, .inl (cs 4, 40, .inr (.inr (.inr (.inr (fun j => kW ad (-1))))))), (q2, .inl (cs 1, 40, .inl (fun _ => 0)))] H := hP
  have hD : va_D (va_A [(h, .inr (9, [.int 0, .int 0, .null, .null, .null, .null]))] s.heap.size) [(h, .inr (9, [.int 0, .int 0, .ref q1, .ref q2, .null, .null])), (q1, .inl (cs 4, 40, .inr (.inr (.inr (.inr (fun j => kW ad (-1))))))), (q2, .inl (cs 1, 40, .inl (fun _ => 0)))] := hD
  refine lv_aload_n hx hb dX8_init_21 rfl (lv_at hl 0 rfl) ?_
  refine lv_bipush (v := 40) hx hb dX8_init_22 (by decide) ?_
  refine va_newa (atype := .int) (a0 := (40, .inl (fun _ => 0))) (N' := 40) hx hb k_arrayClass__int (ty := .int) rfl hK hP hD hS hA (fun _ => rfl) (by decide) (by decide +kernel) (Nat.le_of_ble_eq_true rfl) (Nat.le_of_ble_eq_true rfl) (Nat.le_of_ble_eq_true rfl) dX8_init_24 (fun q3 cA H hK2 hP hD hS => ?_)
  have ecA : cA = cs 1 := Option.some.inj (((hK2.2 8 _ rfl).2 : s.vm.findClass _ = some _).symm.trans ((hK.2 1 _ rfl).2 : s.vm.findClass _ = some _))
  subst ecA
  have hP : va_P (dC, dI) vwCl [(h, .inr (9, [.int 0, .int 0, .ref q1, .ref q2, .null, .null])), (q1, .inl (cs 4, 40, .inr (.inr (.inr (.inr (fun j => kW ad (-1))))))), (q2, .inl (cs 1, 40, .inl (fun _ => 0))), (q3, .inl (cs 1, 40, .inl (fun _ => 0)))] H := hP
  have hD : va_D (va_A [(h, .inr (9, [.int 0, .int 0, .null, .null, .null, .null]))] s.heap.size) [(h, .inr (9, [.int 0, .int 0, .ref q1, .ref q2, .null, .null])), (q1, .inl (cs 4, 40, .inr (.inr (.inr (.inr (fun j => kW ad (-1))))))), (q2, .inl (cs 1, 40, .inl (fun _ => 0))), (q3, .inl (cs 1, 40, .inl (fun _ => 0)))] := hD
  refine va_putF (D := (dC, dI)) (ci := 9) (v := .ref q3) (ty := .array .int) (C := RX8) (T := TX8) (N := 6) hx hb hts hin tyX8 tyX8_ok nmX8 hown hK hP hD hS 0 rfl rfl 4 (by decide) k_fieldLink_RX8_21__KeyLetters_Sentence___numbers____I_ (fun _ h9 => h9) rfl hmi rfl (by decide +kernel) rfl rfl (Nat.le_of_ble_eq_true rfl) dX8_init_26 (fun H locs hP hD hS => ?_)
  have hP : va_P (dC, dI) vwCl [(h, .inr (9, [.int 0, .int 0, .ref q1, .ref q2, .ref q3, .null])), (q1, .inl (cs 4, 40, .inr (.inr (.inr (.inr (fun j => kW ad (-1))))))), (q2, .inl (cs 1, 40, .inl (fun _ => 0))), (q3, .inl (cs 1, 40, .inl (fun _ => 0)))] H := hP
  have hD : va_D (va_A [(h, .inr (9, [.int 0, .int 0, .null, .null, .null, .null]))] s.heap.size) [(h, .inr (9, [.int 0, .int 0, .ref q1, .ref q2, .ref q3, .null])), (q1, .inl (cs 4, 40, .inr (.inr (.inr (.inr (fun j => kW ad (-1))))))), (q2, .inl (cs 1, 40, .inl (fun _ => 0))), (q3, .inl (cs 1, 40, .inl (fun _ => 0)))] := hD
  refine lv_aload_n hx hb dX8_init_29 rfl (lv_at hl 0 rfl) ?_
  refine lv_bipush (v := 20) hx hb dX8_init_30 (by decide) ?_
  refine va_newa (atype := .int) (a0 := (20, .inl (fun _ => 0))) (N' := 20) hx hb k_arrayClass__int (ty := .int) rfl hK hP hD hS hA (fun _ => rfl) (by decide) (by decide +kernel) (Nat.le_of_ble_eq_true rfl) (Nat.le_of_ble_eq_true rfl) (Nat.le_of_ble_eq_true rfl) dX8_init_32 (fun q4 cA H hK2 hP hD hS => ?_)
  have ecA : cA = cs 1 := Option.some.inj (((hK2.2 8 _ rfl).2 : s.vm.findClass _ = some _).symm.trans ((hK.2 1 _ rfl).2 : s.vm.findClass _ = some _))
  subst ecA
  have hP : va_P (dC, dI) vwCl [(h, .inr (9, [.int 0, .int 0, .ref q1, .ref q2, .ref q3, .null])), (q1, .inl (cs 4, 40, .inr (.inr (.inr (.inr (fun j => kW ad (-1))))))), (q2, .inl (cs 1, 40, .inl (fun _ => 0))), (q3, .inl (cs 1, 40, .inl (fun _ => 0))), (q4, .inl (cs 1, 20, .inl (fun _ => 0)))] H := hP
  have hD : va_D (va_A [(h, .inr (9, [.int 0, .int 0, .null, .null, .null, .null]))] s.heap.size) [(h, .inr (9, [.int 0, .int 0, .ref q1, .ref q2, .ref q3, .null])), (q1, .inl (cs 4, 40, .inr (.inr (.inr (.inr (fun j => kW ad (-1))))))), (q2, .inl (cs 1, 40, .inl (fun _ => 0))), (q3, .inl (cs 1, 40, .inl (fun _ => 0))), (q4, .inl (cs 1, 20, .inl (fun _ => 0)))] := hD
  refine va_putF (D := (dC, dI)) (ci := 9) (v := .ref q4) (ty := .array .int) (C := RX8) (T := TX8) (N := 6) hx hb hts hin tyX8 tyX8_ok nmX8 hown hK hP hD hS 0 rfl rfl 5 (by decide) k_fieldLink_RX8_24__KeyLetters_Sentence___open____I_ (fun _ h9 => h9) rfl hmi rfl (by decide +kernel) rfl rfl (Nat.le_of_ble_eq_true rfl) dX8_init_34 (fun H locs hP hD hS => ?_)
  have hP : va_P (dC, dI) vwCl [(h, .inr (9, [.int 0, .int 0, .ref q1, .ref q2, .ref q3, .ref q4])), (q1, .inl (cs 4, 40, .inr (.inr (.inr (.inr (fun j => kW ad (-1))))))), (q2, .inl (cs 1, 40, .inl (fun _ => 0))), (q3, .inl (cs 1, 40, .inl (fun _ => 0))), (q4, .inl (cs 1, 20, .inl (fun _ => 0)))] H := hP
  have hD : va_D (va_A [(h, .inr (9, [.int 0, .int 0, .null, .null, .null, .null]))] s.heap.size) [(h, .inr (9, [.int 0, .int 0, .ref q1, .ref q2, .ref q3, .ref q4])), (q1, .inl (cs 4, 40, .inr (.inr (.inr (.inr (fun j => kW ad (-1))))))), (q2, .inl (cs 1, 40, .inl (fun _ => 0))), (q3, .inl (cs 1, 40, .inl (fun _ => 0))), (q4, .inl (cs 1, 20, .inl (fun _ => 0)))] := hD
  obtain ⟨ra, hra⟩ : ∃ z : Nat → Nat, z = (fun k => match k with | 0 => h | 2 => q1 | 3 => q2 | 4 => q3 | 5 => q4 | _ => 0) := ⟨_, rfl⟩
  have hP9 : va_P (dC, dI) vwCl (wX8 cs ad ra iX8) H := hP.sub [0, 1, 2, 3, 4] (by rw [hra]; rfl)
  have hD9 : va_D (va_A [(h, .inr (9, [.int 0, .int 0, .null, .null, .null, .null]))] s.heap.size) (wX8 cs ad ra iX8) := hD.sub [0, 1, 2, 3, 4] rfl (by rw [hra]; rfl)
  exact W.vret hx hb hr (fun t ht hW => ⟨⟨ra, rfl, show ra 0 = h by rw [hra]; rfl, by rw [ht]; exact hP9, va_K.moved hW.alike hK, hD9⟩, hS.F ht⟩) hS.2.2 dX8_init_37
