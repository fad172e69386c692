def iX4 : kD := (fun a k => 0, fun _ _ => 0)
abbrev rm_X4_init : Room := { frames := 1, cells := 1, slots := 0, locals := 12 }
set_option maxHeartbeats 4000000 in
set_option maxRecDepth 100000 in
theorem c_X4_init (l : Launch) (dC : Nat → ClassId) (dI : Nat → Nat → Nat) (cs : Nat → ClassId) (ad : Nat → Nat) (h : Nat) (sz : Nat) (xb : Nat) : Met l yX4_init wsX4_init rm_X4_init (va_Pc [.ref h] (fun U => cPw dC dI cs sz [(h, .inr (5, [.null, .int 0, .int 0, .int 0, .int 0, .int 0, .null, .long 0, .int 0, .int 0, .int 0]))] U ∧ kAO U ∧ kE ad (va_A [(h, .inr (5, [.null, .int 0, .int 0, .int 0, .int 0, .int 0, .null, .long 0, .int 0, .int 0, .int 0]))] sz) U U.heap)) (cQn dC dI cs (va_A [(h, .inr (5, [.null, .int 0, .int 0, .int 0, .int 0, .int 0, .null, .long 0, .int 0, .int 0, .int 0]))] sz) (fun ra => ra 0 = h) (fun ra => wX4 cs ad ra (ra 100) xb iX4)) 1 0 (va_A [(h, .inr (5, [.null, .int 0, .int 0, .int 0, .int 0, .int 0, .null, .long 0, .int 0, .int 0, .int 0]))] sz) := by
  refine Met.ofW (cc := cX4_init) (maxL := 1) (ret := none) (by decide) rfl ?_
  intro p e s m args below meth c s₁ B hml hv
  obtain ⟨hav, ⟨hsz, hP, hK, hD0, hN⟩, hAO, hE⟩ := hv
  have hx := B.exec
  have hb := B.bytes
  have hr := B.returns
  have hts := atoms_spec (ws := wsX4_init) B.pre
  have hown : s.vm.findClass RX4 = some m.cls := findClass_of_methodNamed B.named
  have hlocks := B.notSynchronized
  have hmi : meth.name = "<init>" := (name_of_methodNamed B.named B.method).1
  subst hsz
  have hA : ∀ q, s.heap.size ≤ q → va_A [(h, .inr (5, [.null, .int 0, .int 0, .int 0, .int 0, .int 0, .null, .long 0, .int 0, .int 0, .int 0]))] s.heap.size q := fun q h => Or.inr h
  have hD : va_D (va_A [(h, .inr (5, [.null, .int 0, .int 0, .int 0, .int 0, .int 0, .null, .long 0, .int 0, .int 0, .int 0]))] s.heap.size) [(h, .inr (5, [.null, .int 0, .int 0, .int 0, .int 0, .int 0, .null, .long 0, .int 0, .int 0, .int 0]))] := hD0.self
  have hS : va_S (va_A [(h, .inr (5, [.null, .int 0, .int 0, .int 0, .int 0, .int 0, .null, .long 0, .int 0, .int 0, .int 0]))] s.heap.size) s.heap s.heap [] := va_S.rf
  have k_methodLink_RX4_3_objectInit := hts (.methodLink RX4 3 objectInit) (by decide +kernel)
  have k_instanceMethod_objectInit := hts (.instanceMethod objectInit) (by decide +kernel)
  have k_arrayClass__int := hts (.arrayClass .int) (by decide +kernel)
  have k_fieldLink_RX4_9__KeyLetters_Reader___text____I_ := hts (.fieldLink RX4 9 "KeyLetters$Reader" "text" "[I") (by decide +kernel)
  have keldLink_RX4_15__KeyLetters_Word___OTHER___LKeyLetters_Word__ := hts (.fieldLink RX4 15 "KeyLetters$Word" "OTHER" "LKeyLetters$Word;") (by decide +kernel)
  have kldLink_RX4_21__KeyLetters_Reader___word___LKeyLetters_Word__ := hts (.fieldLink RX4 21 "KeyLetters$Reader" "word" "LKeyLetters$Word;") (by decide +kernel)
  have hl := lv_entry ([.ref h]) (n := 1) (Nat.le_of_ble_eq_true rfl)
  rw [show entryFrame m args 1 = entryFrame m ([.ref h] : List Value).toArray 1 from by rw [hav], lg_entry_eq]
  generalize (lg_sl ([.ref h]) ++ List.replicate (1 - (lg_sl ([.ref h])).length) Slot.unset).toArray = ls at hl ⊢
  have hl : lv_has ls 1 [(0, .ref h)] := hl
  have hin : ∀ w ∈ wsX40, w ∈ wsX4_init := fun w h => List.mem_cons_of_mem _ (List.mem_append_right _ h)
  refine lv_aload_n hx hb dX4_init_0 rfl (lv_at hl 0 rfl) ?_
  refine W.objInit hx hb hown k_methodLink_RX4_3_objectInit k_instanceMethod_objectInit (hts (.code objectInit ⟨#[0xb1]⟩ 1 none) (by decide +kernel)) rfl (by rw [hml]; exact hl.1) rfl dX4_init_1 (Nat.le_of_ble_eq_true rfl) (Nat.le_of_ble_eq_true rfl) ?_
  refine W.eq (g2 := F0 m 4 ls []) rfl ?_
  refine lv_aload_n hx hb dX4_init_4 rfl (lv_at hl 0 rfl) ?_
  refine lv_iconst (v := 0) hx hb dX4_init_5 (by decide) ?_
  refine va_newa (atype := .int) (a0 := (0, .inl (fun _ => 0))) (N' := 0) hx hb k_arrayClass__int (ty := .int) rfl hK hP hD hS hA (fun _ => rfl) (by decide) (by decide +kernel) (Nat.le_of_ble_eq_true rfl) (Nat.le_of_ble_eq_true rfl) (Nat.le_of_ble_eq_true rfl) dX4_init_6 (fun q1 cA H hK2 hP hD hS => ?_)
  have ecA : cA = cs 1 := Option.some.inj (((hK2.2 8 _ rfl).2 : s.vm.findClass _ = some _).symm.trans ((hK.2 1 _ rfl).2 : s.vm.findClass _ = some _))
  subst ecA
  have hP : va_P (dC, dI) vwCl [(h, .inr (5, [.null, .int 0, .int 0, .int 0, .int 0, .int 0, .null, .long 0, .int 0, .int 0, .int 0])), (q1, .inl (cs 1, 0, .inl (fun _ => 0)))] H := hP
  have hD : va_D (va_A [(h, .inr (5, [.null, .int 0, .int 0, .int 0, .int 0, .int 0, .null, .long 0, .int 0, .int 0, .int 0]))] s.heap.size) [(h, .inr (5, [.null, .int 0, .int 0, .int 0, .int 0, .int 0, .null, .long 0, .int 0, .int 0, .int 0])), (q1, .inl (cs 1, 0, .inl (fun _ => 0)))] := hD
  refine va_put (D := (dC, dI)) (ci := 5) (v := .ref q1) (ty := .array .int) (C := RX4) (T := TX4) (N := 11) hx hb hts hin tyX4 tyX4_ok nmX4 hown hK hP hD hS 0 rfl rfl 0 (by decide) k_fieldLink_RX4_9__KeyLetters_Reader___text____I_ (fun _ h9 => h9) rfl (by decide +kernel) rfl rfl (Nat.le_of_ble_eq_true rfl) dX4_init_8 (fun H locs hP hD hS => ?_)
  have hP : va_P (dC, dI) vwCl [(h, .inr (5, [.ref q1, .int 0, .int 0, .int 0, .int 0, .int 0, .null, .long 0, .int 0, .int 0, .int 0])), (q1, .inl (cs 1, 0, .inl (fun _ => 0)))] H := hP
  have hD : va_D (va_A [(h, .inr (5, [.null, .int 0, .int 0, .int 0, .int 0, .int 0, .null, .long 0, .int 0, .int 0, .int 0]))] s.heap.size) [(h, .inr (5, [.ref q1, .int 0, .int 0, .int 0, .int 0, .int 0, .null, .long 0, .int 0, .int 0, .int 0])), (q1, .inl (cs 1, 0, .inl (fun _ => 0)))] := hD
  refine lv_aload_n hx hb dX4_init_11 rfl (lv_at hl 0 rfl) ?_
  refine va_gets hx hb (show va_Z "KeyLetters$Word" "OTHER" "LKeyLetters$Word;" (.ref (ad 0)) _ s s.heap from (hE.1.1 0 (by decide)).1) hS hown keldLink_RX4_15__KeyLetters_Word___OTHER___LKeyLetters_Word__ (fun _ h9 => h9) dX4_init_12 ?_
  refine va_put (D := (dC, dI)) (ci := 5) (v := .ref (ad 0)) (ty := .object "KeyLetters$Word") (C := RX4) (T := TX4) (N := 11) hx hb hts hin tyX4 tyX4_ok nmX4 hown hK hP hD hS 0 rfl rfl 6 (by decide) kldLink_RX4_21__KeyLetters_Reader___word___LKeyLetters_Word__ (fun _ h9 => h9) rfl (by decide +kernel) rfl rfl (Nat.le_of_ble_eq_true rfl) dX4_init_15 (fun H locs hP hD hS => ?_)
  have hP : va_P (dC, dI) vwCl [(h, .inr (5, [.ref q1, .int 0, .int 0, .int 0, .int 0, .int 0, .ref (ad 0), .long 0, .int 0, .int 0, .int 0])), (q1, .inl (cs 1, 0, .inl (fun _ => 0)))] H := hP
  have hD : va_D (va_A [(h, .inr (5, [.null, .int 0, .int 0, .int 0, .int 0, .int 0, .null, .long 0, .int 0, .int 0, .int 0]))] s.heap.size) [(h, .inr (5, [.ref q1, .int 0, .int 0, .int 0, .int 0, .int 0, .ref (ad 0), .long 0, .int 0, .int 0, .int 0])), (q1, .inl (cs 1, 0, .inl (fun _ => 0)))] := hD
  obtain ⟨ra, hra⟩ : ∃ z : Nat → Nat, z = (fun k => match k with | 0 => h | 100 => q1 | _ => 0) := ⟨_, rfl⟩
  have e4 : va_rf (kW ad (0 : Int32)) = .ref (ad 0) := kW_in ad (v := 0) (by decide)
  have e9 : wX4 cs ad ra (ra 100) xb iX4 = [(h, .inr (5, [.ref q1, .int 0, .int 0, .int 0, .int 0, .int 0, .ref (ad 0), .long 0, .int 0, .int 0, .int 0]))] := by
    show [(ra 0, Sum.inr (5, [Value.ref (kTx (ra 100) xb 0), .int 0, .int 0, .int 0, .int 0, .int 0, va_rf (kW ad 0), .long 0, .int 0, .int 0, .int 0]))] = _
    rw [e4, hra]; rfl
  have hP9 : va_P (dC, dI) vwCl (wX4 cs ad ra (ra 100) xb iX4) H := by rw [e9]; exact hP.sub [0] rfl
  have hD9 : va_D (va_A [(h, .inr (5, [.null, .int 0, .int 0, .int 0, .int 0, .int 0, .null, .long 0, .int 0, .int 0, .int 0]))] s.heap.size) (wX4 cs ad ra (ra 100) xb iX4) := by rw [e9]; exact hD.sub [0] rfl rfl
  exact W.vret hx hb hr (fun t ht hW => ⟨⟨ra, rfl, show ra 0 = h by rw [hra]; rfl, by rw [ht]; exact hP9, va_K.moved hW.alike hK, hD9⟩, hS.F ht⟩) hS.2.2 dX4_init_18
