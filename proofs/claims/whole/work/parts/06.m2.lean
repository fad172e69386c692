abbrev rm_X12_fault : Room := { frames := 0, cells := 0, slots := 0, locals := 0 }
set_option maxHeartbeats 4000000 in
set_option maxRecDepth 100000 in
theorem c_X12_fault (l : Launch) (dC : Nat → ClassId) (dI : Nat → Nat → Nat) (cB cI cJ cZ : ClassId) (ra : Nat → Nat) (sz : Nat) (M : kD)  (r : (Int32 × kD)) (hf : f_X12_fault  M = some r) : Met l yX12_fault wsX12_fault rm_X12_fault (va_Pc [.ref (ra 0)] (mPw dC dI cB cI cJ cZ ra sz M)) (mQi dC dI cB cI cJ cZ ra sz r) 0 0 (mA ra sz) := by
  refine Met.ofW (cc := cX12_fault) (maxL := 1) (ret := (some .int)) (by decide) rfl ?_
  intro p e s m args below meth c s₁ B hml hv
  obtain ⟨hav, hsz, hP, hK, hD0⟩ := hv
  have hx := B.exec
  have hb := B.bytes
  have hr := B.returns
  have hts := atoms_spec (ws := wsX12_fault) B.pre
  have hown : s.vm.findClass RX12 = some m.cls := findClass_of_methodNamed B.named
  have hlocks := B.notSynchronized
  subst hsz
  have hA : ∀ q, s.heap.size ≤ q → mA ra s.heap.size q := fun q h => Or.inr h
  have hD : va_D (mA ra s.heap.size) (mw cB cI cJ cZ ra M) := hD0.weaken (fun k q h _ => mA_in h)
  have hS : va_S (mA ra s.heap.size) s.heap s.heap [] := va_S.rf
  have hin : ∀ w ∈ wsX120, w ∈ wsX12_fault := fun w h => List.mem_cons_of_mem _ (List.mem_append_right _ h)
  have k_fieldLink_RX12_171__KeyLettersModel___fault___I_ := hts (.fieldLink RX12 171 "KeyLettersModel" "fault" "I") (by decide +kernel)
  have k_fieldLink_RX12_1__KeyLettersModel___thrown___I_ := hts (.fieldLink RX12 1 "KeyLettersModel" "thrown" "I") (by decide +kernel)
  have hl := lv_entry ([.ref (ra 0)]) (n := 1) (Nat.le_of_ble_eq_true rfl)
  rw [show entryFrame m args 1 = entryFrame m ([.ref (ra 0)] : List Value).toArray 1 from by rw [hav], lg_entry_eq]
  generalize (lg_sl ([.ref (ra 0)]) ++ List.replicate (1 - (lg_sl ([.ref (ra 0)])).length) Slot.unset).toArray = ls at hl ⊢
  have hl : lv_has ls 1 [(0, .ref (ra 0))] := hl
  unfold f_X12_fault at hf
  refine lv_aload_n hx hb dX12_fault_0 rfl (lv_at hl 0 rfl) ?_
  refine lv_iconst (v := 0) hx hb dX12_fault_1 (by decide) ?_
  obtain ⟨M1, eM1, hf⟩ := bd1_e hf
  refine km_put hx hb hts hin hown hK hP hD hS 0 (by decide) k_fieldLink_RX12_1__KeyLettersModel___thrown___I_ rfl (ty := .int) (v := .int (0 : Int32)) (by decide +kernel) rfl rfl (M1 := M1) (by rw [eM1]; exact mo_0 cB cI cJ cZ ra M (0 : Int32)) dX12_fault_2 (fun H locs hP hD hS => ?_)
  refine lv_aload_n hx hb dX12_fault_5 rfl (lv_at hl 0 rfl) ?_
  refine km_get hx hb hts hin hown hK hP 15 (by decide) (v := .int (M1.1 0 15)) k_fieldLink_RX12_171__KeyLettersModel___fault___I_ rfl dX12_fault_6 ?_
  have hf := Option.some.inj hf
  subst hf
  exact m_iret hx hb hr hlocks hP hK hD hS dX12_fault_9

abbrev rm_X12_isMachine : Room := { frames := 1, cells := 0, slots := 0, locals := 22 }
set_option maxHeartbeats 4000000 in
set_option maxRecDepth 100000 in
theorem c_X12_isMachine (l : Launch) (dC : Nat → ClassId) (dI : Nat → Nat → Nat) (cB cI cJ cZ : ClassId) (ra : Nat → Nat) (M : kD) (a0 : Int32) (r : Int32) (hf : f_X12_isMachine a0 M = some r) : Met l yX12_isMachine wsX12_isMachine rm_X12_isMachine (va_Pc [.ref (ra 0), .int a0] (mPr dC dI cB cI cJ cZ ra M)) (kQ (some (.int r))) 0 0 (kF) := by
  refine Met.ofW (cc := cX12_isMachine) (maxL := 2) (ret := (some .boolean)) (by decide) rfl ?_
  intro p e s m args below meth c s₁ B hml hv
  obtain ⟨hav, hP, hK⟩ := hv
  have hx := B.exec
  have hb := B.bytes
  have hr := B.returns
  have hts := atoms_spec (ws := wsX12_isMachine) B.pre
  have hown : s.vm.findClass RX12 = some m.cls := findClass_of_methodNamed B.named
  have hlocks := B.notSynchronized
  have hin : ∀ w ∈ wsX120, w ∈ wsX12_isMachine := fun w h => List.mem_cons_of_mem _ (List.mem_append_right _ h)
  have k_fieldLink_RX12_33__KeyLettersModel___s____I_ := hts (.fieldLink RX12 33 "KeyLettersModel" "s" "[I") (by decide +kernel)
  have hl := lv_entry ([.ref (ra 0), .int a0]) (n := 2) (Nat.le_of_ble_eq_true rfl)
  rw [show entryFrame m args 2 = entryFrame m ([.ref (ra 0), .int a0] : List Value).toArray 2 from by rw [hav], lg_entry_eq]
  generalize (lg_sl ([.ref (ra 0), .int a0]) ++ List.replicate (2 - (lg_sl ([.ref (ra 0), .int a0])).length) Slot.unset).toArray = ls at hl ⊢
  have hl : lv_has ls 2 [(0, .ref (ra 0)), (1, .int a0)] := hl
  unfold f_X12_isMachine at hf
  refine lv_iload_n hx hb dX12_isMachine_0 rfl (lv_at hl 1 rfl) ?_
  refine lv_iconst (v := 0) hx hb dX12_isMachine_1 (by decide) ?_
  refine lv_aload_n hx hb dX12_isMachine_2 rfl (lv_at hl 0 rfl) ?_
  refine km_get hx hb hts hin hown hK hP 6 (by decide) (v := .ref (ra 6)) k_fieldLink_RX12_33__KeyLettersModel___s____I_ rfl dX12_isMachine_3 ?_
  refine lv_iconst (v := 0) hx hb dX12_isMachine_6 (by decide) ?_
  refine va_iald hx hb hK hP 2 1 rfl rfl (show ¬ ((0 : Int32) < 0 ∨ 279 ≤ (0 : Int32).toNatClampNeg) by decide +kernel) dX12_isMachine_7 ?_
  refine lv_iconst (v := 1) hx hb dX12_isMachine_8 (by decide) ?_
  refine lv_isub hx hb dX12_isMachine_9 ?_
  refine ko_call (v := some (.int (f_X12_isIn a0 (0 : Int32) ((M.1 6 (0 : Int32).toNatClampNeg) - (1 : Int32))))) (va_runS (As := [.int a0, .int (0 : Int32), .int ((M.1 6 (0 : Int32).toNatClampNeg) - (1 : Int32))]) (rest := []) ⟨hx, hb, hml, hown, hts⟩ (c_X12_isIn l a0 (0 : Int32) ((M.1 6 (0 : Int32).toNatClampNeg) - (1 : Int32)) _ rfl) (va_cwS 3 hts gX12_isMachine_X12_isIn rfl rfl rfl (by decide +kernel) ⟨Nat.le_of_ble_eq_true rfl, Nat.le_of_ble_eq_true rfl⟩) ⟨fun a U g mk q => q, fun U hU hW => ⟨rfl, trivial⟩⟩ rfl rfl hl.1 rfl (lv_room (Nat.le_of_ble_eq_true rfl)) dX12_isMachine_10 ⟨Nat.le_refl _, Nat.le_refl _⟩) ?_
  have hf := Option.some.inj hf
  subst hf
  exact W.zret (v := (f_X12_isIn a0 (0 : Int32) ((M.1 6 (0 : Int32).toNatClampNeg) - (1 : Int32)))) (ty := .boolean) hx hb hr (kt_z (z_X12_isIn a0 (0 : Int32) ((M.1 6 (0 : Int32).toNatClampNeg) - (1 : Int32)))) (fun t ht hW => ⟨rfl, ht⟩) (fun _ h => nomatch h) dX12_isMachine_13

abbrev rm_X12_isPhrase : Room := { frames := 1, cells := 0, slots := 0, locals := 22 }
set_option maxHeartbeats 4000000 in
set_option maxRecDepth 100000 in
theorem c_X12_isPhrase (l : Launch) (dC : Nat → ClassId) (dI : Nat → Nat → Nat) (cB cI cJ cZ : ClassId) (ra : Nat → Nat) (M : kD) (a0 : Int32) (r : Int32) (hf : f_X12_isPhrase a0 M = some r) : Met l yX12_isPhrase wsX12_isPhrase rm_X12_isPhrase (va_Pc [.ref (ra 0), .int a0] (mPr dC dI cB cI cJ cZ ra M)) (kQ (some (.int r))) 0 0 (kF) := by
  refine Met.ofW (cc := cX12_isPhrase) (maxL := 2) (ret := (some .boolean)) (by decide) rfl ?_
  intro p e s m args below meth c s₁ B hml hv
  obtain ⟨hav, hP, hK⟩ := hv
  have hx := B.exec
  have hb := B.bytes
  have hr := B.returns
  have hts := atoms_spec (ws := wsX12_isPhrase) B.pre
  have hown : s.vm.findClass RX12 = some m.cls := findClass_of_methodNamed B.named
  have hlocks := B.notSynchronized
  have hin : ∀ w ∈ wsX120, w ∈ wsX12_isPhrase := fun w h => List.mem_cons_of_mem _ (List.mem_append_right _ h)
  have k_fieldLink_RX12_33__KeyLettersModel___s____I_ := hts (.fieldLink RX12 33 "KeyLettersModel" "s" "[I") (by decide +kernel)
  have hl := lv_entry ([.ref (ra 0), .int a0]) (n := 2) (Nat.le_of_ble_eq_true rfl)
  rw [show entryFrame m args 2 = entryFrame m ([.ref (ra 0), .int a0] : List Value).toArray 2 from by rw [hav], lg_entry_eq]
  generalize (lg_sl ([.ref (ra 0), .int a0]) ++ List.replicate (2 - (lg_sl ([.ref (ra 0), .int a0])).length) Slot.unset).toArray = ls at hl ⊢
  have hl : lv_has ls 2 [(0, .ref (ra 0)), (1, .int a0)] := hl
  unfold f_X12_isPhrase at hf
  refine lv_iload_n hx hb dX12_isPhrase_0 rfl (lv_at hl 1 rfl) ?_
  refine lv_iconst (v := 0) hx hb dX12_isPhrase_1 (by decide) ?_
  refine lv_aload_n hx hb dX12_isPhrase_2 rfl (lv_at hl 0 rfl) ?_
  refine km_get hx hb hts hin hown hK hP 6 (by decide) (v := .ref (ra 6)) k_fieldLink_RX12_33__KeyLettersModel___s____I_ rfl dX12_isPhrase_3 ?_
  refine lv_iconst (v := 1) hx hb dX12_isPhrase_6 (by decide) ?_
  refine va_iald hx hb hK hP 2 1 rfl rfl (show ¬ ((1 : Int32) < 0 ∨ 279 ≤ (1 : Int32).toNatClampNeg) by decide +kernel) dX12_isPhrase_7 ?_
  refine lv_iconst (v := 1) hx hb dX12_isPhrase_8 (by decide) ?_
  refine lv_isub hx hb dX12_isPhrase_9 ?_
  refine ko_call (v := some (.int (f_X12_isIn a0 (0 : Int32) ((M.1 6 (1 : Int32).toNatClampNeg) - (1 : Int32))))) (va_runS (As := [.int a0, .int (0 : Int32), .int ((M.1 6 (1 : Int32).toNatClampNeg) - (1 : Int32))]) (rest := []) ⟨hx, hb, hml, hown, hts⟩ (c_X12_isIn l a0 (0 : Int32) ((M.1 6 (1 : Int32).toNatClampNeg) - (1 : Int32)) _ rfl) (va_cwS 3 hts gX12_isPhrase_X12_isIn rfl rfl rfl (by decide +kernel) ⟨Nat.le_of_ble_eq_true rfl, Nat.le_of_ble_eq_true rfl⟩) ⟨fun a U g mk q => q, fun U hU hW => ⟨rfl, trivial⟩⟩ rfl rfl hl.1 rfl (lv_room (Nat.le_of_ble_eq_true rfl)) dX12_isPhrase_10 ⟨Nat.le_refl _, Nat.le_refl _⟩) ?_
  have hf := Option.some.inj hf
  subst hf
  exact W.zret (v := (f_X12_isIn a0 (0 : Int32) ((M.1 6 (1 : Int32).toNatClampNeg) - (1 : Int32)))) (ty := .boolean) hx hb hr (kt_z (z_X12_isIn a0 (0 : Int32) ((M.1 6 (1 : Int32).toNatClampNeg) - (1 : Int32)))) (fun t ht hW => ⟨rfl, ht⟩) (fun _ h => nomatch h) dX12_isPhrase_13

abbrev rm_X12_isHeld : Room := { frames := 1, cells := 0, slots := 0, locals := 21 }
set_option maxHeartbeats 4000000 in
set_option maxRecDepth 100000 in
theorem c_X12_isHeld (l : Launch) (dC : Nat → ClassId) (dI : Nat → Nat → Nat) (cB cI cJ cZ : ClassId) (ra : Nat → Nat) (M : kD) (a0 : Int32) (r : Int32) (hf : f_X12_isHeld a0 M = some r) : Met l yX12_isHeld wsX12_isHeld rm_X12_isHeld (va_Pc [.ref (ra 0), .int a0] (mPr dC dI cB cI cJ cZ ra M)) (kQ (some (.int r))) 0 0 (kF) := by
  refine Met.ofW (cc := cX12_isHeld) (maxL := 2) (ret := (some .boolean)) (by decide) rfl ?_
  intro p e s m args below meth c s₁ B hml hv
  obtain ⟨hav, hP, hK⟩ := hv
  have hx := B.exec
  have hb := B.bytes
  have hr := B.returns
  have hts := atoms_spec (ws := wsX12_isHeld) B.pre
  have hown : s.vm.findClass RX12 = some m.cls := findClass_of_methodNamed B.named
  have hlocks := B.notSynchronized
  have hin : ∀ w ∈ wsX120, w ∈ wsX12_isHeld := fun w h => List.mem_cons_of_mem _ (List.mem_append_right _ h)
  have k_fieldLink_RX12_33__KeyLettersModel___s____I_ := hts (.fieldLink RX12 33 "KeyLettersModel" "s" "[I") (by decide +kernel)
  have hl := lv_entry ([.ref (ra 0), .int a0]) (n := 2) (Nat.le_of_ble_eq_true rfl)
  rw [show entryFrame m args 2 = entryFrame m ([.ref (ra 0), .int a0] : List Value).toArray 2 from by rw [hav], lg_entry_eq]
  generalize (lg_sl ([.ref (ra 0), .int a0]) ++ List.replicate (2 - (lg_sl ([.ref (ra 0), .int a0])).length) Slot.unset).toArray = ls at hl ⊢
  have hl : lv_has ls 2 [(0, .ref (ra 0)), (1, .int a0)] := hl
  unfold f_X12_isHeld at hf
  refine lv_aload_n hx hb dX12_isHeld_0 rfl (lv_at hl 0 rfl) ?_
  refine km_get hx hb hts hin hown hK hP 6 (by decide) (v := .ref (ra 6)) k_fieldLink_RX12_33__KeyLettersModel___s____I_ rfl dX12_isHeld_1 ?_
  refine lv_bipush (v := 42) hx hb dX12_isHeld_4 (by decide) ?_
  refine va_iald hx hb hK hP 2 1 rfl rfl (show ¬ ((42 : Int32) < 0 ∨ 279 ≤ (42 : Int32).toNatClampNeg) by decide +kernel) dX12_isHeld_6 ?_
  refine lv_iload_n hx hb dX12_isHeld_7 rfl (lv_at hl 1 rfl) ?_
  refine ko_call (v := some (.int (f_X12_bitOf (M.1 6 (42 : Int32).toNatClampNeg) a0))) (va_runS (As := [.int (M.1 6 (42 : Int32).toNatClampNeg), .int a0]) (rest := []) ⟨hx, hb, hml, hown, hts⟩ (c_X12_bitOf l (M.1 6 (42 : Int32).toNatClampNeg) a0 _ rfl) (va_cwS 2 hts gX12_isHeld_X12_bitOf rfl rfl rfl (by decide +kernel) ⟨Nat.le_of_ble_eq_true rfl, Nat.le_of_ble_eq_true rfl⟩) ⟨fun a U g mk q => q, fun U hU hW => ⟨rfl, trivial⟩⟩ rfl rfl hl.1 rfl (lv_room (Nat.le_of_ble_eq_true rfl)) dX12_isHeld_8 ⟨Nat.le_refl _, Nat.le_refl _⟩) ?_
  have hf := Option.some.inj hf
  subst hf
  exact W.zret (v := (f_X12_bitOf (M.1 6 (42 : Int32).toNatClampNeg) a0)) (ty := .boolean) hx hb hr (kt_z (z_X12_bitOf (M.1 6 (42 : Int32).toNatClampNeg) a0)) (fun t ht hW => ⟨rfl, ht⟩) (fun _ h => nomatch h) dX12_isHeld_11

abbrev rm_X12_isAnswer : Room := { frames := 1, cells := 0, slots := 0, locals := 21 }
set_option maxHeartbeats 4000000 in
set_option maxRecDepth 100000 in
theorem c_X12_isAnswer (l : Launch) (dC : Nat → ClassId) (dI : Nat → Nat → Nat) (cB cI cJ cZ : ClassId) (ra : Nat → Nat) (M : kD) (a0 : Int32) (a1 : Int32) (r : Int32) (hf : f_X12_isAnswer a0 a1 M = some r) : Met l yX12_isAnswer wsX12_isAnswer rm_X12_isAnswer (va_Pc [.ref (ra 0), .int a0, .int a1] (mPr dC dI cB cI cJ cZ ra M)) (kQ (some (.int r))) 0 0 (kF) := by
  refine Met.ofW (cc := cX12_isAnswer) (maxL := 3) (ret := (some .boolean)) (by decide) rfl ?_
  intro p e s m args below meth c s₁ B hml hv
  obtain ⟨hav, hP, hK⟩ := hv
  have hx := B.exec
  have hb := B.bytes
  have hr := B.returns
  have hts := atoms_spec (ws := wsX12_isAnswer) B.pre
  have hown : s.vm.findClass RX12 = some m.cls := findClass_of_methodNamed B.named
  have hlocks := B.notSynchronized
  have hin : ∀ w ∈ wsX120, w ∈ wsX12_isAnswer := fun w h => List.mem_cons_of_mem _ (List.mem_append_right _ h)
  have k_fieldLink_RX12_33__KeyLettersModel___s____I_ := hts (.fieldLink RX12 33 "KeyLettersModel" "s" "[I") (by decide +kernel)
  have hl := lv_entry ([.ref (ra 0), .int a0, .int a1]) (n := 3) (Nat.le_of_ble_eq_true rfl)
  rw [show entryFrame m args 3 = entryFrame m ([.ref (ra 0), .int a0, .int a1] : List Value).toArray 3 from by rw [hav], lg_entry_eq]
  generalize (lg_sl ([.ref (ra 0), .int a0, .int a1]) ++ List.replicate (3 - (lg_sl ([.ref (ra 0), .int a0, .int a1])).length) Slot.unset).toArray = ls at hl ⊢
  have hl : lv_has ls 3 [(0, .ref (ra 0)), (1, .int a0), (2, .int a1)] := hl
  unfold f_X12_isAnswer at hf
  refine lv_aload_n hx hb dX12_isAnswer_0 rfl (lv_at hl 0 rfl) ?_
  refine km_get hx hb hts hin hown hK hP 6 (by decide) (v := .ref (ra 6)) k_fieldLink_RX12_33__KeyLettersModel___s____I_ rfl dX12_isAnswer_1 ?_
  refine lv_bipush (v := 31) hx hb dX12_isAnswer_4 (by decide) ?_
  refine lv_iload_n hx hb dX12_isAnswer_6 rfl (lv_at hl 2 rfl) ?_
  refine lv_iadd hx hb dX12_isAnswer_7 ?_
  obtain ⟨v1, ev1, hf⟩ := bd1_e hf
  refine kt_i ev1 ?_
  obtain ⟨hc2, hf⟩ := ck_e hf
  refine va_iald hx hb hK hP 2 1 rfl rfl hc2 dX12_isAnswer_8 ?_
  refine lv_iload_n hx hb dX12_isAnswer_9 rfl (lv_at hl 1 rfl) ?_
  refine ko_call (v := some (.int (f_X12_bitOf (M.1 6 v1.toNatClampNeg) a0))) (va_runS (As := [.int (M.1 6 v1.toNatClampNeg), .int a0]) (rest := []) ⟨hx, hb, hml, hown, hts⟩ (c_X12_bitOf l (M.1 6 v1.toNatClampNeg) a0 _ rfl) (va_cwS 2 hts gX12_isAnswer_X12_bitOf rfl rfl rfl (by decide +kernel) ⟨Nat.le_of_ble_eq_true rfl, Nat.le_of_ble_eq_true rfl⟩) ⟨fun a U g mk q => q, fun U hU hW => ⟨rfl, trivial⟩⟩ rfl rfl hl.1 rfl (lv_room (Nat.le_of_ble_eq_true rfl)) dX12_isAnswer_10 ⟨Nat.le_refl _, Nat.le_refl _⟩) ?_
  have hf := Option.some.inj hf
  subst hf
  exact W.zret (v := (f_X12_bitOf (M.1 6 v1.toNatClampNeg) a0)) (ty := .boolean) hx hb hr (kt_z (z_X12_bitOf (M.1 6 v1.toNatClampNeg) a0)) (fun t ht hW => ⟨rfl, ht⟩) (fun _ h => nomatch h) dX12_isAnswer_13

abbrev rm_X12_whyWrite : Room := { frames := 2, cells := 0, slots := 0, locals := 43 }
set_option maxHeartbeats 4000000 in
set_option maxRecDepth 100000 in
theorem c_X12_whyWrite (l : Launch) (dC : Nat → ClassId) (dI : Nat → Nat → Nat) (cB cI cJ cZ : ClassId) (ra : Nat → Nat) (M : kD) (a0 : Int32) (a1 : Int32) (r : Int32) (hf : f_X12_whyWrite a0 a1 M = some r) : Met l yX12_whyWrite wsX12_whyWrite rm_X12_whyWrite (va_Pc [.ref (ra 0), .int a0, .int a1] (mPr dC dI cB cI cJ cZ ra M)) (kQ (some (.int r))) 0 0 (kF) := by
  refine Met.ofW (cc := cX12_whyWrite) (maxL := 3) (ret := (some .int)) (by decide) rfl ?_
  intro p e s m args below meth c s₁ B hml hv
  obtain ⟨hav, hP, hK⟩ := hv
  have hx := B.exec
  have hb := B.bytes
  have hr := B.returns
  have hts := atoms_spec (ws := wsX12_whyWrite) B.pre
  have hown : s.vm.findClass RX12 = some m.cls := findClass_of_methodNamed B.named
  have hlocks := B.notSynchronized
  have hin : ∀ w ∈ wsX120, w ∈ wsX12_whyWrite := fun w h => List.mem_cons_of_mem _ (List.mem_append_right _ h)
  have k_fieldLink_RX12_33__KeyLettersModel___s____I_ := hts (.fieldLink RX12 33 "KeyLettersModel" "s" "[I") (by decide +kernel)
  have hl := lv_entry ([.ref (ra 0), .int a0, .int a1]) (n := 3) (Nat.le_of_ble_eq_true rfl)
  rw [show entryFrame m args 3 = entryFrame m ([.ref (ra 0), .int a0, .int a1] : List Value).toArray 3 from by rw [hav], lg_entry_eq]
  generalize (lg_sl ([.ref (ra 0), .int a0, .int a1]) ++ List.replicate (3 - (lg_sl ([.ref (ra 0), .int a0, .int a1])).length) Slot.unset).toArray = ls at hl ⊢
  have hl : lv_has ls 3 [(0, .ref (ra 0)), (1, .int a0), (2, .int a1)] := hl
  unfold f_X12_whyWrite at hf
  have h_72 : ∀ (x1_72 : Int32) (x2_72 : Int32) (ls : Array Slot), lv_has ls 3 [(0, .ref (ra 0)), (1, .int x1_72), (2, .int x2_72)] → g_X12_whyWrite_72 M x1_72 x2_72 = some r → W p l e (headSpec wsX12_whyWrite rm_X12_whyWrite).room s m args below meth c s.heap [] 0 0 (MQ below (kQ (some (.int r))) args s 0 0 (kF)) (F0 m 72 ls []) := by
    intro x1_72 x2_72 ls hl hf
    unfold g_X12_whyWrite_72 at hf
    refine lv_aload_n hx hb dX12_whyWrite_72 rfl (lv_at hl 0 rfl) ?_
    refine km_get hx hb hts hin hown hK hP 6 (by decide) (v := .ref (ra 6)) k_fieldLink_RX12_33__KeyLettersModel___s____I_ rfl dX12_whyWrite_73 ?_
    refine lv_bipush (v := 44) hx hb dX12_whyWrite_76 (by decide) ?_
    refine lv_iload_n hx hb dX12_whyWrite_78 rfl (lv_at hl 1 rfl) ?_
    refine lv_iadd hx hb dX12_whyWrite_79 ?_
    obtain ⟨v1, ev1, hf⟩ := bd1_e hf
    refine kt_i ev1 ?_
    obtain ⟨hc2, hf⟩ := ck_e hf
    refine va_iald hx hb hK hP 2 1 rfl rfl hc2 dX12_whyWrite_80 ?_
    refine lv_aload_n hx hb dX12_whyWrite_81 rfl (lv_at hl 0 rfl) ?_
    refine km_get hx hb hts hin hown hK hP 6 (by decide) (v := .ref (ra 6)) k_fieldLink_RX12_33__KeyLettersModel___s____I_ rfl dX12_whyWrite_82 ?_
    refine lv_bipush (v := 15) hx hb dX12_whyWrite_85 (by decide) ?_
    refine lv_iload_n hx hb dX12_whyWrite_87 rfl (lv_at hl 2 rfl) ?_
    refine lv_iadd hx hb dX12_whyWrite_88 ?_
    obtain ⟨v3, ev3, hf⟩ := bd1_e hf
    refine kt_i ev3 ?_
    obtain ⟨hc4, hf⟩ := ck_e hf
    refine va_iald hx hb hK hP 2 1 rfl rfl hc4 dX12_whyWrite_89 ?_
    refine lv_icmp_ge (tgt := 97) hx hb dX12_whyWrite_90 (by decide) (fun hb5 => ?_) (fun hb5 => ?_)
    · have hf := (if_pos hb5).symm.trans hf
      refine lv_iconst (v := 0) hx hb dX12_whyWrite_97 (by decide) ?_
      have hf := Option.some.inj hf
      subst hf
      exact W.iret (v := (0 : Int32)) hx hb hr (fun t ht hW => ⟨rfl, ht⟩) (fun _ h => nomatch h) dX12_whyWrite_98
    · have hf := (if_neg hb5).symm.trans hf
      refine lv_iconst (v := 5) hx hb dX12_whyWrite_93 (by decide) ?_
      refine lv_goto (tgt := 98) hx hb dX12_whyWrite_94 (by decide) ?_
      have hf := Option.some.inj hf
      subst hf
      exact W.iret (v := (5 : Int32)) hx hb hr (fun t ht hW => ⟨rfl, ht⟩) (fun _ h => nomatch h) dX12_whyWrite_98
  refine lv_aload_n hx hb dX12_whyWrite_0 rfl (lv_at hl 0 rfl) ?_
  refine lv_iload_n hx hb dX12_whyWrite_1 rfl (lv_at hl 1 rfl) ?_
  obtain ⟨v6, hq7, hf⟩ := bo_e hf
  refine ko_call (v := some (.int v6)) (km_run (As := [.int a0]) (rest := []) ⟨hx, hb, hml, hown, hts⟩ (c_X12_isHeld l dC dI cB cI cJ cZ ra M a0 v6 hq7) (cwV 1 hts gX12_whyWrite_X12_isHeld rfl rfl rfl (by decide +kernel) ⟨Nat.le_of_ble_eq_true rfl, Nat.le_of_ble_eq_true rfl⟩) hK hP (fun _ _ _ _ => mPr_bl) (fun U hU hW => ⟨by rw [hU]; exact hP, va_K.moved hW.alike hK⟩) rfl rfl hl.1 rfl (lv_room (Nat.le_of_ble_eq_true rfl)) dX12_whyWrite_2 ⟨Nat.le_refl _, Nat.le_refl _⟩) ?_
  refine lv_if_eq (tgt := 10) hx hb dX12_whyWrite_5 (by decide) (fun hb16 => ?_) (fun hb16 => ?_)
  · have hf := (if_pos hb16).symm.trans hf
    refine lv_aload_n hx hb dX12_whyWrite_10 rfl (lv_at hl 0 rfl) ?_
    refine km_get hx hb hts hin hown hK hP 6 (by decide) (v := .ref (ra 6)) k_fieldLink_RX12_33__KeyLettersModel___s____I_ rfl dX12_whyWrite_11 ?_
    refine lv_bipush (v := 41) hx hb dX12_whyWrite_14 (by decide) ?_
    refine va_iald hx hb hK hP 2 1 rfl rfl (show ¬ ((41 : Int32) < 0 ∨ 279 ≤ (41 : Int32).toNatClampNeg) by decide +kernel) dX12_whyWrite_16 ?_
    refine lv_iload_n hx hb dX12_whyWrite_17 rfl (lv_at hl 1 rfl) ?_
    refine lv_iconst (v := 1) hx hb dX12_whyWrite_18 (by decide) ?_
    refine lv_iadd hx hb dX12_whyWrite_19 ?_
    refine lv_icmp_ne (tgt := 25) hx hb dX12_whyWrite_20 (by decide) (fun hb15 => ?_) (fun hb15 => ?_)
    · have hf := (if_neg hb15).symm.trans hf
      refine lv_aload_n hx hb dX12_whyWrite_25 rfl (lv_at hl 0 rfl) ?_
      refine km_get hx hb hts hin hown hK hP 6 (by decide) (v := .ref (ra 6)) k_fieldLink_RX12_33__KeyLettersModel___s____I_ rfl dX12_whyWrite_26 ?_
      refine lv_bipush (v := 9) hx hb dX12_whyWrite_29 (by decide) ?_
      refine lv_iload_n hx hb dX12_whyWrite_31 rfl (lv_at hl 1 rfl) ?_
      refine lv_iadd hx hb dX12_whyWrite_32 ?_
      obtain ⟨v8, ev8, hf⟩ := bd1_e hf
      refine kt_i ev8 ?_
      obtain ⟨hc9, hf⟩ := ck_e hf
      refine va_iald hx hb hK hP 2 1 rfl rfl hc9 dX12_whyWrite_33 ?_
      refine lv_iload_n hx hb dX12_whyWrite_34 rfl (lv_at hl 2 rfl) ?_
      refine ko_call (v := some (.int (f_X12_bitOf (M.1 6 v8.toNatClampNeg) a1))) (va_runS (As := [.int (M.1 6 v8.toNatClampNeg), .int a1]) (rest := []) ⟨hx, hb, hml, hown, hts⟩ (c_X12_bitOf l (M.1 6 v8.toNatClampNeg) a1 _ rfl) (va_cwS 2 hts gX12_whyWrite_X12_bitOf rfl rfl rfl (by decide +kernel) ⟨Nat.le_of_ble_eq_true rfl, Nat.le_of_ble_eq_true rfl⟩) ⟨fun a U g mk q => q, fun U hU hW => ⟨rfl, trivial⟩⟩ rfl rfl hl.1 rfl (lv_room (Nat.le_of_ble_eq_true rfl)) dX12_whyWrite_35 ⟨Nat.le_refl _, Nat.le_refl _⟩) ?_
      refine lv_if_ne (tgt := 43) hx hb dX12_whyWrite_38 (by decide) (fun hb14 => ?_) (fun hb14 => ?_)
      · have hf := (if_neg hb14).symm.trans hf
        refine lv_aload_n hx hb dX12_whyWrite_43 rfl (lv_at hl 0 rfl) ?_
        refine km_get hx hb hts hin hown hK hP 6 (by decide) (v := .ref (ra 6)) k_fieldLink_RX12_33__KeyLettersModel___s____I_ rfl dX12_whyWrite_44 ?_
        refine lv_bipush (v := 40) hx hb dX12_whyWrite_47 (by decide) ?_
        refine va_iald hx hb hK hP 2 1 rfl rfl (show ¬ ((40 : Int32) < 0 ∨ 279 ≤ (40 : Int32).toNatClampNeg) by decide +kernel) dX12_whyWrite_49 ?_
        refine lv_if_le (tgt := 72) hx hb dX12_whyWrite_50 (by decide) (fun hb13 => ?_) (fun hb13 => ?_)
        · have hf := (if_pos hb13).symm.trans hf
          exact h_72 a0 a1 ls hl hf
        · have hf := (if_neg hb13).symm.trans hf
          refine lv_aload_n hx hb dX12_whyWrite_53 rfl (lv_at hl 0 rfl) ?_
          refine lv_iload_n hx hb dX12_whyWrite_54 rfl (lv_at hl 2 rfl) ?_
          refine lv_aload_n hx hb dX12_whyWrite_55 rfl (lv_at hl 0 rfl) ?_
          refine km_get hx hb hts hin hown hK hP 6 (by decide) (v := .ref (ra 6)) k_fieldLink_RX12_33__KeyLettersModel___s____I_ rfl dX12_whyWrite_56 ?_
          refine lv_bipush (v := 40) hx hb dX12_whyWrite_59 (by decide) ?_
          refine va_iald hx hb hK hP 2 1 rfl rfl (show ¬ ((40 : Int32) < 0 ∨ 279 ≤ (40 : Int32).toNatClampNeg) by decide +kernel) dX12_whyWrite_61 ?_
          refine lv_iconst (v := 1) hx hb dX12_whyWrite_62 (by decide) ?_
          refine lv_isub hx hb dX12_whyWrite_63 ?_
          obtain ⟨v10, hq11, hf⟩ := bo_e hf
          refine ko_call (v := some (.int v10)) (km_run (As := [.int a1, .int ((M.1 6 (40 : Int32).toNatClampNeg) - (1 : Int32))]) (rest := []) ⟨hx, hb, hml, hown, hts⟩ (c_X12_isAnswer l dC dI cB cI cJ cZ ra M a1 ((M.1 6 (40 : Int32).toNatClampNeg) - (1 : Int32)) v10 hq11) (cwV 2 hts gX12_whyWrite_X12_isAnswer rfl rfl rfl (by decide +kernel) ⟨Nat.le_of_ble_eq_true rfl, Nat.le_of_ble_eq_true rfl⟩) hK hP (fun _ _ _ _ => mPr_bl) (fun U hU hW => ⟨by rw [hU]; exact hP, va_K.moved hW.alike hK⟩) rfl rfl hl.1 rfl (lv_room (Nat.le_of_ble_eq_true rfl)) dX12_whyWrite_64 ⟨Nat.le_refl _, Nat.le_refl _⟩) ?_
          refine lv_if_ne (tgt := 72) hx hb dX12_whyWrite_67 (by decide) (fun hb12 => ?_) (fun hb12 => ?_)
          · have hf := (if_neg hb12).symm.trans hf
            exact h_72 a0 a1 ls hl hf
          · have hf := (if_pos hb12).symm.trans hf
            refine lv_iconst (v := 4) hx hb dX12_whyWrite_70 (by decide) ?_
            have hf := Option.some.inj hf
            subst hf
            exact W.iret (v := (4 : Int32)) hx hb hr (fun t ht hW => ⟨rfl, ht⟩) (fun _ h => nomatch h) dX12_whyWrite_71
      · have hf := (if_pos hb14).symm.trans hf
        refine lv_iconst (v := 3) hx hb dX12_whyWrite_41 (by decide) ?_
        have hf := Option.some.inj hf
        subst hf
        exact W.iret (v := (3 : Int32)) hx hb hr (fun t ht hW => ⟨rfl, ht⟩) (fun _ h => nomatch h) dX12_whyWrite_42
    · have hf := (if_pos hb15).symm.trans hf
      refine lv_iconst (v := 2) hx hb dX12_whyWrite_23 (by decide) ?_
      have hf := Option.some.inj hf
      subst hf
      exact W.iret (v := (2 : Int32)) hx hb hr (fun t ht hW => ⟨rfl, ht⟩) (fun _ h => nomatch h) dX12_whyWrite_24
  · have hf := (if_neg hb16).symm.trans hf
    refine lv_iconst (v := 1) hx hb dX12_whyWrite_8 (by decide) ?_
    have hf := Option.some.inj hf
    subst hf
    exact W.iret (v := (1 : Int32)) hx hb hr (fun t ht hW => ⟨rfl, ht⟩) (fun _ h => nomatch h) dX12_whyWrite_9

abbrev rm_X12_couldWrite : Room := { frames := 3, cells := 0, slots := 0, locals := 65 }
set_option maxHeartbeats 4000000 in
set_option maxRecDepth 100000 in
theorem c_X12_couldWrite (l : Launch) (dC : Nat → ClassId) (dI : Nat → Nat → Nat) (cB cI cJ cZ : ClassId) (ra : Nat → Nat) (M : kD) (a0 : Int32) (r : Int32) (hf : f_X12_couldWrite a0 M = some r) : Met l yX12_couldWrite wsX12_couldWrite rm_X12_couldWrite (va_Pc [.ref (ra 0), .int a0] (mPr dC dI cB cI cJ cZ ra M)) (kQ (some (.int r))) 0 0 (kF) := by
  refine Met.ofW (cc := cX12_couldWrite) (maxL := 4) (ret := (some .int)) (by decide) rfl ?_
  intro p e s m args below meth c s₁ B hml hv
  obtain ⟨hav, hP, hK⟩ := hv
  have hx := B.exec
  have hb := B.bytes
  have hr := B.returns
  have hts := atoms_spec (ws := wsX12_couldWrite) B.pre
  have hown : s.vm.findClass RX12 = some m.cls := findClass_of_methodNamed B.named
  have hlocks := B.notSynchronized
  have hin : ∀ w ∈ wsX120, w ∈ wsX12_couldWrite := fun w h => List.mem_cons_of_mem _ (List.mem_append_right _ h)
  have k_fieldLink_RX12_33__KeyLettersModel___s____I_ := hts (.fieldLink RX12 33 "KeyLettersModel" "s" "[I") (by decide +kernel)
  have hl := lv_entry ([.ref (ra 0), .int a0]) (n := 4) (Nat.le_of_ble_eq_true rfl)
  rw [show entryFrame m args 4 = entryFrame m ([.ref (ra 0), .int a0] : List Value).toArray 4 from by rw [hav], lg_entry_eq]
  generalize (lg_sl ([.ref (ra 0), .int a0]) ++ List.replicate (4 - (lg_sl ([.ref (ra 0), .int a0])).length) Slot.unset).toArray = ls at hl ⊢
  have hl : lv_has ls 4 [(0, .ref (ra 0)), (1, .int a0)] := hl
  unfold f_X12_couldWrite at hf
  have h_4 := lp_ind (z := (fun _ _ _ => none)) (b := (g_X12_couldWrite_4 M)) (fun (rc_4 : Int32 → Int32 → Int32 → Option Int32) => ∀ (x1_4 : Int32) (x2_4 : Int32) (x3_4 : Int32) (ls : Array Slot), lv_has ls 4 [(0, .ref (ra 0)), (1, .int x1_4), (2, .int x2_4), (3, .int x3_4)] → rc_4 x1_4 x2_4 x3_4 = some r → W p l e (headSpec wsX12_couldWrite rm_X12_couldWrite).room s m args below meth c s.heap [] 0 0 (MQ below (kQ (some (.int r))) args s 0 0 (kF)) (F0 m 4 ls [])) (by
      intro x1_4 x2_4 x3_4 ls hl hf
      cases hf) (by
      intro rc_4 ih_4 x1_4 x2_4 x3_4 ls hl hf
      unfold g_X12_couldWrite_4 at hf
      have h_31 : ∀ (x1_31 : Int32) (x3_31 : Int32) (t0_31 : Int32) (t1_31 : Int32) (ls : Array Slot), lv_has ls 4 [(0, .ref (ra 0)), (1, .int x1_31), (3, .int x3_31)] → g_X12_couldWrite_31 rc_4 M x1_31 x3_31 t0_31 t1_31 = some r → W p l e (headSpec wsX12_couldWrite rm_X12_couldWrite).room s m args below meth c s.heap [] 0 0 (MQ below (kQ (some (.int r))) args s 0 0 (kF)) (F0 m 31 ls [.int t1_31, .int t0_31]) := by
        intro x1_31 x3_31 t0_31 t1_31 ls hl hf
        unfold g_X12_couldWrite_31 at hf
        refine lv_ior hx hb dX12_couldWrite_31 ?_
        obtain ⟨v1, ev1, hf⟩ := bd1_e hf
        refine kt_i ev1 ?_
        refine lv_istore_n (nL := 4) (lv' := [(2, .int v1), (0, .ref (ra 0)), (1, .int x1_31), (3, .int x3_31)]) hx hb dX12_couldWrite_32 rfl hl (by decide) rfl (fun ls hl => ?_)
        obtain ⟨v2, ev2, hf⟩ := bd1_e hf
        refine lv_iinc (k := 3) (x := x3_31) (v := v2) (nL := 4) (lv' := [(3, .int v2), (2, .int v1), (0, .ref (ra 0)), (1, .int x1_31)]) hx hb dX12_couldWrite_33 hl rfl (kt_inc (w := 1) (by decide) ev2) (by decide) rfl (fun ls hl => ?_)
        refine lv_goto (tgt := 4) hx hb dX12_couldWrite_36 (by decide) ?_
        exact ih_4 x1_31 v1 v2 ls (lv_sub hl [2, 3, 1, 0] rfl) hf
      refine lv_iload_n hx hb dX12_couldWrite_4 rfl (lv_at hl 3 rfl) ?_
      refine lv_aload_n hx hb dX12_couldWrite_5 rfl (lv_at hl 0 rfl) ?_
      refine km_get hx hb hts hin hown hK hP 6 (by decide) (v := .ref (ra 6)) k_fieldLink_RX12_33__KeyLettersModel___s____I_ rfl dX12_couldWrite_6 ?_
      refine lv_iconst (v := 1) hx hb dX12_couldWrite_9 (by decide) ?_
      refine va_iald hx hb hK hP 2 1 rfl rfl (show ¬ ((1 : Int32) < 0 ∨ 279 ≤ (1 : Int32).toNatClampNeg) by decide +kernel) dX12_couldWrite_10 ?_
      refine lv_icmp_ge (tgt := 39) hx hb dX12_couldWrite_11 (by decide) (fun hb6 => ?_) (fun hb6 => ?_)
      · have hf := (if_pos hb6).symm.trans hf
        refine lv_iload_n hx hb dX12_couldWrite_39 rfl (lv_at hl 2 rfl) ?_
        have hf := Option.some.inj hf
        subst hf
        exact W.iret (v := x2_4) hx hb hr (fun t ht hW => ⟨rfl, ht⟩) (fun _ h => nomatch h) dX12_couldWrite_40
      · have hf := (if_neg hb6).symm.trans hf
        refine lv_iload_n hx hb dX12_couldWrite_14 rfl (lv_at hl 2 rfl) ?_
        refine lv_aload_n hx hb dX12_couldWrite_15 rfl (lv_at hl 0 rfl) ?_
        refine lv_iload_n hx hb dX12_couldWrite_16 rfl (lv_at hl 1 rfl) ?_
        refine lv_iload_n hx hb dX12_couldWrite_17 rfl (lv_at hl 3 rfl) ?_
        obtain ⟨v3, hq4, hf⟩ := bo_e hf
        refine ko_call (v := some (.int v3)) (km_run (As := [.int x1_4, .int x3_4]) (rest := [.int x2_4]) ⟨hx, hb, hml, hown, hts⟩ (c_X12_whyWrite l dC dI cB cI cJ cZ ra M x1_4 x3_4 v3 hq4) (cwV 2 hts gX12_couldWrite_X12_whyWrite rfl rfl rfl (by decide +kernel) ⟨Nat.le_of_ble_eq_true rfl, Nat.le_of_ble_eq_true rfl⟩) hK hP (fun _ _ _ _ => mPr_bl) (fun U hU hW => ⟨by rw [hU]; exact hP, va_K.moved hW.alike hK⟩) rfl rfl hl.1 rfl (lv_room (Nat.le_of_ble_eq_true rfl)) dX12_couldWrite_18 ⟨Nat.le_refl _, Nat.le_refl _⟩) ?_
        refine lv_if_ne (tgt := 30) hx hb dX12_couldWrite_21 (by decide) (fun hb5 => ?_) (fun hb5 => ?_)
        · have hf := (if_neg hb5).symm.trans hf
          refine lv_iconst (v := 0) hx hb dX12_couldWrite_30 (by decide) ?_
          exact h_31 x1_4 x3_4 x2_4 (0 : Int32) ls (lv_sub hl [0, 1, 3] rfl) hf
        · have hf := (if_pos hb5).symm.trans hf
          refine lv_iconst (v := 1) hx hb dX12_couldWrite_24 (by decide) ?_
          refine lv_iload_n hx hb dX12_couldWrite_25 rfl (lv_at hl 3 rfl) ?_
          refine lv_ishl hx hb dX12_couldWrite_26 ?_
          refine lv_goto (tgt := 31) hx hb dX12_couldWrite_27 (by decide) ?_
          exact h_31 x1_4 x3_4 x2_4 ((1 : Int32) <<< (x3_4 &&& 31)) ls (lv_sub hl [0, 1, 3] rfl) hf) 2000
  refine lv_iconst (v := 0) hx hb dX12_couldWrite_0 (by decide) ?_
  refine lv_istore_n (nL := 4) (lv' := [(2, .int (0 : Int32)), (0, .ref (ra 0)), (1, .int a0)]) hx hb dX12_couldWrite_1 rfl hl (by decide) rfl (fun ls hl => ?_)
  refine lv_iconst (v := 0) hx hb dX12_couldWrite_2 (by decide) ?_
  refine lv_istore_n (nL := 4) (lv' := [(3, .int (0 : Int32)), (2, .int (0 : Int32)), (0, .ref (ra 0)), (1, .int a0)]) hx hb dX12_couldWrite_3 rfl hl (by decide) rfl (fun ls hl => ?_)
  exact h_4 a0 (0 : Int32) (0 : Int32) ls (lv_sub hl [2, 3, 1, 0] rfl) hf

abbrev rm_X12_sumOf : Room := { frames := 0, cells := 0, slots := 0, locals := 0 }
set_option maxHeartbeats 4000000 in
set_option maxRecDepth 100000 in
theorem c_X12_sumOf (l : Launch) (dC : Nat → ClassId) (dI : Nat → Nat → Nat) (cB cI cJ cZ : ClassId) (ra : Nat → Nat) (M : kD) (a0 : Int32) (r : Int32) (hf : f_X12_sumOf a0 M = some r) : Met l yX12_sumOf wsX12_sumOf rm_X12_sumOf (va_Pc [.ref (ra 0), .int a0] (mPr dC dI cB cI cJ cZ ra M)) (kQ (some (.int r))) 0 0 (kF) := by
  refine Met.ofW (cc := cX12_sumOf) (maxL := 4) (ret := (some .int)) (by decide) rfl ?_
  intro p e s m args below meth c s₁ B hml hv
  obtain ⟨hav, hP, hK⟩ := hv
  have hx := B.exec
  have hb := B.bytes
  have hr := B.returns
  have hts := atoms_spec (ws := wsX12_sumOf) B.pre
  have hown : s.vm.findClass RX12 = some m.cls := findClass_of_methodNamed B.named
  have hlocks := B.notSynchronized
  have hin : ∀ w ∈ wsX120, w ∈ wsX12_sumOf := fun w h => List.mem_cons_of_mem _ (List.mem_append_right _ h)
  have k_fieldLink_RX12_33__KeyLettersModel___s____I_ := hts (.fieldLink RX12 33 "KeyLettersModel" "s" "[I") (by decide +kernel)
  have hl := lv_entry ([.ref (ra 0), .int a0]) (n := 4) (Nat.le_of_ble_eq_true rfl)
  rw [show entryFrame m args 4 = entryFrame m ([.ref (ra 0), .int a0] : List Value).toArray 4 from by rw [hav], lg_entry_eq]
  generalize (lg_sl ([.ref (ra 0), .int a0]) ++ List.replicate (4 - (lg_sl ([.ref (ra 0), .int a0])).length) Slot.unset).toArray = ls at hl ⊢
  have hl : lv_has ls 4 [(0, .ref (ra 0)), (1, .int a0)] := hl
  unfold f_X12_sumOf at hf
  have h_4 := lp_ind (z := (fun _ _ _ => none)) (b := (g_X12_sumOf_4 M)) (fun (rc_4 : Int32 → Int32 → Int32 → Option Int32) => ∀ (x1_4 : Int32) (x2_4 : Int32) (x3_4 : Int32) (ls : Array Slot), lv_has ls 4 [(0, .ref (ra 0)), (1, .int x1_4), (2, .int x2_4), (3, .int x3_4)] → rc_4 x1_4 x2_4 x3_4 = some r → W p l e (headSpec wsX12_sumOf rm_X12_sumOf).room s m args below meth c s.heap [] 0 0 (MQ below (kQ (some (.int r))) args s 0 0 (kF)) (F0 m 4 ls [])) (by
      intro x1_4 x2_4 x3_4 ls hl hf
      cases hf) (by
      intro rc_4 ih_4 x1_4 x2_4 x3_4 ls hl hf
      unfold g_X12_sumOf_4 at hf
      refine lv_iload_n hx hb dX12_sumOf_4 rfl (lv_at hl 3 rfl) ?_
      refine lv_aload_n hx hb dX12_sumOf_5 rfl (lv_at hl 0 rfl) ?_
      refine km_get hx hb hts hin hown hK hP 6 (by decide) (v := .ref (ra 6)) k_fieldLink_RX12_33__KeyLettersModel___s____I_ rfl dX12_sumOf_6 ?_
      refine lv_iconst (v := 0) hx hb dX12_sumOf_9 (by decide) ?_
      refine va_iald hx hb hK hP 2 1 rfl rfl (show ¬ ((0 : Int32) < 0 ∨ 279 ≤ (0 : Int32).toNatClampNeg) by decide +kernel) dX12_sumOf_10 ?_
      refine lv_icmp_ge (tgt := 31) hx hb dX12_sumOf_11 (by decide) (fun hb5 => ?_) (fun hb5 => ?_)
      · have hf := (if_pos hb5).symm.trans hf
        refine lv_iload_n hx hb dX12_sumOf_31 rfl (lv_at hl 2 rfl) ?_
        have hf := Option.some.inj hf
        subst hf
        exact W.iret (v := x2_4) hx hb hr (fun t ht hW => ⟨rfl, ht⟩) (fun _ h => nomatch h) dX12_sumOf_32
      · have hf := (if_neg hb5).symm.trans hf
        refine lv_iload_n hx hb dX12_sumOf_14 rfl (lv_at hl 2 rfl) ?_
        refine lv_aload_n hx hb dX12_sumOf_15 rfl (lv_at hl 0 rfl) ?_
        refine km_get hx hb hts hin hown hK hP 6 (by decide) (v := .ref (ra 6)) k_fieldLink_RX12_33__KeyLettersModel___s____I_ rfl dX12_sumOf_16 ?_
        refine lv_iload_n hx hb dX12_sumOf_19 rfl (lv_at hl 1 rfl) ?_
        refine lv_iload_n hx hb dX12_sumOf_20 rfl (lv_at hl 3 rfl) ?_
        refine lv_iadd hx hb dX12_sumOf_21 ?_
        obtain ⟨v1, ev1, hf⟩ := bd1_e hf
        refine kt_i ev1 ?_
        obtain ⟨hc2, hf⟩ := ck_e hf
        refine va_iald hx hb hK hP 2 1 rfl rfl hc2 dX12_sumOf_22 ?_
        refine lv_iadd hx hb dX12_sumOf_23 ?_
        obtain ⟨v3, ev3, hf⟩ := bd1_e hf
        refine kt_i ev3 ?_
        refine lv_istore_n (nL := 4) (lv' := [(2, .int v3), (0, .ref (ra 0)), (1, .int x1_4), (3, .int x3_4)]) hx hb dX12_sumOf_24 rfl hl (by decide) rfl (fun ls hl => ?_)
        obtain ⟨v4, ev4, hf⟩ := bd1_e hf
        refine lv_iinc (k := 3) (x := x3_4) (v := v4) (nL := 4) (lv' := [(3, .int v4), (2, .int v3), (0, .ref (ra 0)), (1, .int x1_4)]) hx hb dX12_sumOf_25 hl rfl (kt_inc (w := 1) (by decide) ev4) (by decide) rfl (fun ls hl => ?_)
        refine lv_goto (tgt := 4) hx hb dX12_sumOf_28 (by decide) ?_
        exact ih_4 x1_4 v3 v4 ls (lv_sub hl [2, 3, 1, 0] rfl) hf) 2000
  refine lv_iconst (v := 0) hx hb dX12_sumOf_0 (by decide) ?_
  refine lv_istore_n (nL := 4) (lv' := [(2, .int (0 : Int32)), (0, .ref (ra 0)), (1, .int a0)]) hx hb dX12_sumOf_1 rfl hl (by decide) rfl (fun ls hl => ?_)
  refine lv_iconst (v := 0) hx hb dX12_sumOf_2 (by decide) ?_
  refine lv_istore_n (nL := 4) (lv' := [(3, .int (0 : Int32)), (2, .int (0 : Int32)), (0, .ref (ra 0)), (1, .int a0)]) hx hb dX12_sumOf_3 rfl hl (by decide) rfl (fun ls hl => ?_)
  exact h_4 a0 (0 : Int32) (0 : Int32) ls (lv_sub hl [2, 3, 1, 0] rfl) hf

abbrev rm_X12_owedBy : Room := { frames := 0, cells := 0, slots := 0, locals := 0 }
set_option maxHeartbeats 4000000 in
set_option maxRecDepth 100000 in
theorem c_X12_owedBy (l : Launch) (dC : Nat → ClassId) (dI : Nat → Nat → Nat) (cB cI cJ cZ : ClassId) (ra : Nat → Nat) (M : kD) (a0 : Int32) (a1 : Int32) (r : Int32) (hf : f_X12_owedBy a0 a1 M = some r) : Met l yX12_owedBy wsX12_owedBy rm_X12_owedBy (va_Pc [.ref (ra 0), .int a0, .int a1] (mPr dC dI cB cI cJ cZ ra M)) (kQ (some (.int r))) 0 0 (kF) := by
  refine Met.ofW (cc := cX12_owedBy) (maxL := 5) (ret := (some .int)) (by decide) rfl ?_
  intro p e s m args below meth c s₁ B hml hv
  obtain ⟨hav, hP, hK⟩ := hv
  have hx := B.exec
  have hb := B.bytes
  have hr := B.returns
  have hts := atoms_spec (ws := wsX12_owedBy) B.pre
  have hown : s.vm.findClass RX12 = some m.cls := findClass_of_methodNamed B.named
  have hlocks := B.notSynchronized
  have hin : ∀ w ∈ wsX120, w ∈ wsX12_owedBy := fun w h => List.mem_cons_of_mem _ (List.mem_append_right _ h)
  have k_fieldLink_RX12_33__KeyLettersModel___s____I_ := hts (.fieldLink RX12 33 "KeyLettersModel" "s" "[I") (by decide +kernel)
  have hl := lv_entry ([.ref (ra 0), .int a0, .int a1]) (n := 5) (Nat.le_of_ble_eq_true rfl)
  rw [show entryFrame m args 5 = entryFrame m ([.ref (ra 0), .int a0, .int a1] : List Value).toArray 5 from by rw [hav], lg_entry_eq]
  generalize (lg_sl ([.ref (ra 0), .int a0, .int a1]) ++ List.replicate (5 - (lg_sl ([.ref (ra 0), .int a0, .int a1])).length) Slot.unset).toArray = ls at hl ⊢
  have hl : lv_has ls 5 [(0, .ref (ra 0)), (1, .int a0), (2, .int a1)] := hl
  unfold f_X12_owedBy at hf
  have h_5 := lp_ind (z := (fun _ _ _ _ => none)) (b := (g_X12_owedBy_5 M)) (fun (rc_5 : Int32 → Int32 → Int32 → Int32 → Option Int32) => ∀ (x1_5 : Int32) (x2_5 : Int32) (x3_5 : Int32) (x4_5 : Int32) (ls : Array Slot), lv_has ls 5 [(0, .ref (ra 0)), (1, .int x1_5), (2, .int x2_5), (3, .int x3_5), (4, .int x4_5)] → rc_5 x1_5 x2_5 x3_5 x4_5 = some r → W p l e (headSpec wsX12_owedBy rm_X12_owedBy).room s m args below meth c s.heap [] 0 0 (MQ below (kQ (some (.int r))) args s 0 0 (kF)) (F0 m 5 ls [])) (by
      intro x1_5 x2_5 x3_5 x4_5 ls hl hf
      cases hf) (by
      intro rc_5 ih_5 x1_5 x2_5 x3_5 x4_5 ls hl hf
      unfold g_X12_owedBy_5 at hf
      have h_54 : ∀ (x1_54 : Int32) (x2_54 : Int32) (x4_54 : Int32) (t0_54 : Int32) (t1_54 : Int32) (ls : Array Slot), lv_has ls 5 [(0, .ref (ra 0)), (1, .int x1_54), (2, .int x2_54), (4, .int x4_54)] → g_X12_owedBy_54 rc_5 M x1_54 x2_54 x4_54 t0_54 t1_54 = some r → W p l e (headSpec wsX12_owedBy rm_X12_owedBy).room s m args below meth c s.heap [] 0 0 (MQ below (kQ (some (.int r))) args s 0 0 (kF)) (F0 m 54 ls [.int t1_54, .int t0_54]) := by
        intro x1_54 x2_54 x4_54 t0_54 t1_54 ls hl hf
        unfold g_X12_owedBy_54 at hf
        refine lv_iadd hx hb dX12_owedBy_54 ?_
        obtain ⟨v1, ev1, hf⟩ := bd1_e hf
        refine kt_i ev1 ?_
        refine lv_istore_n (nL := 5) (lv' := [(3, .int v1), (0, .ref (ra 0)), (1, .int x1_54), (2, .int x2_54), (4, .int x4_54)]) hx hb dX12_owedBy_55 rfl hl (by decide) rfl (fun ls hl => ?_)
        obtain ⟨v2, ev2, hf⟩ := bd1_e hf
        refine lv_iinc (k := 4) (x := x4_54) (v := v2) (nL := 5) (lv' := [(4, .int v2), (3, .int v1), (0, .ref (ra 0)), (1, .int x1_54), (2, .int x2_54)]) hx hb dX12_owedBy_56 hl rfl (kt_inc (w := 1) (by decide) ev2) (by decide) rfl (fun ls hl => ?_)
        refine lv_goto (tgt := 5) hx hb dX12_owedBy_59 (by decide) ?_
        exact ih_5 x1_54 x2_54 v1 v2 ls (lv_sub hl [2, 3, 4, 1, 0] rfl) hf
      refine lv_iload hx hb dX12_owedBy_5 (lv_at hl 4 rfl) ?_
      refine lv_aload_n hx hb dX12_owedBy_7 rfl (lv_at hl 0 rfl) ?_
      refine km_get hx hb hts hin hown hK hP 6 (by decide) (v := .ref (ra 6)) k_fieldLink_RX12_33__KeyLettersModel___s____I_ rfl dX12_owedBy_8 ?_
      refine lv_iconst (v := 0) hx hb dX12_owedBy_11 (by decide) ?_
      refine va_iald hx hb hK hP 2 1 rfl rfl (show ¬ ((0 : Int32) < 0 ∨ 279 ≤ (0 : Int32).toNatClampNeg) by decide +kernel) dX12_owedBy_12 ?_
      refine lv_icmp_ge (tgt := 62) hx hb dX12_owedBy_13 (by decide) (fun hb8 => ?_) (fun hb8 => ?_)
      · have hf := (if_pos hb8).symm.trans hf
        refine lv_iload_n hx hb dX12_owedBy_62 rfl (lv_at hl 3 rfl) ?_
        have hf := Option.some.inj hf
        subst hf
        exact W.iret (v := x3_5) hx hb hr (fun t ht hW => ⟨rfl, ht⟩) (fun _ h => nomatch h) dX12_owedBy_63
      · have hf := (if_neg hb8).symm.trans hf
        refine lv_iload_n hx hb dX12_owedBy_16 rfl (lv_at hl 3 rfl) ?_
        refine lv_iload_n hx hb dX12_owedBy_17 rfl (lv_at hl 2 rfl) ?_
        refine lv_if_eq (tgt := 39) hx hb dX12_owedBy_18 (by decide) (fun hb7 => ?_) (fun hb7 => ?_)
        · have hf := (if_pos hb7).symm.trans hf
          refine lv_aload_n hx hb dX12_owedBy_39 rfl (lv_at hl 0 rfl) ?_
          refine km_get hx hb hts hin hown hK hP 6 (by decide) (v := .ref (ra 6)) k_fieldLink_RX12_33__KeyLettersModel___s____I_ rfl dX12_owedBy_40 ?_
          refine lv_bipush (v := 62) hx hb dX12_owedBy_43 (by decide) ?_
          refine lv_bipush (v := 6) hx hb dX12_owedBy_45 (by decide) ?_
          refine lv_iload hx hb dX12_owedBy_47 (lv_at hl 4 rfl) ?_
          refine lv_imul hx hb dX12_owedBy_49 ?_
          refine lv_iadd hx hb dX12_owedBy_50 ?_
          refine lv_iload_n hx hb dX12_owedBy_51 rfl (lv_at hl 1 rfl) ?_
          refine lv_iadd hx hb dX12_owedBy_52 ?_
          obtain ⟨v3, ev3, hf⟩ := bd1_e hf
          refine kt_i ev3 ?_
          obtain ⟨hc4, hf⟩ := ck_e hf
          refine va_iald hx hb hK hP 2 1 rfl rfl hc4 dX12_owedBy_53 ?_
          exact h_54 x1_5 x2_5 x4_5 x3_5 (M.1 6 v3.toNatClampNeg) ls (lv_sub hl [0, 1, 2, 4] rfl) hf
        · have hf := (if_neg hb7).symm.trans hf
          refine lv_aload_n hx hb dX12_owedBy_21 rfl (lv_at hl 0 rfl) ?_
          refine km_get hx hb hts hin hown hK hP 6 (by decide) (v := .ref (ra 6)) k_fieldLink_RX12_33__KeyLettersModel___s____I_ rfl dX12_owedBy_22 ?_
          refine lv_bipush (v := 62) hx hb dX12_owedBy_25 (by decide) ?_
          refine lv_bipush (v := 6) hx hb dX12_owedBy_27 (by decide) ?_
          refine lv_iload_n hx hb dX12_owedBy_29 rfl (lv_at hl 1 rfl) ?_
          refine lv_imul hx hb dX12_owedBy_30 ?_
          refine lv_iadd hx hb dX12_owedBy_31 ?_
          refine lv_iload hx hb dX12_owedBy_32 (lv_at hl 4 rfl) ?_
          refine lv_iadd hx hb dX12_owedBy_34 ?_
          obtain ⟨v5, ev5, hf⟩ := bd1_e hf
          refine kt_i ev5 ?_
          obtain ⟨hc6, hf⟩ := ck_e hf
          refine va_iald hx hb hK hP 2 1 rfl rfl hc6 dX12_owedBy_35 ?_
          refine lv_goto (tgt := 54) hx hb dX12_owedBy_36 (by decide) ?_
          exact h_54 x1_5 x2_5 x4_5 x3_5 (M.1 6 v5.toNatClampNeg) ls (lv_sub hl [0, 1, 2, 4] rfl) hf) 2000
  refine lv_iconst (v := 0) hx hb dX12_owedBy_0 (by decide) ?_
  refine lv_istore_n (nL := 5) (lv' := [(3, .int (0 : Int32)), (0, .ref (ra 0)), (1, .int a0), (2, .int a1)]) hx hb dX12_owedBy_1 rfl hl (by decide) rfl (fun ls hl => ?_)
  refine lv_iconst (v := 0) hx hb dX12_owedBy_2 (by decide) ?_
  refine lv_istore (nL := 5) (lv' := [(4, .int (0 : Int32)), (3, .int (0 : Int32)), (0, .ref (ra 0)), (1, .int a0), (2, .int a1)]) hx hb dX12_owedBy_3 hl (by decide) rfl (fun ls hl => ?_)
  exact h_5 a0 a1 (0 : Int32) (0 : Int32) ls (lv_sub hl [2, 3, 4, 1, 0] rfl) hf

abbrev rm_X12_machine : Room := { frames := 4, cells := 0, slots := 0, locals := 88 }
set_option maxHeartbeats 4000000 in
set_option maxRecDepth 100000 in
theorem c_X12_machine (l : Launch) (dC : Nat → ClassId) (dI : Nat → Nat → Nat) (cB cI cJ cZ : ClassId) (ra : Nat → Nat) (sz : Nat) (M : kD) (a0 : Int32) (a1 : Int32) (r : (Int32 × kD)) (hf : f_X12_machine a0 a1 M = some r) : Met l yX12_machine wsX12_machine rm_X12_machine (va_Pc [.ref (ra 0), .int a0, .int a1] (mPw dC dI cB cI cJ cZ ra sz M)) (mQi dC dI cB cI cJ cZ ra sz r) 0 0 (mA ra sz) := by
  refine Met.ofW (cc := cX12_machine) (maxL := 3) (ret := (some .int)) (by decide) rfl ?_
  intro p e s m args below meth c s₁ B hml hv
  obtain ⟨hav, hsz, hP, hK, hD0⟩ := hv
  have hx := B.exec
  have hb := B.bytes
  have hr := B.returns
  have hts := atoms_spec (ws := wsX12_machine) B.pre
  have hown : s.vm.findClass RX12 = some m.cls := findClass_of_methodNamed B.named
  have hlocks := B.notSynchronized
  subst hsz
  have hA : ∀ q, s.heap.size ≤ q → mA ra s.heap.size q := fun q h => Or.inr h
  have hD : va_D (mA ra s.heap.size) (mw cB cI cJ cZ ra M) := hD0.weaken (fun k q h _ => mA_in h)
  have hS : va_S (mA ra s.heap.size) s.heap s.heap [] := va_S.rf
  have hin : ∀ w ∈ wsX120, w ∈ wsX12_machine := fun w h => List.mem_cons_of_mem _ (List.mem_append_right _ h)
  have k_fieldLink_RX12_33__KeyLettersModel___s____I_ := hts (.fieldLink RX12 33 "KeyLettersModel" "s" "[I") (by decide +kernel)
  have hl := lv_entry ([.ref (ra 0), .int a0, .int a1]) (n := 3) (Nat.le_of_ble_eq_true rfl)
  rw [show entryFrame m args 3 = entryFrame m ([.ref (ra 0), .int a0, .int a1] : List Value).toArray 3 from by rw [hav], lg_entry_eq]
  generalize (lg_sl ([.ref (ra 0), .int a0, .int a1]) ++ List.replicate (3 - (lg_sl ([.ref (ra 0), .int a0, .int a1])).length) Slot.unset).toArray = ls at hl ⊢
  have hl : lv_has ls 3 [(0, .ref (ra 0)), (1, .int a0), (2, .int a1)] := hl
  unfold f_X12_machine at hf
  have h_24 : ∀ (x1_24 : Int32) (x2_24 : Int32) (t1_24 : Int32) (M_24 : kD) (ls : Array Slot) (H : Heap) (locs : List Loc), lv_has ls 3 [(0, .ref (ra 0)), (1, .int x1_24), (2, .int x2_24)] → va_P (dC, dI) vwCl (mw cB cI cJ cZ ra M_24) H → va_D (mA ra s.heap.size) (mw cB cI cJ cZ ra M_24) → va_S (mA ra s.heap.size) s.heap H locs → g_X12_machine_24 x1_24 x2_24 t1_24 M_24 = some r → W p l e (headSpec wsX12_machine rm_X12_machine).room s m args below meth c H locs 0 0 (MQ below (mQi dC dI cB cI cJ cZ ra s.heap.size r) args s 0 0 (mA ra s.heap.size)) (F0 m 24 ls [.int t1_24, .ref (ra 0)]) := by
    intro x1_24 x2_24 t1_24 M_24 ls H locs hl hP hD hS hf
    unfold g_X12_machine_24 at hf
    have h_143 : ∀ (t1_143 : Int32) (t2_143 : Int32) (M_143 : kD) (ls : Array Slot) (H : Heap) (locs : List Loc), lv_has ls 3 [] → va_P (dC, dI) vwCl (mw cB cI cJ cZ ra M_143) H → va_D (mA ra s.heap.size) (mw cB cI cJ cZ ra M_143) → va_S (mA ra s.heap.size) s.heap H locs → g_X12_machine_143 t1_143 t2_143 M_143 = some r → W p l e (headSpec wsX12_machine rm_X12_machine).room s m args below meth c H locs 0 0 (MQ below (mQi dC dI cB cI cJ cZ ra s.heap.size r) args s 0 0 (mA ra s.heap.size)) (F0 m 143 ls [.int t2_143, .int t1_143, .ref (ra 0)]) := by
      intro t1_143 t2_143 M_143 ls H locs hl hP hD hS hf
      unfold g_X12_machine_143 at hf
      obtain ⟨v1, hq2, hf⟩ := bo_e hf
      refine ko_call (v := some (.int v1)) (km_run (As := [.int t1_143, .int t2_143]) (rest := []) ⟨hx, hb, hml, hown, hts⟩ (c_X12_owedBy l dC dI cB cI cJ cZ ra M_143 t1_143 t2_143 v1 hq2) (cwV 2 hts gX12_machine_X12_owedBy rfl rfl rfl (by decide +kernel) ⟨Nat.le_of_ble_eq_true rfl, Nat.le_of_ble_eq_true rfl⟩) hK hP (fun _ _ _ _ => mPr_bl) (fun U hU hW => ⟨by rw [hU]; exact hP, va_K.moved hW.alike hK⟩) rfl rfl hl.1 rfl (lv_room (Nat.le_of_ble_eq_true rfl)) dX12_machine_143 ⟨Nat.le_refl _, Nat.le_refl _⟩) ?_
      have hf := Option.some.inj hf
      subst hf
      exact m_iret hx hb hr hlocks hP hK hD hS dX12_machine_146
    obtain ⟨v4, M3, hq5, hf⟩ := bo2_e hf
    refine km_callw (v := v4) (M1 := M3) rfl (km_run (As := [.int t1_24]) (rest := []) ⟨hx, hb, hml, hown, hts⟩ (c_X12_throwsIf l dC dI cB cI cJ cZ ra _ M_24 t1_24 (v4, M3) hq5) (cwV 1 hts gX12_machine_X12_throwsIf rfl rfl rfl (by decide +kernel) ⟨Nat.le_of_ble_eq_true rfl, Nat.le_of_ble_eq_true rfl⟩) hK hP (fun _ _ _ _ => mPw_bl) (fun U hU hW => ⟨by rw [hU], by rw [hU]; exact hP, va_K.moved hW.alike hK, hD.weaken (fun _ _ _ _ => trivial)⟩) rfl rfl hl.1 rfl (lv_room (Nat.le_of_ble_eq_true rfl)) dX12_machine_24 ⟨Nat.le_refl _, Nat.le_refl _⟩) hD hS hA (fun H locs hP hD hS => ?_)
    refine lv_if_eq (tgt := 32) hx hb dX12_machine_27 (by decide) (fun hb23 => ?_) (fun hb23 => ?_)
    · have hf := (if_pos hb23).symm.trans hf
      refine lv_iload_n hx hb dX12_machine_32 rfl (lv_at hl 2 rfl) ?_
      by_cases hs8 : x2_24 = 0
      · have hf := (if_pos hs8).symm.trans hf
        refine lv_tableIn (off := 39) (tgt := 72) hx hb dX12_machine_33 (by rw [hs8]; decide) (by rw [hs8]; decide) (by rw [hs8]; decide +kernel) (by decide) ?_
        refine lv_aload_n hx hb dX12_machine_72 rfl (lv_at hl 0 rfl) ?_
        refine km_get hx hb hts hin hown hK hP 6 (by decide) (v := .ref (ra 6)) k_fieldLink_RX12_33__KeyLettersModel___s____I_ rfl dX12_machine_73 ?_
        refine lv_bipush (v := 44) hx hb dX12_machine_76 (by decide) ?_
        refine lv_iload_n hx hb dX12_machine_78 rfl (lv_at hl 1 rfl) ?_
        refine lv_iadd hx hb dX12_machine_79 ?_
        obtain ⟨v6, ev6, hf⟩ := bd1_e hf
        refine kt_i ev6 ?_
        obtain ⟨hc7, hf⟩ := ck_e hf
        refine va_iald hx hb hK hP 2 1 rfl rfl hc7 dX12_machine_80 ?_
        have hf := Option.some.inj hf
        subst hf
        exact m_iret hx hb hr hlocks hP hK hD hS dX12_machine_81
      have hf := (if_neg hs8).symm.trans hf
      by_cases hs11 : x2_24 = 1
      · have hf := (if_pos hs11).symm.trans hf
        refine lv_tableIn (off := 49) (tgt := 82) hx hb dX12_machine_33 (by rw [hs11]; decide) (by rw [hs11]; decide) (by rw [hs11]; decide +kernel) (by decide) ?_
        refine lv_aload_n hx hb dX12_machine_82 rfl (lv_at hl 0 rfl) ?_
        refine km_get hx hb hts hin hown hK hP 6 (by decide) (v := .ref (ra 6)) k_fieldLink_RX12_33__KeyLettersModel___s____I_ rfl dX12_machine_83 ?_
        refine lv_bipush (v := 9) hx hb dX12_machine_86 (by decide) ?_
        refine lv_iload_n hx hb dX12_machine_88 rfl (lv_at hl 1 rfl) ?_
        refine lv_iadd hx hb dX12_machine_89 ?_
        obtain ⟨v9, ev9, hf⟩ := bd1_e hf
        refine kt_i ev9 ?_
        obtain ⟨hc10, hf⟩ := ck_e hf
        refine va_iald hx hb hK hP 2 1 rfl rfl hc10 dX12_machine_90 ?_
        have hf := Option.some.inj hf
        subst hf
        exact m_iret hx hb hr hlocks hP hK hD hS dX12_machine_91
      have hf := (if_neg hs11).symm.trans hf
      by_cases hs12 : x2_24 = 2
      · have hf := (if_pos hs12).symm.trans hf
        refine lv_tableIn (off := 59) (tgt := 92) hx hb dX12_machine_33 (by rw [hs12]; decide) (by rw [hs12]; decide) (by rw [hs12]; decide +kernel) (by decide) ?_
        refine lv_aload_n hx hb dX12_machine_92 rfl (lv_at hl 0 rfl) ?_
        refine km_get hx hb hts hin hown hK hP 6 (by decide) (v := .ref (ra 6)) k_fieldLink_RX12_33__KeyLettersModel___s____I_ rfl dX12_machine_93 ?_
        refine lv_bipush (v := 42) hx hb dX12_machine_96 (by decide) ?_
        refine va_iald hx hb hK hP 2 1 rfl rfl (show ¬ ((42 : Int32) < 0 ∨ 279 ≤ (42 : Int32).toNatClampNeg) by decide +kernel) dX12_machine_98 ?_
        refine lv_iload_n hx hb dX12_machine_99 rfl (lv_at hl 1 rfl) ?_
        refine lv_ishr hx hb dX12_machine_100 ?_
        refine lv_iconst (v := 1) hx hb dX12_machine_101 (by decide) ?_
        refine lv_iand hx hb dX12_machine_102 ?_
        have hf := Option.some.inj hf
        subst hf
        exact m_iret hx hb hr hlocks hP hK hD hS dX12_machine_103
      have hf := (if_neg hs12).symm.trans hf
      by_cases hs15 : x2_24 = 3
      · have hf := (if_pos hs15).symm.trans hf
        refine lv_tableIn (off := 71) (tgt := 104) hx hb dX12_machine_33 (by rw [hs15]; decide) (by rw [hs15]; decide) (by rw [hs15]; decide +kernel) (by decide) ?_
        refine lv_aload_n hx hb dX12_machine_104 rfl (lv_at hl 0 rfl) ?_
        refine km_get hx hb hts hin hown hK hP 6 (by decide) (v := .ref (ra 6)) k_fieldLink_RX12_33__KeyLettersModel___s____I_ rfl dX12_machine_105 ?_
        refine lv_bipush (v := 50) hx hb dX12_machine_108 (by decide) ?_
        refine lv_iload_n hx hb dX12_machine_110 rfl (lv_at hl 1 rfl) ?_
        refine lv_iadd hx hb dX12_machine_111 ?_
        obtain ⟨v13, ev13, hf⟩ := bd1_e hf
        refine kt_i ev13 ?_
        obtain ⟨hc14, hf⟩ := ck_e hf
        refine va_iald hx hb hK hP 2 1 rfl rfl hc14 dX12_machine_112 ?_
        have hf := Option.some.inj hf
        subst hf
        exact m_iret hx hb hr hlocks hP hK hD hS dX12_machine_113
      have hf := (if_neg hs15).symm.trans hf
      by_cases hs18 : x2_24 = 4
      · have hf := (if_pos hs18).symm.trans hf
        refine lv_tableIn (off := 81) (tgt := 114) hx hb dX12_machine_33 (by rw [hs18]; decide) (by rw [hs18]; decide) (by rw [hs18]; decide +kernel) (by decide) ?_
        refine lv_aload_n hx hb dX12_machine_114 rfl (lv_at hl 0 rfl) ?_
        refine km_get hx hb hts hin hown hK hP 6 (by decide) (v := .ref (ra 6)) k_fieldLink_RX12_33__KeyLettersModel___s____I_ rfl dX12_machine_115 ?_
        refine lv_bipush (v := 56) hx hb dX12_machine_118 (by decide) ?_
        refine lv_iload_n hx hb dX12_machine_120 rfl (lv_at hl 1 rfl) ?_
        refine lv_iadd hx hb dX12_machine_121 ?_
        obtain ⟨v16, ev16, hf⟩ := bd1_e hf
        refine kt_i ev16 ?_
        obtain ⟨hc17, hf⟩ := ck_e hf
        refine va_iald hx hb hK hP 2 1 rfl rfl hc17 dX12_machine_122 ?_
        have hf := Option.some.inj hf
        subst hf
        exact m_iret hx hb hr hlocks hP hK hD hS dX12_machine_123
      have hf := (if_neg hs18).symm.trans hf
      by_cases hs21 : x2_24 = 5
      · have hf := (if_pos hs21).symm.trans hf
        refine lv_tableIn (off := 91) (tgt := 124) hx hb dX12_machine_33 (by rw [hs21]; decide) (by rw [hs21]; decide) (by rw [hs21]; decide +kernel) (by decide) ?_
        refine lv_aload_n hx hb dX12_machine_124 rfl (lv_at hl 0 rfl) ?_
        refine lv_iload_n hx hb dX12_machine_125 rfl (lv_at hl 1 rfl) ?_
        obtain ⟨v19, hq20, hf⟩ := bo_e hf
        refine ko_call (v := some (.int v19)) (km_run (As := [.int x1_24]) (rest := []) ⟨hx, hb, hml, hown, hts⟩ (c_X12_couldWrite l dC dI cB cI cJ cZ ra M3 x1_24 v19 hq20) (cwV 1 hts gX12_machine_X12_couldWrite rfl rfl rfl (by decide +kernel) ⟨Nat.le_of_ble_eq_true rfl, Nat.le_of_ble_eq_true rfl⟩) hK hP (fun _ _ _ _ => mPr_bl) (fun U hU hW => ⟨by rw [hU]; exact hP, va_K.moved hW.alike hK⟩) rfl rfl hl.1 rfl (lv_room (Nat.le_of_ble_eq_true rfl)) dX12_machine_126 ⟨Nat.le_refl _, Nat.le_refl _⟩) ?_
        have hf := Option.some.inj hf
        subst hf
        exact m_iret hx hb hr hlocks hP hK hD hS dX12_machine_129
      have hf := (if_neg hs21).symm.trans hf
      have hsw : x2_24.toInt < 0 ∨ 5 < x2_24.toInt := by
        have qhs8 : x2_24.toInt ≠ 0 := fun q => hs8 (Int32.toInt_inj.mp (q.trans (by decide)))
        have qhs11 : x2_24.toInt ≠ 1 := fun q => hs11 (Int32.toInt_inj.mp (q.trans (by decide)))
        have qhs12 : x2_24.toInt ≠ 2 := fun q => hs12 (Int32.toInt_inj.mp (q.trans (by decide)))
        have qhs15 : x2_24.toInt ≠ 3 := fun q => hs15 (Int32.toInt_inj.mp (q.trans (by decide)))
        have qhs18 : x2_24.toInt ≠ 4 := fun q => hs18 (Int32.toInt_inj.mp (q.trans (by decide)))
        have qhs21 : x2_24.toInt ≠ 5 := fun q => hs21 (Int32.toInt_inj.mp (q.trans (by decide)))
        omega
      refine lv_tableOut (tgt := 130) hx hb dX12_machine_33 hsw (by decide) ?_
      refine lv_aload_n hx hb dX12_machine_130 rfl (lv_at hl 0 rfl) ?_
      refine lv_iload_n hx hb dX12_machine_131 rfl (lv_at hl 1 rfl) ?_
      refine lv_iload_n hx hb dX12_machine_132 rfl (lv_at hl 2 rfl) ?_
      refine lv_bipush (v := 6) hx hb dX12_machine_133 (by decide) ?_
      refine lv_icmp_ne (tgt := 142) hx hb dX12_machine_135 (by decide) (fun hb22 => ?_) (fun hb22 => ?_)
      · have hf := (if_neg hb22).symm.trans hf
        refine lv_iconst (v := 0) hx hb dX12_machine_142 (by decide) ?_
        exact h_143 x1_24 (0 : Int32) M3 ls _ _ (lv_sub hl [] rfl) hP hD hS hf
      · have hf := (if_pos hb22).symm.trans hf
        refine lv_iconst (v := 1) hx hb dX12_machine_138 (by decide) ?_
        refine lv_goto (tgt := 143) hx hb dX12_machine_139 (by decide) ?_
        exact h_143 x1_24 (1 : Int32) M3 ls _ _ (lv_sub hl [] rfl) hP hD hS hf
    · have hf := (if_neg hb23).symm.trans hf
      refine lv_iconst (v := 0) hx hb dX12_machine_30 (by decide) ?_
      have hf := Option.some.inj hf
      subst hf
      exact m_iret hx hb hr hlocks hP hK hD hS dX12_machine_31
  have h_19 : ∀ (x1_19 : Int32) (x2_19 : Int32) (M_19 : kD) (ls : Array Slot) (H : Heap) (locs : List Loc), lv_has ls 3 [(0, .ref (ra 0)), (1, .int x1_19), (2, .int x2_19)] → va_P (dC, dI) vwCl (mw cB cI cJ cZ ra M_19) H → va_D (mA ra s.heap.size) (mw cB cI cJ cZ ra M_19) → va_S (mA ra s.heap.size) s.heap H locs → g_X12_machine_19 x1_19 x2_19 M_19 = some r → W p l e (headSpec wsX12_machine rm_X12_machine).room s m args below meth c H locs 0 0 (MQ below (mQi dC dI cB cI cJ cZ ra s.heap.size r) args s 0 0 (mA ra s.heap.size)) (F0 m 19 ls [.ref (ra 0)]) := by
    intro x1_19 x2_19 M_19 ls H locs hl hP hD hS hf
    unfold g_X12_machine_19 at hf
    refine lv_iconst (v := 1) hx hb dX12_machine_19 (by decide) ?_
    refine lv_goto (tgt := 24) hx hb dX12_machine_20 (by decide) ?_
    exact h_24 x1_19 x2_19 (1 : Int32) M_19 ls _ _ hl hP hD hS hf
  refine lv_aload_n hx hb dX12_machine_0 rfl (lv_at hl 0 rfl) ?_
  refine lv_aload_n hx hb dX12_machine_1 rfl (lv_at hl 0 rfl) ?_
  refine lv_iload_n hx hb dX12_machine_2 rfl (lv_at hl 1 rfl) ?_
  obtain ⟨v24, hq25, hf⟩ := bo_e hf
  refine ko_call (v := some (.int v24)) (km_run (As := [.int a0]) (rest := [.ref (ra 0)]) ⟨hx, hb, hml, hown, hts⟩ (c_X12_isMachine l dC dI cB cI cJ cZ ra M a0 v24 hq25) (cwV 1 hts gX12_machine_X12_isMachine rfl rfl rfl (by decide +kernel) ⟨Nat.le_of_ble_eq_true rfl, Nat.le_of_ble_eq_true rfl⟩) hK hP (fun _ _ _ _ => mPr_bl) (fun U hU hW => ⟨by rw [hU]; exact hP, va_K.moved hW.alike hK⟩) rfl rfl hl.1 rfl (lv_room (Nat.le_of_ble_eq_true rfl)) dX12_machine_3 ⟨Nat.le_refl _, Nat.le_refl _⟩) ?_
  refine lv_if_eq (tgt := 19) hx hb dX12_machine_6 (by decide) (fun hb27 => ?_) (fun hb27 => ?_)
  · have hf := (if_pos hb27).symm.trans hf
    exact h_19 a0 a1 M ls _ _ hl hP hD hS hf
  · have hf := (if_neg hb27).symm.trans hf
    refine lv_iload_n hx hb dX12_machine_9 rfl (lv_at hl 2 rfl) ?_
    refine lv_iconst (v := 0) hx hb dX12_machine_10 (by decide) ?_
    refine lv_bipush (v := 7) hx hb dX12_machine_11 (by decide) ?_
    refine ko_call (v := some (.int (f_X12_isIn a1 (0 : Int32) (7 : Int32)))) (va_runS (As := [.int a1, .int (0 : Int32), .int (7 : Int32)]) (rest := [.ref (ra 0)]) ⟨hx, hb, hml, hown, hts⟩ (c_X12_isIn l a1 (0 : Int32) (7 : Int32) _ rfl) (va_cwS 3 hts gX12_machine_X12_isIn rfl rfl rfl (by decide +kernel) ⟨Nat.le_of_ble_eq_true rfl, Nat.le_of_ble_eq_true rfl⟩) ⟨fun a U g mk q => q, fun U hU hW => ⟨rfl, trivial⟩⟩ rfl rfl hl.1 rfl (lv_room (Nat.le_of_ble_eq_true rfl)) dX12_machine_13 ⟨Nat.le_refl _, Nat.le_refl _⟩) ?_
    refine lv_if_ne (tgt := 23) hx hb dX12_machine_16 (by decide) (fun hb26 => ?_) (fun hb26 => ?_)
    · have hf := (if_neg hb26).symm.trans hf
      refine lv_iconst (v := 0) hx hb dX12_machine_23 (by decide) ?_
      exact h_24 a0 a1 (0 : Int32) M ls _ _ hl hP hD hS hf
    · have hf := (if_pos hb26).symm.trans hf
      exact h_19 a0 a1 M ls _ _ hl hP hD hS hf

abbrev rm_X12_phrase : Room := { frames := 2, cells := 0, slots := 0, locals := 43 }
set_option maxHeartbeats 4000000 in
set_option maxRecDepth 100000 in
theorem c_X12_phrase (l : Launch) (dC : Nat → ClassId) (dI : Nat → Nat → Nat) (cB cI cJ cZ : ClassId) (ra : Nat → Nat) (sz : Nat) (M : kD) (a0 : Int32) (a1 : Int32) (r : (Int32 × kD)) (hf : f_X12_phrase a0 a1 M = some r) : Met l yX12_phrase wsX12_phrase rm_X12_phrase (va_Pc [.ref (ra 0), .int a0, .int a1] (mPw dC dI cB cI cJ cZ ra sz M)) (mQi dC dI cB cI cJ cZ ra sz r) 0 0 (mA ra sz) := by
  refine Met.ofW (cc := cX12_phrase) (maxL := 6) (ret := (some .int)) (by decide) rfl ?_
  intro p e s m args below meth c s₁ B hml hv
  obtain ⟨hav, hsz, hP, hK, hD0⟩ := hv
  have hx := B.exec
  have hb := B.bytes
  have hr := B.returns
  have hts := atoms_spec (ws := wsX12_phrase) B.pre
  have hown : s.vm.findClass RX12 = some m.cls := findClass_of_methodNamed B.named
  have hlocks := B.notSynchronized
  subst hsz
  have hA : ∀ q, s.heap.size ≤ q → mA ra s.heap.size q := fun q h => Or.inr h
  have hD : va_D (mA ra s.heap.size) (mw cB cI cJ cZ ra M) := hD0.weaken (fun k q h _ => mA_in h)
  have hS : va_S (mA ra s.heap.size) s.heap s.heap [] := va_S.rf
  have hin : ∀ w ∈ wsX120, w ∈ wsX12_phrase := fun w h => List.mem_cons_of_mem _ (List.mem_append_right _ h)
  have k_fieldLink_RX12_1__KeyLettersModel___thrown___I_ := hts (.fieldLink RX12 1 "KeyLettersModel" "thrown" "I") (by decide +kernel)
  have k_fieldLink_RX12_33__KeyLettersModel___s____I_ := hts (.fieldLink RX12 33 "KeyLettersModel" "s" "[I") (by decide +kernel)
  have hl := lv_entry ([.ref (ra 0), .int a0, .int a1]) (n := 6) (Nat.le_of_ble_eq_true rfl)
  rw [show entryFrame m args 6 = entryFrame m ([.ref (ra 0), .int a0, .int a1] : List Value).toArray 6 from by rw [hav], lg_entry_eq]
  generalize (lg_sl ([.ref (ra 0), .int a0, .int a1]) ++ List.replicate (6 - (lg_sl ([.ref (ra 0), .int a0, .int a1])).length) Slot.unset).toArray = ls at hl ⊢
  have hl : lv_has ls 6 [(0, .ref (ra 0)), (1, .int a0), (2, .int a1)] := hl
  unfold f_X12_phrase at hf
  have h_61 : ∀ (x1_61 : Int32) (x2_61 : Int32) (x3_61 : Int32) (x4_61 : Int32) (M_61 : kD) (ls : Array Slot) (H : Heap) (locs : List Loc), lv_has ls 6 [(0, .ref (ra 0)), (1, .int x1_61), (2, .int x2_61), (3, .int x3_61), (4, .int x4_61)] → va_P (dC, dI) vwCl (mw cB cI cJ cZ ra M_61) H → va_D (mA ra s.heap.size) (mw cB cI cJ cZ ra M_61) → va_S (mA ra s.heap.size) s.heap H locs → g_X12_phrase_61 x1_61 x2_61 x3_61 x4_61 M_61 = some r → W p l e (headSpec wsX12_phrase rm_X12_phrase).room s m args below meth c H locs 0 0 (MQ below (mQi dC dI cB cI cJ cZ ra s.heap.size r) args s 0 0 (mA ra s.heap.size)) (F0 m 61 ls []) := by
    intro x1_61 x2_61 x3_61 x4_61 M_61 ls H locs hl hP hD hS hf
    unfold g_X12_phrase_61 at hf
    have h_111 : ∀ (x1_111 : Int32) (x2_111 : Int32) (x3_111 : Int32) (x4_111 : Int32) (M_111 : kD) (ls : Array Slot) (H : Heap) (locs : List Loc), lv_has ls 6 [(0, .ref (ra 0)), (1, .int x1_111), (2, .int x2_111), (3, .int x3_111), (4, .int x4_111)] → va_P (dC, dI) vwCl (mw cB cI cJ cZ ra M_111) H → va_D (mA ra s.heap.size) (mw cB cI cJ cZ ra M_111) → va_S (mA ra s.heap.size) s.heap H locs → g_X12_phrase_111 x1_111 x2_111 x3_111 x4_111 M_111 = some r → W p l e (headSpec wsX12_phrase rm_X12_phrase).room s m args below meth c H locs 0 0 (MQ below (mQi dC dI cB cI cJ cZ ra s.heap.size r) args s 0 0 (mA ra s.heap.size)) (F0 m 111 ls []) := by
      intro x1_111 x2_111 x3_111 x4_111 M_111 ls H locs hl hP hD hS hf
      unfold g_X12_phrase_111 at hf
      refine lv_iload_n hx hb dX12_phrase_111 rfl (lv_at hl 2 rfl) ?_
      by_cases hs3 : x2_111 = 0
      · have hf := (if_pos hs3).symm.trans hf
        refine lv_tableIn (off := 36) (tgt := 148) hx hb dX12_phrase_112 (by rw [hs3]; decide) (by rw [hs3]; decide) (by rw [hs3]; decide +kernel) (by decide) ?_
        refine lv_aload_n hx hb dX12_phrase_148 rfl (lv_at hl 0 rfl) ?_
        refine km_get hx hb hts hin hown hK hP 6 (by decide) (v := .ref (ra 6)) k_fieldLink_RX12_33__KeyLettersModel___s____I_ rfl dX12_phrase_149 ?_
        refine lv_bipush (v := 15) hx hb dX12_phrase_152 (by decide) ?_
        refine lv_iload_n hx hb dX12_phrase_154 rfl (lv_at hl 1 rfl) ?_
        refine lv_iadd hx hb dX12_phrase_155 ?_
        obtain ⟨v1, ev1, hf⟩ := bd1_e hf
        refine kt_i ev1 ?_
        obtain ⟨hc2, hf⟩ := ck_e hf
        refine va_iald hx hb hK hP 2 1 rfl rfl hc2 dX12_phrase_156 ?_
        have hf := Option.some.inj hf
        subst hf
        exact m_iret hx hb hr hlocks hP hK hD hS dX12_phrase_157
      have hf := (if_neg hs3).symm.trans hf
      by_cases hs6 : x2_111 = 1
      · have hf := (if_pos hs6).symm.trans hf
        refine lv_tableIn (off := 46) (tgt := 158) hx hb dX12_phrase_112 (by rw [hs6]; decide) (by rw [hs6]; decide) (by rw [hs6]; decide +kernel) (by decide) ?_
        refine lv_aload_n hx hb dX12_phrase_158 rfl (lv_at hl 0 rfl) ?_
        refine km_get hx hb hts hin hown hK hP 6 (by decide) (v := .ref (ra 6)) k_fieldLink_RX12_33__KeyLettersModel___s____I_ rfl dX12_phrase_159 ?_
        refine lv_bipush (v := 23) hx hb dX12_phrase_162 (by decide) ?_
        refine lv_iload_n hx hb dX12_phrase_164 rfl (lv_at hl 1 rfl) ?_
        refine lv_iadd hx hb dX12_phrase_165 ?_
        obtain ⟨v4, ev4, hf⟩ := bd1_e hf
        refine kt_i ev4 ?_
        obtain ⟨hc5, hf⟩ := ck_e hf
        refine va_iald hx hb hK hP 2 1 rfl rfl hc5 dX12_phrase_166 ?_
        have hf := Option.some.inj hf
        subst hf
        exact m_iret hx hb hr hlocks hP hK hD hS dX12_phrase_167
      have hf := (if_neg hs6).symm.trans hf
      by_cases hs9 : x2_111 = 2
      · have hf := (if_pos hs9).symm.trans hf
        refine lv_tableIn (off := 56) (tgt := 168) hx hb dX12_phrase_112 (by rw [hs9]; decide) (by rw [hs9]; decide) (by rw [hs9]; decide +kernel) (by decide) ?_
        refine lv_aload_n hx hb dX12_phrase_168 rfl (lv_at hl 0 rfl) ?_
        refine km_get hx hb hts hin hown hK hP 6 (by decide) (v := .ref (ra 6)) k_fieldLink_RX12_33__KeyLettersModel___s____I_ rfl dX12_phrase_169 ?_
        refine lv_bipush (v := 31) hx hb dX12_phrase_172 (by decide) ?_
        refine lv_iload_n hx hb dX12_phrase_174 rfl (lv_at hl 1 rfl) ?_
        refine lv_iadd hx hb dX12_phrase_175 ?_
        obtain ⟨v7, ev7, hf⟩ := bd1_e hf
        refine kt_i ev7 ?_
        obtain ⟨hc8, hf⟩ := ck_e hf
        refine va_iald hx hb hK hP 2 1 rfl rfl hc8 dX12_phrase_176 ?_
        have hf := Option.some.inj hf
        subst hf
        exact m_iret hx hb hr hlocks hP hK hD hS dX12_phrase_177
      have hf := (if_neg hs9).symm.trans hf
      by_cases hs10 : x2_111 = 3
      · have hf := (if_pos hs10).symm.trans hf
        refine lv_tableIn (off := 66) (tgt := 178) hx hb dX12_phrase_112 (by rw [hs10]; decide) (by rw [hs10]; decide) (by rw [hs10]; decide +kernel) (by decide) ?_
        refine lv_iload_n hx hb dX12_phrase_178 rfl (lv_at hl 3 rfl) ?_
        have hf := Option.some.inj hf
        subst hf
        exact m_iret hx hb hr hlocks hP hK hD hS dX12_phrase_179
      have hf := (if_neg hs10).symm.trans hf
      by_cases hs11 : x2_111 = 4
      · have hf := (if_pos hs11).symm.trans hf
        refine lv_tableIn (off := 68) (tgt := 180) hx hb dX12_phrase_112 (by rw [hs11]; decide) (by rw [hs11]; decide) (by rw [hs11]; decide +kernel) (by decide) ?_
        refine lv_iload hx hb dX12_phrase_180 (lv_at hl 4 rfl) ?_
        have hf := Option.some.inj hf
        subst hf
        exact m_iret hx hb hr hlocks hP hK hD hS dX12_phrase_182
      have hf := (if_neg hs11).symm.trans hf
      have hsw : x2_111.toInt < 0 ∨ 4 < x2_111.toInt := by
        have qhs3 : x2_111.toInt ≠ 0 := fun q => hs3 (Int32.toInt_inj.mp (q.trans (by decide)))
        have qhs6 : x2_111.toInt ≠ 1 := fun q => hs6 (Int32.toInt_inj.mp (q.trans (by decide)))
        have qhs9 : x2_111.toInt ≠ 2 := fun q => hs9 (Int32.toInt_inj.mp (q.trans (by decide)))
        have qhs10 : x2_111.toInt ≠ 3 := fun q => hs10 (Int32.toInt_inj.mp (q.trans (by decide)))
        have qhs11 : x2_111.toInt ≠ 4 := fun q => hs11 (Int32.toInt_inj.mp (q.trans (by decide)))
        omega
      refine lv_tableOut (tgt := 183) hx hb dX12_phrase_112 hsw (by decide) ?_
      refine lv_iconst (v := -1) hx hb dX12_phrase_183 (by decide) ?_
      have hf := Option.some.inj hf
      subst hf
      exact m_iret hx hb hr hlocks hP hK hD hS dX12_phrase_184
    have h_64 := lp_ind (z := (fun _ _ _ _ _ _ => none)) (b := (g_X12_phrase_64)) (fun (rc_64 : Int32 → Int32 → Int32 → Int32 → Int32 → kD → Option (Int32 × kD)) => ∀ (x1_64 : Int32) (x2_64 : Int32) (x3_64 : Int32) (x4_64 : Int32) (x5_64 : Int32) (M_64 : kD) (ls : Array Slot) (H : Heap) (locs : List Loc), lv_has ls 6 [(0, .ref (ra 0)), (1, .int x1_64), (2, .int x2_64), (3, .int x3_64), (4, .int x4_64), (5, .int x5_64)] → va_P (dC, dI) vwCl (mw cB cI cJ cZ ra M_64) H → va_D (mA ra s.heap.size) (mw cB cI cJ cZ ra M_64) → va_S (mA ra s.heap.size) s.heap H locs → rc_64 x1_64 x2_64 x3_64 x4_64 x5_64 M_64 = some r → W p l e (headSpec wsX12_phrase rm_X12_phrase).room s m args below meth c H locs 0 0 (MQ below (mQi dC dI cB cI cJ cZ ra s.heap.size r) args s 0 0 (mA ra s.heap.size)) (F0 m 64 ls [])) (by
        intro x1_64 x2_64 x3_64 x4_64 x5_64 M_64 ls H locs hl hP hD hS hf
        cases hf) (by
        intro rc_64 ih_64 x1_64 x2_64 x3_64 x4_64 x5_64 M_64 ls H locs hl hP hD hS hf
        unfold g_X12_phrase_64 at hf
        have h_102 : ∀ (x1_102 : Int32) (x2_102 : Int32) (x3_102 : Int32) (x5_102 : Int32) (t0_102 : Int32) (t1_102 : Int32) (M_102 : kD) (ls : Array Slot) (H : Heap) (locs : List Loc), lv_has ls 6 [(0, .ref (ra 0)), (1, .int x1_102), (2, .int x2_102), (3, .int x3_102), (5, .int x5_102)] → va_P (dC, dI) vwCl (mw cB cI cJ cZ ra M_102) H → va_D (mA ra s.heap.size) (mw cB cI cJ cZ ra M_102) → va_S (mA ra s.heap.size) s.heap H locs → g_X12_phrase_102 rc_64 x1_102 x2_102 x3_102 x5_102 t0_102 t1_102 M_102 = some r → W p l e (headSpec wsX12_phrase rm_X12_phrase).room s m args below meth c H locs 0 0 (MQ below (mQi dC dI cB cI cJ cZ ra s.heap.size r) args s 0 0 (mA ra s.heap.size)) (F0 m 102 ls [.int t1_102, .int t0_102]) := by
          intro x1_102 x2_102 x3_102 x5_102 t0_102 t1_102 M_102 ls H locs hl hP hD hS hf
          unfold g_X12_phrase_102 at hf
          refine lv_ior hx hb dX12_phrase_102 ?_
          obtain ⟨v12, ev12, hf⟩ := bd1_e hf
          refine kt_i ev12 ?_
          refine lv_istore (nL := 6) (lv' := [(4, .int v12), (0, .ref (ra 0)), (1, .int x1_102), (2, .int x2_102), (3, .int x3_102), (5, .int x5_102)]) hx hb dX12_phrase_103 hl (by decide) rfl (fun ls hl => ?_)
          obtain ⟨v13, ev13, hf⟩ := bd1_e hf
          refine lv_iinc (k := 5) (x := x5_102) (v := v13) (nL := 6) (lv' := [(5, .int v13), (4, .int v12), (0, .ref (ra 0)), (1, .int x1_102), (2, .int x2_102), (3, .int x3_102)]) hx hb dX12_phrase_105 hl rfl (kt_inc (w := 1) (by decide) ev13) (by decide) rfl (fun ls hl => ?_)
          refine lv_goto (tgt := 64) hx hb dX12_phrase_108 (by decide) ?_
          exact ih_64 x1_102 x2_102 x3_102 v12 v13 M_102 ls _ _ (lv_sub hl [2, 3, 4, 5, 1, 0] rfl) hP hD hS hf
        refine lv_iload hx hb dX12_phrase_64 (lv_at hl 5 rfl) ?_
        refine lv_aload_n hx hb dX12_phrase_66 rfl (lv_at hl 0 rfl) ?_
        refine km_get hx hb hts hin hown hK hP 6 (by decide) (v := .ref (ra 6)) k_fieldLink_RX12_33__KeyLettersModel___s____I_ rfl dX12_phrase_67 ?_
        refine lv_iconst (v := 0) hx hb dX12_phrase_70 (by decide) ?_
        refine va_iald hx hb hK hP 2 1 rfl rfl (show ¬ ((0 : Int32) < 0 ∨ 279 ≤ (0 : Int32).toNatClampNeg) by decide +kernel) dX12_phrase_71 ?_
        refine lv_icmp_ge (tgt := 111) hx hb dX12_phrase_72 (by decide) (fun hb17 => ?_) (fun hb17 => ?_)
        · have hf := (if_pos hb17).symm.trans hf
          exact h_111 x1_64 x2_64 x3_64 x4_64 M_64 ls _ _ (lv_sub hl [0, 1, 2, 3, 4] rfl) hP hD hS hf
        · have hf := (if_neg hb17).symm.trans hf
          refine lv_iload hx hb dX12_phrase_75 (lv_at hl 4 rfl) ?_
          refine lv_aload_n hx hb dX12_phrase_77 rfl (lv_at hl 0 rfl) ?_
          refine km_get hx hb hts hin hown hK hP 6 (by decide) (v := .ref (ra 6)) k_fieldLink_RX12_33__KeyLettersModel___s____I_ rfl dX12_phrase_78 ?_
          refine lv_bipush (v := 9) hx hb dX12_phrase_81 (by decide) ?_
          refine lv_iload hx hb dX12_phrase_83 (lv_at hl 5 rfl) ?_
          refine lv_iadd hx hb dX12_phrase_85 ?_
          obtain ⟨v14, ev14, hf⟩ := bd1_e hf
          refine kt_i ev14 ?_
          obtain ⟨hc15, hf⟩ := ck_e hf
          refine va_iald hx hb hK hP 2 1 rfl rfl hc15 dX12_phrase_86 ?_
          refine lv_iload_n hx hb dX12_phrase_87 rfl (lv_at hl 1 rfl) ?_
          refine ko_call (v := some (.int (f_X12_bitOf (M_64.1 6 v14.toNatClampNeg) x1_64))) (va_runS (As := [.int (M_64.1 6 v14.toNatClampNeg), .int x1_64]) (rest := [.int x4_64]) ⟨hx, hb, hml, hown, hts⟩ (c_X12_bitOf l (M_64.1 6 v14.toNatClampNeg) x1_64 _ rfl) (va_cwS 2 hts gX12_phrase_X12_bitOf rfl rfl rfl (by decide +kernel) ⟨Nat.le_of_ble_eq_true rfl, Nat.le_of_ble_eq_true rfl⟩) ⟨fun a U g mk q => q, fun U hU hW => ⟨rfl, trivial⟩⟩ rfl rfl hl.1 rfl (lv_room (Nat.le_of_ble_eq_true rfl)) dX12_phrase_88 ⟨Nat.le_refl _, Nat.le_refl _⟩) ?_
          refine lv_if_eq (tgt := 101) hx hb dX12_phrase_91 (by decide) (fun hb16 => ?_) (fun hb16 => ?_)
          · have hf := (if_pos hb16).symm.trans hf
            refine lv_iconst (v := 0) hx hb dX12_phrase_101 (by decide) ?_
            exact h_102 x1_64 x2_64 x3_64 x5_64 x4_64 (0 : Int32) M_64 ls _ _ (lv_sub hl [0, 1, 2, 3, 5] rfl) hP hD hS hf
          · have hf := (if_neg hb16).symm.trans hf
            refine lv_iconst (v := 1) hx hb dX12_phrase_94 (by decide) ?_
            refine lv_iload hx hb dX12_phrase_95 (lv_at hl 5 rfl) ?_
            refine lv_ishl hx hb dX12_phrase_97 ?_
            refine lv_goto (tgt := 102) hx hb dX12_phrase_98 (by decide) ?_
            exact h_102 x1_64 x2_64 x3_64 x5_64 x4_64 ((1 : Int32) <<< (x5_64 &&& 31)) M_64 ls _ _ (lv_sub hl [0, 1, 2, 3, 5] rfl) hP hD hS hf) 2000
    refine lv_iconst (v := 0) hx hb dX12_phrase_61 (by decide) ?_
    refine lv_istore (nL := 6) (lv' := [(5, .int (0 : Int32)), (0, .ref (ra 0)), (1, .int x1_61), (2, .int x2_61), (3, .int x3_61), (4, .int x4_61)]) hx hb dX12_phrase_62 hl (by decide) rfl (fun ls hl => ?_)
    exact h_64 x1_61 x2_61 x3_61 x4_61 (0 : Int32) M_61 ls _ _ (lv_sub hl [1, 2, 3, 4, 5, 0] rfl) hP hD hS hf
  have h_23 := lp_ind (z := (fun _ _ _ _ _ _ => none)) (b := (g_X12_phrase_23)) (fun (rc_23 : Int32 → Int32 → Int32 → Int32 → Int32 → kD → Option (Int32 × kD)) => ∀ (x1_23 : Int32) (x2_23 : Int32) (x3_23 : Int32) (x4_23 : Int32) (x5_23 : Int32) (M_23 : kD) (ls : Array Slot) (H : Heap) (locs : List Loc), lv_has ls 6 [(0, .ref (ra 0)), (1, .int x1_23), (2, .int x2_23), (3, .int x3_23), (4, .int x4_23), (5, .int x5_23)] → va_P (dC, dI) vwCl (mw cB cI cJ cZ ra M_23) H → va_D (mA ra s.heap.size) (mw cB cI cJ cZ ra M_23) → va_S (mA ra s.heap.size) s.heap H locs → rc_23 x1_23 x2_23 x3_23 x4_23 x5_23 M_23 = some r → W p l e (headSpec wsX12_phrase rm_X12_phrase).room s m args below meth c H locs 0 0 (MQ below (mQi dC dI cB cI cJ cZ ra s.heap.size r) args s 0 0 (mA ra s.heap.size)) (F0 m 23 ls [])) (by
      intro x1_23 x2_23 x3_23 x4_23 x5_23 M_23 ls H locs hl hP hD hS hf
      cases hf) (by
      intro rc_23 ih_23 x1_23 x2_23 x3_23 x4_23 x5_23 M_23 ls H locs hl hP hD hS hf
      unfold g_X12_phrase_23 at hf
      have h_53 : ∀ (x1_53 : Int32) (x2_53 : Int32) (x4_53 : Int32) (x5_53 : Int32) (t0_53 : Int32) (t1_53 : Int32) (M_53 : kD) (ls : Array Slot) (H : Heap) (locs : List Loc), lv_has ls 6 [(0, .ref (ra 0)), (1, .int x1_53), (2, .int x2_53), (4, .int x4_53), (5, .int x5_53)] → va_P (dC, dI) vwCl (mw cB cI cJ cZ ra M_53) H → va_D (mA ra s.heap.size) (mw cB cI cJ cZ ra M_53) → va_S (mA ra s.heap.size) s.heap H locs → g_X12_phrase_53 rc_23 x1_53 x2_53 x4_53 x5_53 t0_53 t1_53 M_53 = some r → W p l e (headSpec wsX12_phrase rm_X12_phrase).room s m args below meth c H locs 0 0 (MQ below (mQi dC dI cB cI cJ cZ ra s.heap.size r) args s 0 0 (mA ra s.heap.size)) (F0 m 53 ls [.int t1_53, .int t0_53]) := by
        intro x1_53 x2_53 x4_53 x5_53 t0_53 t1_53 M_53 ls H locs hl hP hD hS hf
        unfold g_X12_phrase_53 at hf
        refine lv_ior hx hb dX12_phrase_53 ?_
        obtain ⟨v18, ev18, hf⟩ := bd1_e hf
        refine kt_i ev18 ?_
        refine lv_istore_n (nL := 6) (lv' := [(3, .int v18), (0, .ref (ra 0)), (1, .int x1_53), (2, .int x2_53), (4, .int x4_53), (5, .int x5_53)]) hx hb dX12_phrase_54 rfl hl (by decide) rfl (fun ls hl => ?_)
        obtain ⟨v19, ev19, hf⟩ := bd1_e hf
        refine lv_iinc (k := 5) (x := x5_53) (v := v19) (nL := 6) (lv' := [(5, .int v19), (3, .int v18), (0, .ref (ra 0)), (1, .int x1_53), (2, .int x2_53), (4, .int x4_53)]) hx hb dX12_phrase_55 hl rfl (kt_inc (w := 1) (by decide) ev19) (by decide) rfl (fun ls hl => ?_)
        refine lv_goto (tgt := 23) hx hb dX12_phrase_58 (by decide) ?_
        exact ih_23 x1_53 x2_53 v18 x4_53 v19 M_53 ls _ _ (lv_sub hl [2, 3, 4, 1, 5, 0] rfl) hP hD hS hf
      refine lv_iload hx hb dX12_phrase_23 (lv_at hl 5 rfl) ?_
      refine lv_aload_n hx hb dX12_phrase_25 rfl (lv_at hl 0 rfl) ?_
      refine km_get hx hb hts hin hown hK hP 6 (by decide) (v := .ref (ra 6)) k_fieldLink_RX12_33__KeyLettersModel___s____I_ rfl dX12_phrase_26 ?_
      refine lv_iconst (v := 1) hx hb dX12_phrase_29 (by decide) ?_
      refine va_iald hx hb hK hP 2 1 rfl rfl (show ¬ ((1 : Int32) < 0 ∨ 279 ≤ (1 : Int32).toNatClampNeg) by decide +kernel) dX12_phrase_30 ?_
      refine lv_icmp_ge (tgt := 61) hx hb dX12_phrase_31 (by decide) (fun hb23 => ?_) (fun hb23 => ?_)
      · have hf := (if_pos hb23).symm.trans hf
        exact h_61 x1_23 x2_23 x3_23 x4_23 M_23 ls _ _ (lv_sub hl [0, 1, 2, 3, 4] rfl) hP hD hS hf
      · have hf := (if_neg hb23).symm.trans hf
        refine lv_iload_n hx hb dX12_phrase_34 rfl (lv_at hl 3 rfl) ?_
        refine lv_aload_n hx hb dX12_phrase_35 rfl (lv_at hl 0 rfl) ?_
        refine lv_iload_n hx hb dX12_phrase_36 rfl (lv_at hl 1 rfl) ?_
        refine lv_iload hx hb dX12_phrase_37 (lv_at hl 5 rfl) ?_
        obtain ⟨v20, hq21, hf⟩ := bo_e hf
        refine ko_call (v := some (.int v20)) (km_run (As := [.int x1_23, .int x5_23]) (rest := [.int x3_23]) ⟨hx, hb, hml, hown, hts⟩ (c_X12_isAnswer l dC dI cB cI cJ cZ ra M_23 x1_23 x5_23 v20 hq21) (cwV 2 hts gX12_phrase_X12_isAnswer rfl rfl rfl (by decide +kernel) ⟨Nat.le_of_ble_eq_true rfl, Nat.le_of_ble_eq_true rfl⟩) hK hP (fun _ _ _ _ => mPr_bl) (fun U hU hW => ⟨by rw [hU]; exact hP, va_K.moved hW.alike hK⟩) rfl rfl hl.1 rfl (lv_room (Nat.le_of_ble_eq_true rfl)) dX12_phrase_39 ⟨Nat.le_refl _, Nat.le_refl _⟩) ?_
        refine lv_if_eq (tgt := 52) hx hb dX12_phrase_42 (by decide) (fun hb22 => ?_) (fun hb22 => ?_)
        · have hf := (if_pos hb22).symm.trans hf
          refine lv_iconst (v := 0) hx hb dX12_phrase_52 (by decide) ?_
          exact h_53 x1_23 x2_23 x4_23 x5_23 x3_23 (0 : Int32) M_23 ls _ _ (lv_sub hl [0, 1, 2, 4, 5] rfl) hP hD hS hf
        · have hf := (if_neg hb22).symm.trans hf
          refine lv_iconst (v := 1) hx hb dX12_phrase_45 (by decide) ?_
          refine lv_iload hx hb dX12_phrase_46 (lv_at hl 5 rfl) ?_
          refine lv_ishl hx hb dX12_phrase_48 ?_
          refine lv_goto (tgt := 53) hx hb dX12_phrase_49 (by decide) ?_
          exact h_53 x1_23 x2_23 x4_23 x5_23 x3_23 ((1 : Int32) <<< (x5_23 &&& 31)) M_23 ls _ _ (lv_sub hl [0, 1, 2, 4, 5] rfl) hP hD hS hf) 2000
  refine lv_aload_n hx hb dX12_phrase_0 rfl (lv_at hl 0 rfl) ?_
  refine lv_iconst (v := 0) hx hb dX12_phrase_1 (by decide) ?_
  obtain ⟨M24, eM24, hf⟩ := bd1_e hf
  refine km_put hx hb hts hin hown hK hP hD hS 0 (by decide) k_fieldLink_RX12_1__KeyLettersModel___thrown___I_ rfl (ty := .int) (v := .int (0 : Int32)) (by decide +kernel) rfl rfl (M1 := M24) (by rw [eM24]; exact mo_0 cB cI cJ cZ ra M (0 : Int32)) dX12_phrase_2 (fun H locs hP hD hS => ?_)
  refine lv_aload_n hx hb dX12_phrase_5 rfl (lv_at hl 0 rfl) ?_
  refine lv_iload_n hx hb dX12_phrase_6 rfl (lv_at hl 1 rfl) ?_
  obtain ⟨v25, hq26, hf⟩ := bo_e hf
  refine ko_call (v := some (.int v25)) (km_run (As := [.int a0]) (rest := []) ⟨hx, hb, hml, hown, hts⟩ (c_X12_isPhrase l dC dI cB cI cJ cZ ra M24 a0 v25 hq26) (cwV 1 hts gX12_phrase_X12_isPhrase rfl rfl rfl (by decide +kernel) ⟨Nat.le_of_ble_eq_true rfl, Nat.le_of_ble_eq_true rfl⟩) hK hP (fun _ _ _ _ => mPr_bl) (fun U hU hW => ⟨by rw [hU]; exact hP, va_K.moved hW.alike hK⟩) rfl rfl hl.1 rfl (lv_room (Nat.le_of_ble_eq_true rfl)) dX12_phrase_7 ⟨Nat.le_refl _, Nat.le_refl _⟩) ?_
  refine lv_if_ne (tgt := 15) hx hb dX12_phrase_10 (by decide) (fun hb27 => ?_) (fun hb27 => ?_)
  · have hf := (if_neg hb27).symm.trans hf
    refine lv_iconst (v := 0) hx hb dX12_phrase_15 (by decide) ?_
    refine lv_istore_n (nL := 6) (lv' := [(3, .int (0 : Int32)), (0, .ref (ra 0)), (1, .int a0), (2, .int a1)]) hx hb dX12_phrase_16 rfl hl (by decide) rfl (fun ls hl => ?_)
    refine lv_iconst (v := 0) hx hb dX12_phrase_17 (by decide) ?_
    refine lv_istore (nL := 6) (lv' := [(4, .int (0 : Int32)), (3, .int (0 : Int32)), (0, .ref (ra 0)), (1, .int a0), (2, .int a1)]) hx hb dX12_phrase_18 hl (by decide) rfl (fun ls hl => ?_)
    refine lv_iconst (v := 0) hx hb dX12_phrase_20 (by decide) ?_
    refine lv_istore (nL := 6) (lv' := [(5, .int (0 : Int32)), (4, .int (0 : Int32)), (3, .int (0 : Int32)), (0, .ref (ra 0)), (1, .int a0), (2, .int a1)]) hx hb dX12_phrase_21 hl (by decide) rfl (fun ls hl => ?_)
    exact h_23 a0 a1 (0 : Int32) (0 : Int32) (0 : Int32) M24 ls _ _ (lv_sub hl [3, 4, 5, 2, 1, 0] rfl) hP hD hS hf
  · have hf := (if_pos hb27).symm.trans hf
    refine lv_iconst (v := -1) hx hb dX12_phrase_13 (by decide) ?_
    have hf := Option.some.inj hf
    subst hf
    exact m_iret hx hb hr hlocks hP hK hD hS dX12_phrase_14

abbrev rm_X12_owes : Room := { frames := 2, cells := 0, slots := 0, locals := 43 }
set_option maxHeartbeats 4000000 in
set_option maxRecDepth 100000 in
theorem c_X12_owes (l : Launch) (dC : Nat → ClassId) (dI : Nat → Nat → Nat) (cB cI cJ cZ : ClassId) (ra : Nat → Nat) (sz : Nat) (M : kD) (a0 : Int32) (a1 : Int32) (r : (Int32 × kD)) (hf : f_X12_owes a0 a1 M = some r) : Met l yX12_owes wsX12_owes rm_X12_owes (va_Pc [.ref (ra 0), .int a0, .int a1] (mPw dC dI cB cI cJ cZ ra sz M)) (mQi dC dI cB cI cJ cZ ra sz r) 0 0 (mA ra sz) := by
  refine Met.ofW (cc := cX12_owes) (maxL := 3) (ret := (some .int)) (by decide) rfl ?_
  intro p e s m args below meth c s₁ B hml hv
  obtain ⟨hav, hsz, hP, hK, hD0⟩ := hv
  have hx := B.exec
  have hb := B.bytes
  have hr := B.returns
  have hts := atoms_spec (ws := wsX12_owes) B.pre
  have hown : s.vm.findClass RX12 = some m.cls := findClass_of_methodNamed B.named
  have hlocks := B.notSynchronized
  subst hsz
  have hA : ∀ q, s.heap.size ≤ q → mA ra s.heap.size q := fun q h => Or.inr h
  have hD : va_D (mA ra s.heap.size) (mw cB cI cJ cZ ra M) := hD0.weaken (fun k q h _ => mA_in h)
  have hS : va_S (mA ra s.heap.size) s.heap s.heap [] := va_S.rf
  have hin : ∀ w ∈ wsX120, w ∈ wsX12_owes := fun w h => List.mem_cons_of_mem _ (List.mem_append_right _ h)
  have k_fieldLink_RX12_1__KeyLettersModel___thrown___I_ := hts (.fieldLink RX12 1 "KeyLettersModel" "thrown" "I") (by decide +kernel)
  have k_fieldLink_RX12_33__KeyLettersModel___s____I_ := hts (.fieldLink RX12 33 "KeyLettersModel" "s" "[I") (by decide +kernel)
  have hl := lv_entry ([.ref (ra 0), .int a0, .int a1]) (n := 3) (Nat.le_of_ble_eq_true rfl)
  rw [show entryFrame m args 3 = entryFrame m ([.ref (ra 0), .int a0, .int a1] : List Value).toArray 3 from by rw [hav], lg_entry_eq]
  generalize (lg_sl ([.ref (ra 0), .int a0, .int a1]) ++ List.replicate (3 - (lg_sl ([.ref (ra 0), .int a0, .int a1])).length) Slot.unset).toArray = ls at hl ⊢
  have hl : lv_has ls 3 [(0, .ref (ra 0)), (1, .int a0), (2, .int a1)] := hl
  unfold f_X12_owes at hf
  refine lv_aload_n hx hb dX12_owes_0 rfl (lv_at hl 0 rfl) ?_
  refine lv_iconst (v := 0) hx hb dX12_owes_1 (by decide) ?_
  obtain ⟨M1, eM1, hf⟩ := bd1_e hf
  refine km_put hx hb hts hin hown hK hP hD hS 0 (by decide) k_fieldLink_RX12_1__KeyLettersModel___thrown___I_ rfl (ty := .int) (v := .int (0 : Int32)) (by decide +kernel) rfl rfl (M1 := M1) (by rw [eM1]; exact mo_0 cB cI cJ cZ ra M (0 : Int32)) dX12_owes_2 (fun H locs hP hD hS => ?_)
  refine lv_aload_n hx hb dX12_owes_5 rfl (lv_at hl 0 rfl) ?_
  refine lv_iload_n hx hb dX12_owes_6 rfl (lv_at hl 1 rfl) ?_
  obtain ⟨v2, hq3, hf⟩ := bo_e hf
  refine ko_call (v := some (.int v2)) (km_run (As := [.int a0]) (rest := []) ⟨hx, hb, hml, hown, hts⟩ (c_X12_isMachine l dC dI cB cI cJ cZ ra M1 a0 v2 hq3) (cwV 1 hts gX12_owes_X12_isMachine rfl rfl rfl (by decide +kernel) ⟨Nat.le_of_ble_eq_true rfl, Nat.le_of_ble_eq_true rfl⟩) hK hP (fun _ _ _ _ => mPr_bl) (fun U hU hW => ⟨by rw [hU]; exact hP, va_K.moved hW.alike hK⟩) rfl rfl hl.1 rfl (lv_room (Nat.le_of_ble_eq_true rfl)) dX12_owes_7 ⟨Nat.le_refl _, Nat.le_refl _⟩) ?_
  refine lv_if_eq (tgt := 43) hx hb dX12_owes_10 (by decide) (fun hb10 => ?_) (fun hb10 => ?_)
  · have hf := (if_pos hb10).symm.trans hf
    refine lv_iconst (v := -1) hx hb dX12_owes_43 (by decide) ?_
    have hf := Option.some.inj hf
    subst hf
    exact m_iret hx hb hr hlocks hP hK hD hS dX12_owes_44
  · have hf := (if_neg hb10).symm.trans hf
    refine lv_aload_n hx hb dX12_owes_13 rfl (lv_at hl 0 rfl) ?_
    refine lv_iload_n hx hb dX12_owes_14 rfl (lv_at hl 2 rfl) ?_
    obtain ⟨v4, hq5, hf⟩ := bo_e hf
    refine ko_call (v := some (.int v4)) (km_run (As := [.int a1]) (rest := []) ⟨hx, hb, hml, hown, hts⟩ (c_X12_isMachine l dC dI cB cI cJ cZ ra M1 a1 v4 hq5) (cwV 1 hts gX12_owes_X12_isMachine rfl rfl rfl (by decide +kernel) ⟨Nat.le_of_ble_eq_true rfl, Nat.le_of_ble_eq_true rfl⟩) hK hP (fun _ _ _ _ => mPr_bl) (fun U hU hW => ⟨by rw [hU]; exact hP, va_K.moved hW.alike hK⟩) rfl rfl hl.1 rfl (lv_room (Nat.le_of_ble_eq_true rfl)) dX12_owes_15 ⟨Nat.le_refl _, Nat.le_refl _⟩) ?_
    refine lv_if_eq (tgt := 43) hx hb dX12_owes_18 (by decide) (fun hb9 => ?_) (fun hb9 => ?_)
    · have hf := (if_pos hb9).symm.trans hf
      refine lv_iconst (v := -1) hx hb dX12_owes_43 (by decide) ?_
      have hf := Option.some.inj hf
      subst hf
      exact m_iret hx hb hr hlocks hP hK hD hS dX12_owes_44
    · have hf := (if_neg hb9).symm.trans hf
      refine lv_iload_n hx hb dX12_owes_21 rfl (lv_at hl 1 rfl) ?_
      refine lv_iload_n hx hb dX12_owes_22 rfl (lv_at hl 2 rfl) ?_
      refine lv_icmp_eq (tgt := 43) hx hb dX12_owes_23 (by decide) (fun hb8 => ?_) (fun hb8 => ?_)
      · have hf := (if_pos hb8).symm.trans hf
        refine lv_iconst (v := -1) hx hb dX12_owes_43 (by decide) ?_
        have hf := Option.some.inj hf
        subst hf
        exact m_iret hx hb hr hlocks hP hK hD hS dX12_owes_44
      · have hf := (if_neg hb8).symm.trans hf
        refine lv_aload_n hx hb dX12_owes_26 rfl (lv_at hl 0 rfl) ?_
        refine km_get hx hb hts hin hown hK hP 6 (by decide) (v := .ref (ra 6)) k_fieldLink_RX12_33__KeyLettersModel___s____I_ rfl dX12_owes_27 ?_
        refine lv_bipush (v := 62) hx hb dX12_owes_30 (by decide) ?_
        refine lv_bipush (v := 6) hx hb dX12_owes_32 (by decide) ?_
        refine lv_iload_n hx hb dX12_owes_34 rfl (lv_at hl 1 rfl) ?_
        refine lv_imul hx hb dX12_owes_35 ?_
        refine lv_iadd hx hb dX12_owes_36 ?_
        refine lv_iload_n hx hb dX12_owes_37 rfl (lv_at hl 2 rfl) ?_
        refine lv_iadd hx hb dX12_owes_38 ?_
        obtain ⟨v6, ev6, hf⟩ := bd1_e hf
        refine kt_i ev6 ?_
        obtain ⟨hc7, hf⟩ := ck_e hf
        refine va_iald hx hb hK hP 2 1 rfl rfl hc7 dX12_owes_39 ?_
        refine lv_goto (tgt := 44) hx hb dX12_owes_40 (by decide) ?_
        have hf := Option.some.inj hf
        subst hf
        exact m_iret hx hb hr hlocks hP hK hD hS dX12_owes_44

abbrev rm_X12_now : Room := { frames := 1, cells := 0, slots := 0, locals := 24 }
set_option maxHeartbeats 4000000 in
set_option maxRecDepth 100000 in
theorem c_X12_now (l : Launch) (dC : Nat → ClassId) (dI : Nat → Nat → Nat) (cB cI cJ cZ : ClassId) (ra : Nat → Nat) (sz : Nat) (M : kD) (a0 : Int32) (r : (Int32 × kD)) (hf : f_X12_now a0 M = some r) : Met l yX12_now wsX12_now rm_X12_now (va_Pc [.ref (ra 0), .int a0] (mPw dC dI cB cI cJ cZ ra sz M)) (mQi dC dI cB cI cJ cZ ra sz r) 0 0 (mA ra sz) := by
  refine Met.ofW (cc := cX12_now) (maxL := 4) (ret := (some .int)) (by decide) rfl ?_
  intro p e s m args below meth c s₁ B hml hv
  obtain ⟨hav, hsz, hP, hK, hD0⟩ := hv
  have hx := B.exec
  have hb := B.bytes
  have hr := B.returns
  have hts := atoms_spec (ws := wsX12_now) B.pre
  have hown : s.vm.findClass RX12 = some m.cls := findClass_of_methodNamed B.named
  have hlocks := B.notSynchronized
  subst hsz
  have hA : ∀ q, s.heap.size ≤ q → mA ra s.heap.size q := fun q h => Or.inr h
  have hD : va_D (mA ra s.heap.size) (mw cB cI cJ cZ ra M) := hD0.weaken (fun k q h _ => mA_in h)
  have hS : va_S (mA ra s.heap.size) s.heap s.heap [] := va_S.rf
  have hin : ∀ w ∈ wsX120, w ∈ wsX12_now := fun w h => List.mem_cons_of_mem _ (List.mem_append_right _ h)
  have k_fieldLink_RX12_1__KeyLettersModel___thrown___I_ := hts (.fieldLink RX12 1 "KeyLettersModel" "thrown" "I") (by decide +kernel)
  have k_fieldLink_RX12_33__KeyLettersModel___s____I_ := hts (.fieldLink RX12 33 "KeyLettersModel" "s" "[I") (by decide +kernel)
  have hl := lv_entry ([.ref (ra 0), .int a0]) (n := 4) (Nat.le_of_ble_eq_true rfl)
  rw [show entryFrame m args 4 = entryFrame m ([.ref (ra 0), .int a0] : List Value).toArray 4 from by rw [hav], lg_entry_eq]
  generalize (lg_sl ([.ref (ra 0), .int a0]) ++ List.replicate (4 - (lg_sl ([.ref (ra 0), .int a0])).length) Slot.unset).toArray = ls at hl ⊢
  have hl : lv_has ls 4 [(0, .ref (ra 0)), (1, .int a0)] := hl
  unfold f_X12_now at hf
  have h_34 : ∀ (x1_34 : Int32) (x2_34 : Int32) (M_34 : kD) (ls : Array Slot) (H : Heap) (locs : List Loc), lv_has ls 4 [(0, .ref (ra 0)), (1, .int x1_34), (2, .int x2_34)] → va_P (dC, dI) vwCl (mw cB cI cJ cZ ra M_34) H → va_D (mA ra s.heap.size) (mw cB cI cJ cZ ra M_34) → va_S (mA ra s.heap.size) s.heap H locs → g_X12_now_34 x1_34 x2_34 M_34 = some r → W p l e (headSpec wsX12_now rm_X12_now).room s m args below meth c H locs 0 0 (MQ below (mQi dC dI cB cI cJ cZ ra s.heap.size r) args s 0 0 (mA ra s.heap.size)) (F0 m 34 ls []) := by
    intro x1_34 x2_34 M_34 ls H locs hl hP hD hS hf
    unfold g_X12_now_34 at hf
    refine lv_iload_n hx hb dX12_now_34 rfl (lv_at hl 1 rfl) ?_
    by_cases hs1 : x1_34 = 0
    · have hf := (if_pos hs1).symm.trans hf
      refine lv_tableIn (off := 45) (tgt := 80) hx hb dX12_now_35 (by rw [hs1]; decide) (by rw [hs1]; decide) (by rw [hs1]; decide +kernel) (by decide) ?_
      refine lv_aload_n hx hb dX12_now_80 rfl (lv_at hl 0 rfl) ?_
      refine km_get hx hb hts hin hown hK hP 6 (by decide) (v := .ref (ra 6)) k_fieldLink_RX12_33__KeyLettersModel___s____I_ rfl dX12_now_81 ?_
      refine lv_bipush (v := 39) hx hb dX12_now_84 (by decide) ?_
      refine va_iald hx hb hK hP 2 1 rfl rfl (show ¬ ((39 : Int32) < 0 ∨ 279 ≤ (39 : Int32).toNatClampNeg) by decide +kernel) dX12_now_86 ?_
      have hf := Option.some.inj hf
      subst hf
      exact m_iret hx hb hr hlocks hP hK hD hS dX12_now_87
    have hf := (if_neg hs1).symm.trans hf
    by_cases hs2 : x1_34 = 1
    · have hf := (if_pos hs2).symm.trans hf
      refine lv_tableIn (off := 53) (tgt := 88) hx hb dX12_now_35 (by rw [hs2]; decide) (by rw [hs2]; decide) (by rw [hs2]; decide +kernel) (by decide) ?_
      refine lv_aload_n hx hb dX12_now_88 rfl (lv_at hl 0 rfl) ?_
      refine km_get hx hb hts hin hown hK hP 6 (by decide) (v := .ref (ra 6)) k_fieldLink_RX12_33__KeyLettersModel___s____I_ rfl dX12_now_89 ?_
      refine lv_bipush (v := 40) hx hb dX12_now_92 (by decide) ?_
      refine va_iald hx hb hK hP 2 1 rfl rfl (show ¬ ((40 : Int32) < 0 ∨ 279 ≤ (40 : Int32).toNatClampNeg) by decide +kernel) dX12_now_94 ?_
      refine lv_iconst (v := 1) hx hb dX12_now_95 (by decide) ?_
      refine lv_isub hx hb dX12_now_96 ?_
      have hf := Option.some.inj hf
      subst hf
      exact m_iret hx hb hr hlocks hP hK hD hS dX12_now_97
    have hf := (if_neg hs2).symm.trans hf
    by_cases hs3 : x1_34 = 2
    · have hf := (if_pos hs3).symm.trans hf
      refine lv_tableIn (off := 63) (tgt := 98) hx hb dX12_now_35 (by rw [hs3]; decide) (by rw [hs3]; decide) (by rw [hs3]; decide +kernel) (by decide) ?_
      refine lv_aload_n hx hb dX12_now_98 rfl (lv_at hl 0 rfl) ?_
      refine km_get hx hb hts hin hown hK hP 6 (by decide) (v := .ref (ra 6)) k_fieldLink_RX12_33__KeyLettersModel___s____I_ rfl dX12_now_99 ?_
      refine lv_bipush (v := 41) hx hb dX12_now_102 (by decide) ?_
      refine va_iald hx hb hK hP 2 1 rfl rfl (show ¬ ((41 : Int32) < 0 ∨ 279 ≤ (41 : Int32).toNatClampNeg) by decide +kernel) dX12_now_104 ?_
      refine lv_iconst (v := 1) hx hb dX12_now_105 (by decide) ?_
      refine lv_isub hx hb dX12_now_106 ?_
      have hf := Option.some.inj hf
      subst hf
      exact m_iret hx hb hr hlocks hP hK hD hS dX12_now_107
    have hf := (if_neg hs3).symm.trans hf
    by_cases hs4 : x1_34 = 3
    · have hf := (if_pos hs4).symm.trans hf
      refine lv_tableIn (off := 73) (tgt := 108) hx hb dX12_now_35 (by rw [hs4]; decide) (by rw [hs4]; decide) (by rw [hs4]; decide +kernel) (by decide) ?_
      refine lv_aload_n hx hb dX12_now_108 rfl (lv_at hl 0 rfl) ?_
      refine km_get hx hb hts hin hown hK hP 6 (by decide) (v := .ref (ra 6)) k_fieldLink_RX12_33__KeyLettersModel___s____I_ rfl dX12_now_109 ?_
      refine lv_bipush (v := 42) hx hb dX12_now_112 (by decide) ?_
      refine va_iald hx hb hK hP 2 1 rfl rfl (show ¬ ((42 : Int32) < 0 ∨ 279 ≤ (42 : Int32).toNatClampNeg) by decide +kernel) dX12_now_114 ?_
      have hf := Option.some.inj hf
      subst hf
      exact m_iret hx hb hr hlocks hP hK hD hS dX12_now_115
    have hf := (if_neg hs4).symm.trans hf
    by_cases hs7 : x1_34 = 4
    · have hf := (if_pos hs7).symm.trans hf
      refine lv_tableIn (off := 81) (tgt := 116) hx hb dX12_now_35 (by rw [hs7]; decide) (by rw [hs7]; decide) (by rw [hs7]; decide +kernel) (by decide) ?_
      refine lv_aload_n hx hb dX12_now_116 rfl (lv_at hl 0 rfl) ?_
      refine lv_bipush (v := 50) hx hb dX12_now_117 (by decide) ?_
      obtain ⟨v5, hq6, hf⟩ := bo_e hf
      refine ko_call (v := some (.int v5)) (km_run (As := [.int (50 : Int32)]) (rest := []) ⟨hx, hb, hml, hown, hts⟩ (c_X12_sumOf l dC dI cB cI cJ cZ ra M_34 (50 : Int32) v5 hq6) (cwV 1 hts gX12_now_X12_sumOf rfl rfl rfl (by decide +kernel) ⟨Nat.le_of_ble_eq_true rfl, Nat.le_of_ble_eq_true rfl⟩) hK hP (fun _ _ _ _ => mPr_bl) (fun U hU hW => ⟨by rw [hU]; exact hP, va_K.moved hW.alike hK⟩) rfl rfl hl.1 rfl (lv_room (Nat.le_of_ble_eq_true rfl)) dX12_now_119 ⟨Nat.le_refl _, Nat.le_refl _⟩) ?_
      have hf := Option.some.inj hf
      subst hf
      exact m_iret hx hb hr hlocks hP hK hD hS dX12_now_122
    have hf := (if_neg hs7).symm.trans hf
    by_cases hs10 : x1_34 = 5
    · have hf := (if_pos hs10).symm.trans hf
      refine lv_tableIn (off := 88) (tgt := 123) hx hb dX12_now_35 (by rw [hs10]; decide) (by rw [hs10]; decide) (by rw [hs10]; decide +kernel) (by decide) ?_
      refine lv_aload_n hx hb dX12_now_123 rfl (lv_at hl 0 rfl) ?_
      refine lv_bipush (v := 56) hx hb dX12_now_124 (by decide) ?_
      obtain ⟨v8, hq9, hf⟩ := bo_e hf
      refine ko_call (v := some (.int v8)) (km_run (As := [.int (56 : Int32)]) (rest := []) ⟨hx, hb, hml, hown, hts⟩ (c_X12_sumOf l dC dI cB cI cJ cZ ra M_34 (56 : Int32) v8 hq9) (cwV 1 hts gX12_now_X12_sumOf rfl rfl rfl (by decide +kernel) ⟨Nat.le_of_ble_eq_true rfl, Nat.le_of_ble_eq_true rfl⟩) hK hP (fun _ _ _ _ => mPr_bl) (fun U hU hW => ⟨by rw [hU]; exact hP, va_K.moved hW.alike hK⟩) rfl rfl hl.1 rfl (lv_room (Nat.le_of_ble_eq_true rfl)) dX12_now_126 ⟨Nat.le_refl _, Nat.le_refl _⟩) ?_
      have hf := Option.some.inj hf
      subst hf
      exact m_iret hx hb hr hlocks hP hK hD hS dX12_now_129
    have hf := (if_neg hs10).symm.trans hf
    by_cases hs11 : x1_34 = 6
    · have hf := (if_pos hs11).symm.trans hf
      refine lv_tableIn (off := 95) (tgt := 130) hx hb dX12_now_35 (by rw [hs11]; decide) (by rw [hs11]; decide) (by rw [hs11]; decide +kernel) (by decide) ?_
      refine lv_aload_n hx hb dX12_now_130 rfl (lv_at hl 0 rfl) ?_
      refine km_get hx hb hts hin hown hK hP 6 (by decide) (v := .ref (ra 6)) k_fieldLink_RX12_33__KeyLettersModel___s____I_ rfl dX12_now_131 ?_
      refine lv_bipush (v := 43) hx hb dX12_now_134 (by decide) ?_
      refine va_iald hx hb hK hP 2 1 rfl rfl (show ¬ ((43 : Int32) < 0 ∨ 279 ≤ (43 : Int32).toNatClampNeg) by decide +kernel) dX12_now_136 ?_
      have hf := Option.some.inj hf
      subst hf
      exact m_iret hx hb hr hlocks hP hK hD hS dX12_now_137
    have hf := (if_neg hs11).symm.trans hf
    by_cases hs12 : x1_34 = 7
    · have hf := (if_pos hs12).symm.trans hf
      refine lv_tableIn (off := 103) (tgt := 138) hx hb dX12_now_35 (by rw [hs12]; decide) (by rw [hs12]; decide) (by rw [hs12]; decide +kernel) (by decide) ?_
      refine lv_iload_n hx hb dX12_now_138 rfl (lv_at hl 2 rfl) ?_
      have hf := Option.some.inj hf
      subst hf
      exact m_iret hx hb hr hlocks hP hK hD hS dX12_now_139
    have hf := (if_neg hs12).symm.trans hf
    have hsw : x1_34.toInt < 0 ∨ 7 < x1_34.toInt := by
      have qhs1 : x1_34.toInt ≠ 0 := fun q => hs1 (Int32.toInt_inj.mp (q.trans (by decide)))
      have qhs2 : x1_34.toInt ≠ 1 := fun q => hs2 (Int32.toInt_inj.mp (q.trans (by decide)))
      have qhs3 : x1_34.toInt ≠ 2 := fun q => hs3 (Int32.toInt_inj.mp (q.trans (by decide)))
      have qhs4 : x1_34.toInt ≠ 3 := fun q => hs4 (Int32.toInt_inj.mp (q.trans (by decide)))
      have qhs7 : x1_34.toInt ≠ 4 := fun q => hs7 (Int32.toInt_inj.mp (q.trans (by decide)))
      have qhs10 : x1_34.toInt ≠ 5 := fun q => hs10 (Int32.toInt_inj.mp (q.trans (by decide)))
      have qhs11 : x1_34.toInt ≠ 6 := fun q => hs11 (Int32.toInt_inj.mp (q.trans (by decide)))
      have qhs12 : x1_34.toInt ≠ 7 := fun q => hs12 (Int32.toInt_inj.mp (q.trans (by decide)))
      omega
    refine lv_tableOut (tgt := 140) hx hb dX12_now_35 hsw (by decide) ?_
    refine lv_iconst (v := -1) hx hb dX12_now_140 (by decide) ?_
    have hf := Option.some.inj hf
    subst hf
    exact m_iret hx hb hr hlocks hP hK hD hS dX12_now_141
  have h_9 := lp_ind (z := (fun _ _ _ _ => none)) (b := (g_X12_now_9)) (fun (rc_9 : Int32 → Int32 → Int32 → kD → Option (Int32 × kD)) => ∀ (x1_9 : Int32) (x2_9 : Int32) (x3_9 : Int32) (M_9 : kD) (ls : Array Slot) (H : Heap) (locs : List Loc), lv_has ls 4 [(0, .ref (ra 0)), (1, .int x1_9), (2, .int x2_9), (3, .int x3_9)] → va_P (dC, dI) vwCl (mw cB cI cJ cZ ra M_9) H → va_D (mA ra s.heap.size) (mw cB cI cJ cZ ra M_9) → va_S (mA ra s.heap.size) s.heap H locs → rc_9 x1_9 x2_9 x3_9 M_9 = some r → W p l e (headSpec wsX12_now rm_X12_now).room s m args below meth c H locs 0 0 (MQ below (mQi dC dI cB cI cJ cZ ra s.heap.size r) args s 0 0 (mA ra s.heap.size)) (F0 m 9 ls [])) (by
      intro x1_9 x2_9 x3_9 M_9 ls H locs hl hP hD hS hf
      cases hf) (by
      intro rc_9 ih_9 x1_9 x2_9 x3_9 M_9 ls H locs hl hP hD hS hf
      unfold g_X12_now_9 at hf
      refine lv_iload_n hx hb dX12_now_9 rfl (lv_at hl 3 rfl) ?_
      refine lv_aload_n hx hb dX12_now_10 rfl (lv_at hl 0 rfl) ?_
      refine km_get hx hb hts hin hown hK hP 6 (by decide) (v := .ref (ra 6)) k_fieldLink_RX12_33__KeyLettersModel___s____I_ rfl dX12_now_11 ?_
      refine lv_iconst (v := 0) hx hb dX12_now_14 (by decide) ?_
      refine va_iald hx hb hK hP 2 1 rfl rfl (show ¬ ((0 : Int32) < 0 ∨ 279 ≤ (0 : Int32).toNatClampNeg) by decide +kernel) dX12_now_15 ?_
      refine lv_icmp_ge (tgt := 34) hx hb dX12_now_16 (by decide) (fun hb17 => ?_) (fun hb17 => ?_)
      · have hf := (if_pos hb17).symm.trans hf
        exact h_34 x1_9 x2_9 M_9 ls _ _ (lv_sub hl [0, 1, 2] rfl) hP hD hS hf
      · have hf := (if_neg hb17).symm.trans hf
        refine lv_iload_n hx hb dX12_now_19 rfl (lv_at hl 2 rfl) ?_
        refine lv_aload_n hx hb dX12_now_20 rfl (lv_at hl 0 rfl) ?_
        refine lv_iload_n hx hb dX12_now_21 rfl (lv_at hl 3 rfl) ?_
        refine lv_iconst (v := 1) hx hb dX12_now_22 (by decide) ?_
        obtain ⟨v13, hq14, hf⟩ := bo_e hf
        refine ko_call (v := some (.int v13)) (km_run (As := [.int x3_9, .int (1 : Int32)]) (rest := [.int x2_9]) ⟨hx, hb, hml, hown, hts⟩ (c_X12_owedBy l dC dI cB cI cJ cZ ra M_9 x3_9 (1 : Int32) v13 hq14) (cwV 2 hts gX12_now_X12_owedBy rfl rfl rfl (by decide +kernel) ⟨Nat.le_of_ble_eq_true rfl, Nat.le_of_ble_eq_true rfl⟩) hK hP (fun _ _ _ _ => mPr_bl) (fun U hU hW => ⟨by rw [hU]; exact hP, va_K.moved hW.alike hK⟩) rfl rfl hl.1 rfl (lv_room (Nat.le_of_ble_eq_true rfl)) dX12_now_23 ⟨Nat.le_refl _, Nat.le_refl _⟩) ?_
        refine lv_iadd hx hb dX12_now_26 ?_
        obtain ⟨v15, ev15, hf⟩ := bd1_e hf
        refine kt_i ev15 ?_
        refine lv_istore_n (nL := 4) (lv' := [(2, .int v15), (0, .ref (ra 0)), (1, .int x1_9), (3, .int x3_9)]) hx hb dX12_now_27 rfl hl (by decide) rfl (fun ls hl => ?_)
        obtain ⟨v16, ev16, hf⟩ := bd1_e hf
        refine lv_iinc (k := 3) (x := x3_9) (v := v16) (nL := 4) (lv' := [(3, .int v16), (2, .int v15), (0, .ref (ra 0)), (1, .int x1_9)]) hx hb dX12_now_28 hl rfl (kt_inc (w := 1) (by decide) ev16) (by decide) rfl (fun ls hl => ?_)
        refine lv_goto (tgt := 9) hx hb dX12_now_31 (by decide) ?_
        exact ih_9 x1_9 v15 v16 M_9 ls _ _ (lv_sub hl [2, 3, 1, 0] rfl) hP hD hS hf) 2000
  refine lv_aload_n hx hb dX12_now_0 rfl (lv_at hl 0 rfl) ?_
  refine lv_iconst (v := 0) hx hb dX12_now_1 (by decide) ?_
  obtain ⟨M18, eM18, hf⟩ := bd1_e hf
  refine km_put hx hb hts hin hown hK hP hD hS 0 (by decide) k_fieldLink_RX12_1__KeyLettersModel___thrown___I_ rfl (ty := .int) (v := .int (0 : Int32)) (by decide +kernel) rfl rfl (M1 := M18) (by rw [eM18]; exact mo_0 cB cI cJ cZ ra M (0 : Int32)) dX12_now_2 (fun H locs hP hD hS => ?_)
  refine lv_iconst (v := 0) hx hb dX12_now_5 (by decide) ?_
  refine lv_istore_n (nL := 4) (lv' := [(2, .int (0 : Int32)), (0, .ref (ra 0)), (1, .int a0)]) hx hb dX12_now_6 rfl hl (by decide) rfl (fun ls hl => ?_)
  refine lv_iconst (v := 0) hx hb dX12_now_7 (by decide) ?_
  refine lv_istore_n (nL := 4) (lv' := [(3, .int (0 : Int32)), (2, .int (0 : Int32)), (0, .ref (ra 0)), (1, .int a0)]) hx hb dX12_now_8 rfl hl (by decide) rfl (fun ls hl => ?_)
  exact h_9 a0 (0 : Int32) (0 : Int32) M18 ls _ _ (lv_sub hl [2, 3, 1, 0] rfl) hP hD hS hf

abbrev rm_X12_types : Room := { frames := 1, cells := 0, slots := 0, locals := 21 }
set_option maxHeartbeats 4000000 in
set_option maxRecDepth 100000 in
theorem c_X12_types (l : Launch) (dC : Nat → ClassId) (dI : Nat → Nat → Nat) (cB cI cJ cZ : ClassId) (ra : Nat → Nat) (sz : Nat) (M : kD) (a0 : Int32) (a1 : Int32) (r : kD) (hf : f_X12_types a0 a1 M = some r) : Met l yX12_types wsX12_types rm_X12_types (va_Pc [.ref (ra 0), .int a0, .int a1] (mPw dC dI cB cI cJ cZ ra sz M)) (mQv dC dI cB cI cJ cZ ra sz r) 0 0 (mA ra sz) := by
  refine Met.ofW (cc := cX12_types) (maxL := 4) (ret := none) (by decide) rfl ?_
  intro p e s m args below meth c s₁ B hml hv
  obtain ⟨hav, hsz, hP, hK, hD0⟩ := hv
  have hx := B.exec
  have hb := B.bytes
  have hr := B.returns
  have hts := atoms_spec (ws := wsX12_types) B.pre
  have hown : s.vm.findClass RX12 = some m.cls := findClass_of_methodNamed B.named
  have hlocks := B.notSynchronized
  subst hsz
  have hA : ∀ q, s.heap.size ≤ q → mA ra s.heap.size q := fun q h => Or.inr h
  have hD : va_D (mA ra s.heap.size) (mw cB cI cJ cZ ra M) := hD0.weaken (fun k q h _ => mA_in h)
  have hS : va_S (mA ra s.heap.size) s.heap s.heap [] := va_S.rf
  have hin : ∀ w ∈ wsX120, w ∈ wsX12_types := fun w h => List.mem_cons_of_mem _ (List.mem_append_right _ h)
  have k_fieldLink_RX12_33__KeyLettersModel___s____I_ := hts (.fieldLink RX12 33 "KeyLettersModel" "s" "[I") (by decide +kernel)
  have hl := lv_entry ([.ref (ra 0), .int a0, .int a1]) (n := 4) (Nat.le_of_ble_eq_true rfl)
  rw [show entryFrame m args 4 = entryFrame m ([.ref (ra 0), .int a0, .int a1] : List Value).toArray 4 from by rw [hav], lg_entry_eq]
  generalize (lg_sl ([.ref (ra 0), .int a0, .int a1]) ++ List.replicate (4 - (lg_sl ([.ref (ra 0), .int a0, .int a1])).length) Slot.unset).toArray = ls at hl ⊢
  have hl : lv_has ls 4 [(0, .ref (ra 0)), (1, .int a0), (2, .int a1)] := hl
  unfold f_X12_types at hf
  have h_111 : ∀ (x1_111 : Int32) (x2_111 : Int32) (M_111 : kD) (ls : Array Slot) (H : Heap) (locs : List Loc), lv_has ls 4 [(0, .ref (ra 0)), (1, .int x1_111), (2, .int x2_111)] → va_P (dC, dI) vwCl (mw cB cI cJ cZ ra M_111) H → va_D (mA ra s.heap.size) (mw cB cI cJ cZ ra M_111) → va_S (mA ra s.heap.size) s.heap H locs → g_X12_types_111 x1_111 x2_111 M_111 = some r → W p l e (headSpec wsX12_types rm_X12_types).room s m args below meth c H locs 0 0 (MQ below (mQv dC dI cB cI cJ cZ ra s.heap.size r) args s 0 0 (mA ra s.heap.size)) (F0 m 111 ls []) := by
    intro x1_111 x2_111 M_111 ls H locs hl hP hD hS hf
    unfold g_X12_types_111 at hf
    refine lv_aload_n hx hb dX12_types_111 rfl (lv_at hl 0 rfl) ?_
    refine km_get hx hb hts hin hown hK hP 6 (by decide) (v := .ref (ra 6)) k_fieldLink_RX12_33__KeyLettersModel___s____I_ rfl dX12_types_112 ?_
    refine lv_bipush (v := 40) hx hb dX12_types_115 (by decide) ?_
    refine lv_iload_n hx hb dX12_types_117 rfl (lv_at hl 2 rfl) ?_
    refine lv_iconst (v := 1) hx hb dX12_types_118 (by decide) ?_
    refine lv_iadd hx hb dX12_types_119 ?_
    obtain ⟨M1, eM1, hf⟩ := bd1_e hf
    refine va_iast hx hb hK hP hD hS 2 1 rfl rfl (show ¬ ((40 : Int32) < 0 ∨ 279 ≤ (40 : Int32).toNatClampNeg) by decide +kernel) dX12_types_120 (fun H locs hP hD hS => ?_)
    have hP : va_P (dC, dI) vwCl (mw cB cI cJ cZ ra M1) H := by rw [eM1, ← ma_6 cB cI cJ cZ ra M_111 (40 : Int32).toNatClampNeg (x2_111 + (1 : Int32))]; exact hP
    have hD : va_D (mA ra s.heap.size) (mw cB cI cJ cZ ra M1) := by rw [eM1, ← ma_6 cB cI cJ cZ ra M_111 (40 : Int32).toNatClampNeg (x2_111 + (1 : Int32))]; exact hD
    refine lv_aload_n hx hb dX12_types_121 rfl (lv_at hl 0 rfl) ?_
    refine km_get hx hb hts hin hown hK hP 6 (by decide) (v := .ref (ra 6)) k_fieldLink_RX12_33__KeyLettersModel___s____I_ rfl dX12_types_122 ?_
    refine lv_bipush (v := 41) hx hb dX12_types_125 (by decide) ?_
    refine lv_iload_n hx hb dX12_types_127 rfl (lv_at hl 1 rfl) ?_
    refine lv_iconst (v := 1) hx hb dX12_types_128 (by decide) ?_
    refine lv_iadd hx hb dX12_types_129 ?_
    obtain ⟨M2, eM2, hf⟩ := bd1_e hf
    refine va_iast hx hb hK hP hD hS 2 1 rfl rfl (show ¬ ((41 : Int32) < 0 ∨ 279 ≤ (41 : Int32).toNatClampNeg) by decide +kernel) dX12_types_130 (fun H locs hP hD hS => ?_)
    have hP : va_P (dC, dI) vwCl (mw cB cI cJ cZ ra M2) H := by rw [eM2, ← ma_6 cB cI cJ cZ ra M1 (41 : Int32).toNatClampNeg (x1_111 + (1 : Int32))]; exact hP
    have hD : va_D (mA ra s.heap.size) (mw cB cI cJ cZ ra M2) := by rw [eM2, ← ma_6 cB cI cJ cZ ra M1 (41 : Int32).toNatClampNeg (x1_111 + (1 : Int32))]; exact hD
    have hf := Option.some.inj hf
    subst hf
    exact m_vret hx hb hr hlocks hP hK hD hS dX12_types_131
  refine lv_aload_n hx hb dX12_types_0 rfl (lv_at hl 0 rfl) ?_
  refine km_get hx hb hts hin hown hK hP 6 (by decide) (v := .ref (ra 6)) k_fieldLink_RX12_33__KeyLettersModel___s____I_ rfl dX12_types_1 ?_
  refine lv_bipush (v := 44) hx hb dX12_types_4 (by decide) ?_
  refine lv_iload_n hx hb dX12_types_6 rfl (lv_at hl 1 rfl) ?_
  refine lv_iadd hx hb dX12_types_7 ?_
  obtain ⟨v3, ev3, hf⟩ := bd1_e hf
  refine kt_i ev3 ?_
  refine lv_dup2_11 hx hb dX12_types_8 rfl rfl ?_
  obtain ⟨hc4, hf⟩ := ck_e hf
  refine va_iald hx hb hK hP 2 1 rfl rfl hc4 dX12_types_9 ?_
  refine lv_aload_n hx hb dX12_types_10 rfl (lv_at hl 0 rfl) ?_
  refine km_get hx hb hts hin hown hK hP 6 (by decide) (v := .ref (ra 6)) k_fieldLink_RX12_33__KeyLettersModel___s____I_ rfl dX12_types_11 ?_
  refine lv_bipush (v := 15) hx hb dX12_types_14 (by decide) ?_
  refine lv_iload_n hx hb dX12_types_16 rfl (lv_at hl 2 rfl) ?_
  refine lv_iadd hx hb dX12_types_17 ?_
  obtain ⟨v5, ev5, hf⟩ := bd1_e hf
  refine kt_i ev5 ?_
  obtain ⟨hc6, hf⟩ := ck_e hf
  refine va_iald hx hb hK hP 2 1 rfl rfl hc6 dX12_types_18 ?_
  refine lv_isub hx hb dX12_types_19 ?_
  obtain ⟨hc7, hf⟩ := ck_e hf
  obtain ⟨M8, eM8, hf⟩ := bd1_e hf
  refine va_iast hx hb hK hP hD hS 2 1 rfl rfl hc7 dX12_types_20 (fun H locs hP hD hS => ?_)
  have hP : va_P (dC, dI) vwCl (mw cB cI cJ cZ ra M8) H := by rw [eM8, ← ma_6 cB cI cJ cZ ra M v3.toNatClampNeg ((M.1 6 v3.toNatClampNeg) - (M.1 6 v5.toNatClampNeg))]; exact hP
  have hD : va_D (mA ra s.heap.size) (mw cB cI cJ cZ ra M8) := by rw [eM8, ← ma_6 cB cI cJ cZ ra M v3.toNatClampNeg ((M.1 6 v3.toNatClampNeg) - (M.1 6 v5.toNatClampNeg))]; exact hD
  refine lv_aload_n hx hb dX12_types_21 rfl (lv_at hl 0 rfl) ?_
  refine km_get hx hb hts hin hown hK hP 6 (by decide) (v := .ref (ra 6)) k_fieldLink_RX12_33__KeyLettersModel___s____I_ rfl dX12_types_22 ?_
  refine lv_bipush (v := 50) hx hb dX12_types_25 (by decide) ?_
  refine lv_iload_n hx hb dX12_types_27 rfl (lv_at hl 1 rfl) ?_
  refine lv_iadd hx hb dX12_types_28 ?_
  obtain ⟨v9, ev9, hf⟩ := bd1_e hf
  refine kt_i ev9 ?_
  refine lv_dup2_11 hx hb dX12_types_29 rfl rfl ?_
  obtain ⟨hc10, hf⟩ := ck_e hf
  refine va_iald hx hb hK hP 2 1 rfl rfl hc10 dX12_types_30 ?_
  refine lv_iconst (v := 1) hx hb dX12_types_31 (by decide) ?_
  refine lv_iadd hx hb dX12_types_32 ?_
  obtain ⟨hc11, hf⟩ := ck_e hf
  obtain ⟨M12, eM12, hf⟩ := bd1_e hf
  refine va_iast hx hb hK hP hD hS 2 1 rfl rfl hc11 dX12_types_33 (fun H locs hP hD hS => ?_)
  have hP : va_P (dC, dI) vwCl (mw cB cI cJ cZ ra M12) H := by rw [eM12, ← ma_6 cB cI cJ cZ ra M8 v9.toNatClampNeg ((M8.1 6 v9.toNatClampNeg) + (1 : Int32))]; exact hP
  have hD : va_D (mA ra s.heap.size) (mw cB cI cJ cZ ra M12) := by rw [eM12, ← ma_6 cB cI cJ cZ ra M8 v9.toNatClampNeg ((M8.1 6 v9.toNatClampNeg) + (1 : Int32))]; exact hD
  refine lv_aload_n hx hb dX12_types_34 rfl (lv_at hl 0 rfl) ?_
  refine km_get hx hb hts hin hown hK hP 6 (by decide) (v := .ref (ra 6)) k_fieldLink_RX12_33__KeyLettersModel___s____I_ rfl dX12_types_35 ?_
  refine lv_bipush (v := 56) hx hb dX12_types_38 (by decide) ?_
  refine lv_iload_n hx hb dX12_types_40 rfl (lv_at hl 1 rfl) ?_
  refine lv_iadd hx hb dX12_types_41 ?_
  obtain ⟨v13, ev13, hf⟩ := bd1_e hf
  refine kt_i ev13 ?_
  refine lv_dup2_11 hx hb dX12_types_42 rfl rfl ?_
  obtain ⟨hc14, hf⟩ := ck_e hf
  refine va_iald hx hb hK hP 2 1 rfl rfl hc14 dX12_types_43 ?_
  refine lv_aload_n hx hb dX12_types_44 rfl (lv_at hl 0 rfl) ?_
  refine km_get hx hb hts hin hown hK hP 6 (by decide) (v := .ref (ra 6)) k_fieldLink_RX12_33__KeyLettersModel___s____I_ rfl dX12_types_45 ?_
  refine lv_bipush (v := 15) hx hb dX12_types_48 (by decide) ?_
  refine lv_iload_n hx hb dX12_types_50 rfl (lv_at hl 2 rfl) ?_
  refine lv_iadd hx hb dX12_types_51 ?_
  obtain ⟨v15, ev15, hf⟩ := bd1_e hf
  refine kt_i ev15 ?_
  obtain ⟨hc16, hf⟩ := ck_e hf
  refine va_iald hx hb hK hP 2 1 rfl rfl hc16 dX12_types_52 ?_
  refine lv_iadd hx hb dX12_types_53 ?_
  obtain ⟨hc17, hf⟩ := ck_e hf
  obtain ⟨M18, eM18, hf⟩ := bd1_e hf
  refine va_iast hx hb hK hP hD hS 2 1 rfl rfl hc17 dX12_types_54 (fun H locs hP hD hS => ?_)
  have hP : va_P (dC, dI) vwCl (mw cB cI cJ cZ ra M18) H := by rw [eM18, ← ma_6 cB cI cJ cZ ra M12 v13.toNatClampNeg ((M12.1 6 v13.toNatClampNeg) + (M12.1 6 v15.toNatClampNeg))]; exact hP
  have hD : va_D (mA ra s.heap.size) (mw cB cI cJ cZ ra M18) := by rw [eM18, ← ma_6 cB cI cJ cZ ra M12 v13.toNatClampNeg ((M12.1 6 v13.toNatClampNeg) + (M12.1 6 v15.toNatClampNeg))]; exact hD
  refine lv_aload_n hx hb dX12_types_55 rfl (lv_at hl 0 rfl) ?_
  refine km_get hx hb hts hin hown hK hP 6 (by decide) (v := .ref (ra 6)) k_fieldLink_RX12_33__KeyLettersModel___s____I_ rfl dX12_types_56 ?_
  refine lv_bipush (v := 40) hx hb dX12_types_59 (by decide) ?_
  refine va_iald hx hb hK hP 2 1 rfl rfl (show ¬ ((40 : Int32) < 0 ∨ 279 ≤ (40 : Int32).toNatClampNeg) by decide +kernel) dX12_types_61 ?_
  refine lv_if_le (tgt := 111) hx hb dX12_types_62 (by decide) (fun hb25 => ?_) (fun hb25 => ?_)
  · have hf := (if_pos hb25).symm.trans hf
    exact h_111 a0 a1 M18 ls _ _ hl hP hD hS hf
  · have hf := (if_neg hb25).symm.trans hf
    refine lv_bipush (v := 62) hx hb dX12_types_65 (by decide) ?_
    refine lv_bipush (v := 6) hx hb dX12_types_67 (by decide) ?_
    refine lv_aload_n hx hb dX12_types_69 rfl (lv_at hl 0 rfl) ?_
    refine km_get hx hb hts hin hown hK hP 6 (by decide) (v := .ref (ra 6)) k_fieldLink_RX12_33__KeyLettersModel___s____I_ rfl dX12_types_70 ?_
    refine lv_bipush (v := 41) hx hb dX12_types_73 (by decide) ?_
    refine va_iald hx hb hK hP 2 1 rfl rfl (show ¬ ((41 : Int32) < 0 ∨ 279 ≤ (41 : Int32).toNatClampNeg) by decide +kernel) dX12_types_75 ?_
    refine lv_iconst (v := 1) hx hb dX12_types_76 (by decide) ?_
    refine lv_isub hx hb dX12_types_77 ?_
    refine lv_imul hx hb dX12_types_78 ?_
    refine lv_iadd hx hb dX12_types_79 ?_
    refine lv_iload_n hx hb dX12_types_80 rfl (lv_at hl 1 rfl) ?_
    refine lv_iadd hx hb dX12_types_81 ?_
    obtain ⟨v19, ev19, hf⟩ := bd1_e hf
    refine kt_i ev19 ?_
    refine lv_istore_n (nL := 4) (lv' := [(3, .int v19), (0, .ref (ra 0)), (1, .int a0), (2, .int a1)]) hx hb dX12_types_82 rfl hl (by decide) rfl (fun ls hl => ?_)
    refine lv_aload_n hx hb dX12_types_83 rfl (lv_at hl 1 rfl) ?_
    refine km_get hx hb hts hin hown hK hP 6 (by decide) (v := .ref (ra 6)) k_fieldLink_RX12_33__KeyLettersModel___s____I_ rfl dX12_types_84 ?_
    refine lv_iload_n hx hb dX12_types_87 rfl (lv_at hl 0 rfl) ?_
    refine lv_sipush (v := 9999) hx hb dX12_types_88 (by decide) ?_
    refine lv_aload_n hx hb dX12_types_91 rfl (lv_at hl 1 rfl) ?_
    refine km_get hx hb hts hin hown hK hP 6 (by decide) (v := .ref (ra 6)) k_fieldLink_RX12_33__KeyLettersModel___s____I_ rfl dX12_types_92 ?_
    refine lv_iload_n hx hb dX12_types_95 rfl (lv_at hl 0 rfl) ?_
    obtain ⟨hc20, hf⟩ := ck_e hf
    refine va_iald hx hb hK hP 2 1 rfl rfl hc20 dX12_types_96 ?_
    refine lv_aload_n hx hb dX12_types_97 rfl (lv_at hl 1 rfl) ?_
    refine km_get hx hb hts hin hown hK hP 6 (by decide) (v := .ref (ra 6)) k_fieldLink_RX12_33__KeyLettersModel___s____I_ rfl dX12_types_98 ?_
    refine lv_bipush (v := 23) hx hb dX12_types_101 (by decide) ?_
    refine lv_iload_n hx hb dX12_types_103 rfl (lv_at hl 3 rfl) ?_
    refine lv_iadd hx hb dX12_types_104 ?_
    obtain ⟨v21, ev21, hf⟩ := bd1_e hf
    refine kt_i ev21 ?_
    obtain ⟨hc22, hf⟩ := ck_e hf
    refine va_iald hx hb hK hP 2 1 rfl rfl hc22 dX12_types_105 ?_
    refine lv_iadd hx hb dX12_types_106 ?_
    refine ko_call (v := some (.int (f_X12_lesser (9999 : Int32) ((M18.1 6 v19.toNatClampNeg) + (M18.1 6 v21.toNatClampNeg))))) (va_runS (As := [.int (9999 : Int32), .int ((M18.1 6 v19.toNatClampNeg) + (M18.1 6 v21.toNatClampNeg))]) (rest := [.int v19, .ref (ra 6)]) ⟨hx, hb, hml, hown, hts⟩ (c_X12_lesser l (9999 : Int32) ((M18.1 6 v19.toNatClampNeg) + (M18.1 6 v21.toNatClampNeg)) _ rfl) (va_cwS 2 hts gX12_types_X12_lesser rfl rfl rfl (by decide +kernel) ⟨Nat.le_of_ble_eq_true rfl, Nat.le_of_ble_eq_true rfl⟩) ⟨fun a U g mk q => q, fun U hU hW => ⟨rfl, trivial⟩⟩ rfl rfl hl.1 rfl (lv_room (Nat.le_of_ble_eq_true rfl)) dX12_types_107 ⟨Nat.le_refl _, Nat.le_refl _⟩) ?_
    obtain ⟨hc23, hf⟩ := ck_e hf
    obtain ⟨M24, eM24, hf⟩ := bd1_e hf
    refine va_iast hx hb hK hP hD hS 2 1 rfl rfl hc23 dX12_types_110 (fun H locs hP hD hS => ?_)
    have hP : va_P (dC, dI) vwCl (mw cB cI cJ cZ ra M24) H := by rw [eM24, ← ma_6 cB cI cJ cZ ra M18 v19.toNatClampNeg (f_X12_lesser (9999 : Int32) ((M18.1 6 v19.toNatClampNeg) + (M18.1 6 v21.toNatClampNeg)))]; exact hP
    have hD : va_D (mA ra s.heap.size) (mw cB cI cJ cZ ra M24) := by rw [eM24, ← ma_6 cB cI cJ cZ ra M18 v19.toNatClampNeg (f_X12_lesser (9999 : Int32) ((M18.1 6 v19.toNatClampNeg) + (M18.1 6 v21.toNatClampNeg)))]; exact hD
    exact h_111 a0 a1 M24 ls _ _ (lv_sub hl [1, 2, 3] rfl) hP hD hS hf

abbrev rm_X12_mutual : Room := { frames := 1, cells := 0, slots := 0, locals := 21 }
set_option maxHeartbeats 4000000 in
set_option maxRecDepth 100000 in
theorem c_X12_mutual (l : Launch) (dC : Nat → ClassId) (dI : Nat → Nat → Nat) (cB cI cJ cZ : ClassId) (ra : Nat → Nat) (M : kD) (a0 : Int32) (a1 : Int32) (r : Int32) (hf : f_X12_mutual a0 a1 M = some r) : Met l yX12_mutual wsX12_mutual rm_X12_mutual (va_Pc [.ref (ra 0), .int a0, .int a1] (mPr dC dI cB cI cJ cZ ra M)) (kQ (some (.int r))) 0 0 (kF) := by
  refine Met.ofW (cc := cX12_mutual) (maxL := 3) (ret := (some .int)) (by decide) rfl ?_
  intro p e s m args below meth c s₁ B hml hv
  obtain ⟨hav, hP, hK⟩ := hv
  have hx := B.exec
  have hb := B.bytes
  have hr := B.returns
  have hts := atoms_spec (ws := wsX12_mutual) B.pre
  have hown : s.vm.findClass RX12 = some m.cls := findClass_of_methodNamed B.named
  have hlocks := B.notSynchronized
  have hin : ∀ w ∈ wsX120, w ∈ wsX12_mutual := fun w h => List.mem_cons_of_mem _ (List.mem_append_right _ h)
  have k_fieldLink_RX12_33__KeyLettersModel___s____I_ := hts (.fieldLink RX12 33 "KeyLettersModel" "s" "[I") (by decide +kernel)
  have hl := lv_entry ([.ref (ra 0), .int a0, .int a1]) (n := 3) (Nat.le_of_ble_eq_true rfl)
  rw [show entryFrame m args 3 = entryFrame m ([.ref (ra 0), .int a0, .int a1] : List Value).toArray 3 from by rw [hav], lg_entry_eq]
  generalize (lg_sl ([.ref (ra 0), .int a0, .int a1]) ++ List.replicate (3 - (lg_sl ([.ref (ra 0), .int a0, .int a1])).length) Slot.unset).toArray = ls at hl ⊢
  have hl : lv_has ls 3 [(0, .ref (ra 0)), (1, .int a0), (2, .int a1)] := hl
  unfold f_X12_mutual at hf
  refine lv_aload_n hx hb dX12_mutual_0 rfl (lv_at hl 0 rfl) ?_
  refine km_get hx hb hts hin hown hK hP 6 (by decide) (v := .ref (ra 6)) k_fieldLink_RX12_33__KeyLettersModel___s____I_ rfl dX12_mutual_1 ?_
  refine lv_bipush (v := 62) hx hb dX12_mutual_4 (by decide) ?_
  refine lv_bipush (v := 6) hx hb dX12_mutual_6 (by decide) ?_
  refine lv_iload_n hx hb dX12_mutual_8 rfl (lv_at hl 1 rfl) ?_
  refine lv_imul hx hb dX12_mutual_9 ?_
  refine lv_iadd hx hb dX12_mutual_10 ?_
  refine lv_iload_n hx hb dX12_mutual_11 rfl (lv_at hl 2 rfl) ?_
  refine lv_iadd hx hb dX12_mutual_12 ?_
  obtain ⟨v1, ev1, hf⟩ := bd1_e hf
  refine kt_i ev1 ?_
  obtain ⟨hc2, hf⟩ := ck_e hf
  refine va_iald hx hb hK hP 2 1 rfl rfl hc2 dX12_mutual_13 ?_
  refine lv_aload_n hx hb dX12_mutual_14 rfl (lv_at hl 0 rfl) ?_
  refine km_get hx hb hts hin hown hK hP 6 (by decide) (v := .ref (ra 6)) k_fieldLink_RX12_33__KeyLettersModel___s____I_ rfl dX12_mutual_15 ?_
  refine lv_bipush (v := 62) hx hb dX12_mutual_18 (by decide) ?_
  refine lv_bipush (v := 6) hx hb dX12_mutual_20 (by decide) ?_
  refine lv_iload_n hx hb dX12_mutual_22 rfl (lv_at hl 2 rfl) ?_
  refine lv_imul hx hb dX12_mutual_23 ?_
  refine lv_iadd hx hb dX12_mutual_24 ?_
  refine lv_iload_n hx hb dX12_mutual_25 rfl (lv_at hl 1 rfl) ?_
  refine lv_iadd hx hb dX12_mutual_26 ?_
  obtain ⟨v3, ev3, hf⟩ := bd1_e hf
  refine kt_i ev3 ?_
  obtain ⟨hc4, hf⟩ := ck_e hf
  refine va_iald hx hb hK hP 2 1 rfl rfl hc4 dX12_mutual_27 ?_
  refine ko_call (v := some (.int (f_X12_lesser (M.1 6 v1.toNatClampNeg) (M.1 6 v3.toNatClampNeg)))) (va_runS (As := [.int (M.1 6 v1.toNatClampNeg), .int (M.1 6 v3.toNatClampNeg)]) (rest := []) ⟨hx, hb, hml, hown, hts⟩ (c_X12_lesser l (M.1 6 v1.toNatClampNeg) (M.1 6 v3.toNatClampNeg) _ rfl) (va_cwS 2 hts gX12_mutual_X12_lesser rfl rfl rfl (by decide +kernel) ⟨Nat.le_of_ble_eq_true rfl, Nat.le_of_ble_eq_true rfl⟩) ⟨fun a U g mk q => q, fun U hU hW => ⟨rfl, trivial⟩⟩ rfl rfl hl.1 rfl (lv_room (Nat.le_of_ble_eq_true rfl)) dX12_mutual_28 ⟨Nat.le_refl _, Nat.le_refl _⟩) ?_
  have hf := Option.some.inj hf
  subst hf
  exact W.iret (v := (f_X12_lesser (M.1 6 v1.toNatClampNeg) (M.1 6 v3.toNatClampNeg))) hx hb hr (fun t ht hW => ⟨rfl, ht⟩) (fun _ h => nomatch h) dX12_mutual_31

abbrev rm_X12_whyClear : Room := { frames := 2, cells := 0, slots := 0, locals := 43 }
set_option maxHeartbeats 4000000 in
set_option maxRecDepth 100000 in
theorem c_X12_whyClear (l : Launch) (dC : Nat → ClassId) (dI : Nat → Nat → Nat) (cB cI cJ cZ : ClassId) (ra : Nat → Nat) (M : kD)  (r : Int32) (hf : f_X12_whyClear  M = some r) : Met l yX12_whyClear wsX12_whyClear rm_X12_whyClear (va_Pc [.ref (ra 0)] (mPr dC dI cB cI cJ cZ ra M)) (kQ (some (.int r))) 0 0 (kF) := by
  refine Met.ofW (cc := cX12_whyClear) (maxL := 3) (ret := (some .int)) (by decide) rfl ?_
  intro p e s m args below meth c s₁ B hml hv
  obtain ⟨hav, hP, hK⟩ := hv
  have hx := B.exec
  have hb := B.bytes
  have hr := B.returns
  have hts := atoms_spec (ws := wsX12_whyClear) B.pre
  have hown : s.vm.findClass RX12 = some m.cls := findClass_of_methodNamed B.named
  have hlocks := B.notSynchronized
  have hin : ∀ w ∈ wsX120, w ∈ wsX12_whyClear := fun w h => List.mem_cons_of_mem _ (List.mem_append_right _ h)
  have k_fieldLink_RX12_33__KeyLettersModel___s____I_ := hts (.fieldLink RX12 33 "KeyLettersModel" "s" "[I") (by decide +kernel)
  have hl := lv_entry ([.ref (ra 0)]) (n := 3) (Nat.le_of_ble_eq_true rfl)
  rw [show entryFrame m args 3 = entryFrame m ([.ref (ra 0)] : List Value).toArray 3 from by rw [hav], lg_entry_eq]
  generalize (lg_sl ([.ref (ra 0)]) ++ List.replicate (3 - (lg_sl ([.ref (ra 0)])).length) Slot.unset).toArray = ls at hl ⊢
  have hl : lv_has ls 3 [(0, .ref (ra 0))] := hl
  unfold f_X12_whyClear at hf
  have h_2 := lp_ind (z := (fun _ => none)) (b := (g_X12_whyClear_2 M)) (fun (rc_2 : Int32 → Option Int32) => ∀ (x1_2 : Int32) (ls : Array Slot), lv_has ls 3 [(0, .ref (ra 0)), (1, .int x1_2)] → rc_2 x1_2 = some r → W p l e (headSpec wsX12_whyClear rm_X12_whyClear).room s m args below meth c s.heap [] 0 0 (MQ below (kQ (some (.int r))) args s 0 0 (kF)) (F0 m 2 ls [])) (by
      intro x1_2 ls hl hf
      cases hf) (by
      intro rc_2 ih_2 x1_2 ls hl hf
      unfold g_X12_whyClear_2 at hf
      have h_36 : ∀ (x1_36 : Int32) (ls : Array Slot), lv_has ls 3 [(0, .ref (ra 0)), (1, .int x1_36)] → g_X12_whyClear_36 rc_2 M x1_36 = some r → W p l e (headSpec wsX12_whyClear rm_X12_whyClear).room s m args below meth c s.heap [] 0 0 (MQ below (kQ (some (.int r))) args s 0 0 (kF)) (F0 m 36 ls []) := by
        intro x1_36 ls hl hf
        unfold g_X12_whyClear_36 at hf
        obtain ⟨v1, ev1, hf⟩ := bd1_e hf
        refine lv_iinc (k := 1) (x := x1_36) (v := v1) (nL := 3) (lv' := [(1, .int v1), (0, .ref (ra 0))]) hx hb dX12_whyClear_36 hl rfl (kt_inc (w := 1) (by decide) ev1) (by decide) rfl (fun ls hl => ?_)
        refine lv_goto (tgt := 2) hx hb dX12_whyClear_39 (by decide) ?_
        exact ih_2 v1 ls (lv_sub hl [1, 0] rfl) hf
      have h_14 := lp_ind (z := (fun _ _ => none)) (b := (g_X12_whyClear_14 rc_2 M)) (fun (rc_14 : Int32 → Int32 → Option Int32) => ∀ (x1_14 : Int32) (x2_14 : Int32) (ls : Array Slot), lv_has ls 3 [(0, .ref (ra 0)), (1, .int x1_14), (2, .int x2_14)] → rc_14 x1_14 x2_14 = some r → W p l e (headSpec wsX12_whyClear rm_X12_whyClear).room s m args below meth c s.heap [] 0 0 (MQ below (kQ (some (.int r))) args s 0 0 (kF)) (F0 m 14 ls [])) (by
          intro x1_14 x2_14 ls hl hf
          cases hf) (by
          intro rc_14 ih_14 x1_14 x2_14 ls hl hf
          unfold g_X12_whyClear_14 at hf
          refine lv_iload_n hx hb dX12_whyClear_14 rfl (lv_at hl 2 rfl) ?_
          refine lv_iload_n hx hb dX12_whyClear_15 rfl (lv_at hl 1 rfl) ?_
          refine lv_icmp_ge (tgt := 36) hx hb dX12_whyClear_16 (by decide) (fun hb6 => ?_) (fun hb6 => ?_)
          · have hf := (if_pos hb6).symm.trans hf
            exact h_36 x1_14 ls (lv_sub hl [0, 1] rfl) hf
          · have hf := (if_neg hb6).symm.trans hf
            refine lv_aload_n hx hb dX12_whyClear_19 rfl (lv_at hl 0 rfl) ?_
            refine lv_iload_n hx hb dX12_whyClear_20 rfl (lv_at hl 1 rfl) ?_
            refine lv_iload_n hx hb dX12_whyClear_21 rfl (lv_at hl 2 rfl) ?_
            obtain ⟨v2, hq3, hf⟩ := bo_e hf
            refine ko_call (v := some (.int v2)) (km_run (As := [.int x1_14, .int x2_14]) (rest := []) ⟨hx, hb, hml, hown, hts⟩ (c_X12_mutual l dC dI cB cI cJ cZ ra M x1_14 x2_14 v2 hq3) (cwV 2 hts gX12_whyClear_X12_mutual rfl rfl rfl (by decide +kernel) ⟨Nat.le_of_ble_eq_true rfl, Nat.le_of_ble_eq_true rfl⟩) hK hP (fun _ _ _ _ => mPr_bl) (fun U hU hW => ⟨by rw [hU]; exact hP, va_K.moved hW.alike hK⟩) rfl rfl hl.1 rfl (lv_room (Nat.le_of_ble_eq_true rfl)) dX12_whyClear_22 ⟨Nat.le_refl _, Nat.le_refl _⟩) ?_
            refine lv_if_le (tgt := 30) hx hb dX12_whyClear_25 (by decide) (fun hb5 => ?_) (fun hb5 => ?_)
            · have hf := (if_pos hb5).symm.trans hf
              obtain ⟨v4, ev4, hf⟩ := bd1_e hf
              refine lv_iinc (k := 2) (x := x2_14) (v := v4) (nL := 3) (lv' := [(2, .int v4), (0, .ref (ra 0)), (1, .int x1_14)]) hx hb dX12_whyClear_30 hl rfl (kt_inc (w := 1) (by decide) ev4) (by decide) rfl (fun ls hl => ?_)
              refine lv_goto (tgt := 14) hx hb dX12_whyClear_33 (by decide) ?_
              exact ih_14 x1_14 v4 ls (lv_sub hl [1, 2, 0] rfl) hf
            · have hf := (if_neg hb5).symm.trans hf
              refine lv_iconst (v := 0) hx hb dX12_whyClear_28 (by decide) ?_
              have hf := Option.some.inj hf
              subst hf
              exact W.iret (v := (0 : Int32)) hx hb hr (fun t ht hW => ⟨rfl, ht⟩) (fun _ h => nomatch h) dX12_whyClear_29) 2000
      refine lv_iload_n hx hb dX12_whyClear_2 rfl (lv_at hl 1 rfl) ?_
      refine lv_aload_n hx hb dX12_whyClear_3 rfl (lv_at hl 0 rfl) ?_
      refine km_get hx hb hts hin hown hK hP 6 (by decide) (v := .ref (ra 6)) k_fieldLink_RX12_33__KeyLettersModel___s____I_ rfl dX12_whyClear_4 ?_
      refine lv_iconst (v := 0) hx hb dX12_whyClear_7 (by decide) ?_
      refine va_iald hx hb hK hP 2 1 rfl rfl (show ¬ ((0 : Int32) < 0 ∨ 279 ≤ (0 : Int32).toNatClampNeg) by decide +kernel) dX12_whyClear_8 ?_
      refine lv_icmp_ge (tgt := 42) hx hb dX12_whyClear_9 (by decide) (fun hb7 => ?_) (fun hb7 => ?_)
      · have hf := (if_pos hb7).symm.trans hf
        refine lv_iconst (v := 1) hx hb dX12_whyClear_42 (by decide) ?_
        have hf := Option.some.inj hf
        subst hf
        exact W.iret (v := (1 : Int32)) hx hb hr (fun t ht hW => ⟨rfl, ht⟩) (fun _ h => nomatch h) dX12_whyClear_43
      · have hf := (if_neg hb7).symm.trans hf
        refine lv_iconst (v := 0) hx hb dX12_whyClear_12 (by decide) ?_
        refine lv_istore_n (nL := 3) (lv' := [(2, .int (0 : Int32)), (0, .ref (ra 0)), (1, .int x1_2)]) hx hb dX12_whyClear_13 rfl hl (by decide) rfl (fun ls hl => ?_)
        exact h_14 x1_2 (0 : Int32) ls (lv_sub hl [1, 2, 0] rfl) hf) 2000
  refine lv_iconst (v := 0) hx hb dX12_whyClear_0 (by decide) ?_
  refine lv_istore_n (nL := 3) (lv' := [(1, .int (0 : Int32)), (0, .ref (ra 0))]) hx hb dX12_whyClear_1 rfl hl (by decide) rfl (fun ls hl => ?_)
  exact h_2 (0 : Int32) ls (lv_sub hl [1, 0] rfl) hf

abbrev rm_X12_evens : Room := { frames := 2, cells := 0, slots := 0, locals := 43 }
set_option maxHeartbeats 4000000 in
set_option maxRecDepth 100000 in
theorem c_X12_evens (l : Launch) (dC : Nat → ClassId) (dI : Nat → Nat → Nat) (cB cI cJ cZ : ClassId) (ra : Nat → Nat) (sz : Nat) (M : kD)  (r : kD) (hf : f_X12_evens  M = some r) : Met l yX12_evens wsX12_evens rm_X12_evens (va_Pc [.ref (ra 0)] (mPw dC dI cB cI cJ cZ ra sz M)) (mQv dC dI cB cI cJ cZ ra sz r) 0 0 (mA ra sz) := by
  refine Met.ofW (cc := cX12_evens) (maxL := 4) (ret := none) (by decide) rfl ?_
  intro p e s m args below meth c s₁ B hml hv
  obtain ⟨hav, hsz, hP, hK, hD0⟩ := hv
  have hx := B.exec
  have hb := B.bytes
  have hr := B.returns
  have hts := atoms_spec (ws := wsX12_evens) B.pre
  have hown : s.vm.findClass RX12 = some m.cls := findClass_of_methodNamed B.named
  have hlocks := B.notSynchronized
  subst hsz
  have hA : ∀ q, s.heap.size ≤ q → mA ra s.heap.size q := fun q h => Or.inr h
  have hD : va_D (mA ra s.heap.size) (mw cB cI cJ cZ ra M) := hD0.weaken (fun k q h _ => mA_in h)
  have hS : va_S (mA ra s.heap.size) s.heap s.heap [] := va_S.rf
  have hin : ∀ w ∈ wsX120, w ∈ wsX12_evens := fun w h => List.mem_cons_of_mem _ (List.mem_append_right _ h)
  have k_fieldLink_RX12_33__KeyLettersModel___s____I_ := hts (.fieldLink RX12 33 "KeyLettersModel" "s" "[I") (by decide +kernel)
  have hl := lv_entry ([.ref (ra 0)]) (n := 4) (Nat.le_of_ble_eq_true rfl)
  rw [show entryFrame m args 4 = entryFrame m ([.ref (ra 0)] : List Value).toArray 4 from by rw [hav], lg_entry_eq]
  generalize (lg_sl ([.ref (ra 0)]) ++ List.replicate (4 - (lg_sl ([.ref (ra 0)])).length) Slot.unset).toArray = ls at hl ⊢
  have hl : lv_has ls 4 [(0, .ref (ra 0))] := hl
  unfold f_X12_evens at hf
  have h_2 := lp_ind (z := (fun _ _ => none)) (b := (g_X12_evens_2)) (fun (rc_2 : Int32 → kD → Option kD) => ∀ (x1_2 : Int32) (M_2 : kD) (ls : Array Slot) (H : Heap) (locs : List Loc), lv_has ls 4 [(0, .ref (ra 0)), (1, .int x1_2)] → va_P (dC, dI) vwCl (mw cB cI cJ cZ ra M_2) H → va_D (mA ra s.heap.size) (mw cB cI cJ cZ ra M_2) → va_S (mA ra s.heap.size) s.heap H locs → rc_2 x1_2 M_2 = some r → W p l e (headSpec wsX12_evens rm_X12_evens).room s m args below meth c H locs 0 0 (MQ below (mQv dC dI cB cI cJ cZ ra s.heap.size r) args s 0 0 (mA ra s.heap.size)) (F0 m 2 ls [])) (by
      intro x1_2 M_2 ls H locs hl hP hD hS hf
      cases hf) (by
      intro rc_2 ih_2 x1_2 M_2 ls H locs hl hP hD hS hf
      unfold g_X12_evens_2 at hf
      have h_68 : ∀ (x1_68 : Int32) (M_68 : kD) (ls : Array Slot) (H : Heap) (locs : List Loc), lv_has ls 4 [(0, .ref (ra 0)), (1, .int x1_68)] → va_P (dC, dI) vwCl (mw cB cI cJ cZ ra M_68) H → va_D (mA ra s.heap.size) (mw cB cI cJ cZ ra M_68) → va_S (mA ra s.heap.size) s.heap H locs → g_X12_evens_68 rc_2 x1_68 M_68 = some r → W p l e (headSpec wsX12_evens rm_X12_evens).room s m args below meth c H locs 0 0 (MQ below (mQv dC dI cB cI cJ cZ ra s.heap.size r) args s 0 0 (mA ra s.heap.size)) (F0 m 68 ls []) := by
        intro x1_68 M_68 ls H locs hl hP hD hS hf
        unfold g_X12_evens_68 at hf
        obtain ⟨v1, ev1, hf⟩ := bd1_e hf
        refine lv_iinc (k := 1) (x := x1_68) (v := v1) (nL := 4) (lv' := [(1, .int v1), (0, .ref (ra 0))]) hx hb dX12_evens_68 hl rfl (kt_inc (w := 1) (by decide) ev1) (by decide) rfl (fun ls hl => ?_)
        refine lv_goto (tgt := 2) hx hb dX12_evens_71 (by decide) ?_
        exact ih_2 v1 M_68 ls _ _ (lv_sub hl [1, 0] rfl) hP hD hS hf
      have h_14 := lp_ind (z := (fun _ _ _ => none)) (b := (g_X12_evens_14 rc_2)) (fun (rc_14 : Int32 → Int32 → kD → Option kD) => ∀ (x1_14 : Int32) (x2_14 : Int32) (M_14 : kD) (ls : Array Slot) (H : Heap) (locs : List Loc), lv_has ls 4 [(0, .ref (ra 0)), (1, .int x1_14), (2, .int x2_14)] → va_P (dC, dI) vwCl (mw cB cI cJ cZ ra M_14) H → va_D (mA ra s.heap.size) (mw cB cI cJ cZ ra M_14) → va_S (mA ra s.heap.size) s.heap H locs → rc_14 x1_14 x2_14 M_14 = some r → W p l e (headSpec wsX12_evens rm_X12_evens).room s m args below meth c H locs 0 0 (MQ below (mQv dC dI cB cI cJ cZ ra s.heap.size r) args s 0 0 (mA ra s.heap.size)) (F0 m 14 ls [])) (by
          intro x1_14 x2_14 M_14 ls H locs hl hP hD hS hf
          cases hf) (by
          intro rc_14 ih_14 x1_14 x2_14 M_14 ls H locs hl hP hD hS hf
          unfold g_X12_evens_14 at hf
          refine lv_iload_n hx hb dX12_evens_14 rfl (lv_at hl 2 rfl) ?_
          refine lv_iload_n hx hb dX12_evens_15 rfl (lv_at hl 1 rfl) ?_
          refine lv_icmp_ge (tgt := 68) hx hb dX12_evens_16 (by decide) (fun hb13 => ?_) (fun hb13 => ?_)
          · have hf := (if_pos hb13).symm.trans hf
            exact h_68 x1_14 M_14 ls _ _ (lv_sub hl [0, 1] rfl) hP hD hS hf
          · have hf := (if_neg hb13).symm.trans hf
            refine lv_aload_n hx hb dX12_evens_19 rfl (lv_at hl 0 rfl) ?_
            refine lv_iload_n hx hb dX12_evens_20 rfl (lv_at hl 1 rfl) ?_
            refine lv_iload_n hx hb dX12_evens_21 rfl (lv_at hl 2 rfl) ?_
            obtain ⟨v2, hq3, hf⟩ := bo_e hf
            refine ko_call (v := some (.int v2)) (km_run (As := [.int x1_14, .int x2_14]) (rest := []) ⟨hx, hb, hml, hown, hts⟩ (c_X12_mutual l dC dI cB cI cJ cZ ra M_14 x1_14 x2_14 v2 hq3) (cwV 2 hts gX12_evens_X12_mutual rfl rfl rfl (by decide +kernel) ⟨Nat.le_of_ble_eq_true rfl, Nat.le_of_ble_eq_true rfl⟩) hK hP (fun _ _ _ _ => mPr_bl) (fun U hU hW => ⟨by rw [hU]; exact hP, va_K.moved hW.alike hK⟩) rfl rfl hl.1 rfl (lv_room (Nat.le_of_ble_eq_true rfl)) dX12_evens_22 ⟨Nat.le_refl _, Nat.le_refl _⟩) ?_
            refine lv_istore_n (nL := 4) (lv' := [(3, .int v2), (0, .ref (ra 0)), (1, .int x1_14), (2, .int x2_14)]) hx hb dX12_evens_25 rfl hl (by decide) rfl (fun ls hl => ?_)
            refine lv_aload_n hx hb dX12_evens_26 rfl (lv_at hl 1 rfl) ?_
            refine km_get hx hb hts hin hown hK hP 6 (by decide) (v := .ref (ra 6)) k_fieldLink_RX12_33__KeyLettersModel___s____I_ rfl dX12_evens_27 ?_
            refine lv_bipush (v := 62) hx hb dX12_evens_30 (by decide) ?_
            refine lv_bipush (v := 6) hx hb dX12_evens_32 (by decide) ?_
            refine lv_iload_n hx hb dX12_evens_34 rfl (lv_at hl 2 rfl) ?_
            refine lv_imul hx hb dX12_evens_35 ?_
            refine lv_iadd hx hb dX12_evens_36 ?_
            refine lv_iload_n hx hb dX12_evens_37 rfl (lv_at hl 3 rfl) ?_
            refine lv_iadd hx hb dX12_evens_38 ?_
            obtain ⟨v4, ev4, hf⟩ := bd1_e hf
            refine kt_i ev4 ?_
            refine lv_dup2_11 hx hb dX12_evens_39 rfl rfl ?_
            obtain ⟨hc5, hf⟩ := ck_e hf
            refine va_iald hx hb hK hP 2 1 rfl rfl hc5 dX12_evens_40 ?_
            refine lv_iload_n hx hb dX12_evens_41 rfl (lv_at hl 0 rfl) ?_
            refine lv_isub hx hb dX12_evens_42 ?_
            obtain ⟨hc6, hf⟩ := ck_e hf
            obtain ⟨M7, eM7, hf⟩ := bd1_e hf
            refine va_iast hx hb hK hP hD hS 2 1 rfl rfl hc6 dX12_evens_43 (fun H locs hP hD hS => ?_)
            have hP : va_P (dC, dI) vwCl (mw cB cI cJ cZ ra M7) H := by rw [eM7, ← ma_6 cB cI cJ cZ ra M_14 v4.toNatClampNeg ((M_14.1 6 v4.toNatClampNeg) - v2)]; exact hP
            have hD : va_D (mA ra s.heap.size) (mw cB cI cJ cZ ra M7) := by rw [eM7, ← ma_6 cB cI cJ cZ ra M_14 v4.toNatClampNeg ((M_14.1 6 v4.toNatClampNeg) - v2)]; exact hD
            refine lv_aload_n hx hb dX12_evens_44 rfl (lv_at hl 1 rfl) ?_
            refine km_get hx hb hts hin hown hK hP 6 (by decide) (v := .ref (ra 6)) k_fieldLink_RX12_33__KeyLettersModel___s____I_ rfl dX12_evens_45 ?_
            refine lv_bipush (v := 62) hx hb dX12_evens_48 (by decide) ?_
            refine lv_bipush (v := 6) hx hb dX12_evens_50 (by decide) ?_
            refine lv_iload_n hx hb dX12_evens_52 rfl (lv_at hl 3 rfl) ?_
            refine lv_imul hx hb dX12_evens_53 ?_
            refine lv_iadd hx hb dX12_evens_54 ?_
            refine lv_iload_n hx hb dX12_evens_55 rfl (lv_at hl 2 rfl) ?_
            refine lv_iadd hx hb dX12_evens_56 ?_
            obtain ⟨v8, ev8, hf⟩ := bd1_e hf
            refine kt_i ev8 ?_
            refine lv_dup2_11 hx hb dX12_evens_57 rfl rfl ?_
            obtain ⟨hc9, hf⟩ := ck_e hf
            refine va_iald hx hb hK hP 2 1 rfl rfl hc9 dX12_evens_58 ?_
            refine lv_iload_n hx hb dX12_evens_59 rfl (lv_at hl 0 rfl) ?_
            refine lv_isub hx hb dX12_evens_60 ?_
            obtain ⟨hc10, hf⟩ := ck_e hf
            obtain ⟨M11, eM11, hf⟩ := bd1_e hf
            refine va_iast hx hb hK hP hD hS 2 1 rfl rfl hc10 dX12_evens_61 (fun H locs hP hD hS => ?_)
            have hP : va_P (dC, dI) vwCl (mw cB cI cJ cZ ra M11) H := by rw [eM11, ← ma_6 cB cI cJ cZ ra M7 v8.toNatClampNeg ((M7.1 6 v8.toNatClampNeg) - v2)]; exact hP
            have hD : va_D (mA ra s.heap.size) (mw cB cI cJ cZ ra M11) := by rw [eM11, ← ma_6 cB cI cJ cZ ra M7 v8.toNatClampNeg ((M7.1 6 v8.toNatClampNeg) - v2)]; exact hD
            obtain ⟨v12, ev12, hf⟩ := bd1_e hf
            refine lv_iinc (k := 3) (x := x2_14) (v := v12) (nL := 4) (lv' := [(2, .int v12), (3, .int v2), (0, .ref (ra 0)), (1, .int x1_14)]) hx hb dX12_evens_62 hl rfl (kt_inc (w := 1) (by decide) ev12) (by decide) rfl (fun ls hl => ?_)
            refine lv_goto (tgt := 14) hx hb dX12_evens_65 (by decide) ?_
            exact ih_14 x1_14 v12 M11 ls _ _ (lv_sub hl [2, 3, 0] rfl) hP hD hS hf) 2000
      refine lv_iload_n hx hb dX12_evens_2 rfl (lv_at hl 1 rfl) ?_
      refine lv_aload_n hx hb dX12_evens_3 rfl (lv_at hl 0 rfl) ?_
      refine km_get hx hb hts hin hown hK hP 6 (by decide) (v := .ref (ra 6)) k_fieldLink_RX12_33__KeyLettersModel___s____I_ rfl dX12_evens_4 ?_
      refine lv_iconst (v := 0) hx hb dX12_evens_7 (by decide) ?_
      refine va_iald hx hb hK hP 2 1 rfl rfl (show ¬ ((0 : Int32) < 0 ∨ 279 ≤ (0 : Int32).toNatClampNeg) by decide +kernel) dX12_evens_8 ?_
      refine lv_icmp_ge (tgt := 74) hx hb dX12_evens_9 (by decide) (fun hb14 => ?_) (fun hb14 => ?_)
      · have hf := (if_pos hb14).symm.trans hf
        have hf := Option.some.inj hf
        subst hf
        exact m_vret hx hb hr hlocks hP hK hD hS dX12_evens_74
      · have hf := (if_neg hb14).symm.trans hf
        refine lv_iconst (v := 0) hx hb dX12_evens_12 (by decide) ?_
        refine lv_istore_n (nL := 4) (lv' := [(2, .int (0 : Int32)), (0, .ref (ra 0)), (1, .int x1_2)]) hx hb dX12_evens_13 rfl hl (by decide) rfl (fun ls hl => ?_)
        exact h_14 x1_2 (0 : Int32) M_2 ls _ _ (lv_sub hl [1, 2, 0] rfl) hP hD hS hf) 2000
  refine lv_iconst (v := 0) hx hb dX12_evens_0 (by decide) ?_
  refine lv_istore_n (nL := 4) (lv' := [(1, .int (0 : Int32)), (0, .ref (ra 0))]) hx hb dX12_evens_1 rfl hl (by decide) rfl (fun ls hl => ?_)
  exact h_2 (0 : Int32) M ls _ _ (lv_sub hl [1, 0] rfl) hP hD hS hf

abbrev rm_X12_day : Room := { frames := 4, cells := 0, slots := 0, locals := 88 }
set_option maxHeartbeats 4000000 in
set_option maxRecDepth 100000 in
theorem c_X12_day (l : Launch) (dC : Nat → ClassId) (dI : Nat → Nat → Nat) (cB cI cJ cZ : ClassId) (ra : Nat → Nat) (sz : Nat) (M : kD)  (r : (Int32 × kD)) (hf : f_X12_day  M = some r) : Met l yX12_day wsX12_day rm_X12_day (va_Pc [.ref (ra 0)] (mPw dC dI cB cI cJ cZ ra sz M)) (mQi dC dI cB cI cJ cZ ra sz r) 0 0 (mA ra sz) := by
  refine Met.ofW (cc := cX12_day) (maxL := 7) (ret := (some .boolean)) (by decide) rfl ?_
  intro p e s m args below meth c s₁ B hml hv
  obtain ⟨hav, hsz, hP, hK, hD0⟩ := hv
  have hx := B.exec
  have hb := B.bytes
  have hr := B.returns
  have hts := atoms_spec (ws := wsX12_day) B.pre
  have hown : s.vm.findClass RX12 = some m.cls := findClass_of_methodNamed B.named
  have hlocks := B.notSynchronized
  subst hsz
  have hA : ∀ q, s.heap.size ≤ q → mA ra s.heap.size q := fun q h => Or.inr h
  have hD : va_D (mA ra s.heap.size) (mw cB cI cJ cZ ra M) := hD0.weaken (fun k q h _ => mA_in h)
  have hS : va_S (mA ra s.heap.size) s.heap s.heap [] := va_S.rf
  have hin : ∀ w ∈ wsX120, w ∈ wsX12_day := fun w h => List.mem_cons_of_mem _ (List.mem_append_right _ h)
  have k_fieldLink_RX12_33__KeyLettersModel___s____I_ := hts (.fieldLink RX12 33 "KeyLettersModel" "s" "[I") (by decide +kernel)
  have hl := lv_entry ([.ref (ra 0)]) (n := 7) (Nat.le_of_ble_eq_true rfl)
  rw [show entryFrame m args 7 = entryFrame m ([.ref (ra 0)] : List Value).toArray 7 from by rw [hav], lg_entry_eq]
  generalize (lg_sl ([.ref (ra 0)]) ++ List.replicate (7 - (lg_sl ([.ref (ra 0)])).length) Slot.unset).toArray = ls at hl ⊢
  have hl : lv_has ls 7 [(0, .ref (ra 0))] := hl
  unfold f_X12_day at hf
  have h_89 : ∀ (x1_89 : Int32) (M_89 : kD) (ls : Array Slot) (H : Heap) (locs : List Loc), lv_has ls 7 [(0, .ref (ra 0)), (1, .int x1_89)] → va_P (dC, dI) vwCl (mw cB cI cJ cZ ra M_89) H → va_D (mA ra s.heap.size) (mw cB cI cJ cZ ra M_89) → va_S (mA ra s.heap.size) s.heap H locs → g_X12_day_89 x1_89 M_89 = some r → W p l e (headSpec wsX12_day rm_X12_day).room s m args below meth c H locs 0 0 (MQ below (mQi dC dI cB cI cJ cZ ra s.heap.size r) args s 0 0 (mA ra s.heap.size)) (F0 m 89 ls []) := by
    intro x1_89 M_89 ls H locs hl hP hD hS hf
    unfold g_X12_day_89 at hf
    have h_129 : ∀ (t1_129 : Int32) (t2_129 : Int32) (t3_129 : Int32) (M_129 : kD) (ls : Array Slot) (H : Heap) (locs : List Loc), lv_has ls 7 [(0, .ref (ra 0))] → va_P (dC, dI) vwCl (mw cB cI cJ cZ ra M_129) H → va_D (mA ra s.heap.size) (mw cB cI cJ cZ ra M_129) → va_S (mA ra s.heap.size) s.heap H locs → g_X12_day_129 t1_129 t2_129 t3_129 M_129 = some r → W p l e (headSpec wsX12_day rm_X12_day).room s m args below meth c H locs 0 0 (MQ below (mQi dC dI cB cI cJ cZ ra s.heap.size r) args s 0 0 (mA ra s.heap.size)) (F0 m 129 ls [.int t3_129, .int t2_129, .int t1_129, .ref (ra 6)]) := by
      intro t1_129 t2_129 t3_129 M_129 ls H locs hl hP hD hS hf
      unfold g_X12_day_129 at hf
      refine lv_iadd hx hb dX12_day_129 ?_
      obtain ⟨hc1, hf⟩ := ck_e hf
      obtain ⟨M2, eM2, hf⟩ := bd1_e hf
      refine va_iast hx hb hK hP hD hS 2 1 rfl rfl hc1 dX12_day_130 (fun H locs hP hD hS => ?_)
      have hP : va_P (dC, dI) vwCl (mw cB cI cJ cZ ra M2) H := by rw [eM2, ← ma_6 cB cI cJ cZ ra M_129 t1_129.toNatClampNeg (t2_129 + t3_129)]; exact hP
      have hD : va_D (mA ra s.heap.size) (mw cB cI cJ cZ ra M2) := by rw [eM2, ← ma_6 cB cI cJ cZ ra M_129 t1_129.toNatClampNeg (t2_129 + t3_129)]; exact hD
      refine lv_aload_n hx hb dX12_day_131 rfl (lv_at hl 0 rfl) ?_
      refine km_get hx hb hts hin hown hK hP 6 (by decide) (v := .ref (ra 6)) k_fieldLink_RX12_33__KeyLettersModel___s____I_ rfl dX12_day_132 ?_
      refine lv_bipush (v := 40) hx hb dX12_day_135 (by decide) ?_
      refine lv_iconst (v := 0) hx hb dX12_day_137 (by decide) ?_
      obtain ⟨M3, eM3, hf⟩ := bd1_e hf
      refine va_iast hx hb hK hP hD hS 2 1 rfl rfl (show ¬ ((40 : Int32) < 0 ∨ 279 ≤ (40 : Int32).toNatClampNeg) by decide +kernel) dX12_day_138 (fun H locs hP hD hS => ?_)
      have hP : va_P (dC, dI) vwCl (mw cB cI cJ cZ ra M3) H := by rw [eM3, ← ma_6 cB cI cJ cZ ra M2 (40 : Int32).toNatClampNeg (0 : Int32)]; exact hP
      have hD : va_D (mA ra s.heap.size) (mw cB cI cJ cZ ra M3) := by rw [eM3, ← ma_6 cB cI cJ cZ ra M2 (40 : Int32).toNatClampNeg (0 : Int32)]; exact hD
      refine lv_aload_n hx hb dX12_day_139 rfl (lv_at hl 0 rfl) ?_
      refine km_get hx hb hts hin hown hK hP 6 (by decide) (v := .ref (ra 6)) k_fieldLink_RX12_33__KeyLettersModel___s____I_ rfl dX12_day_140 ?_
      refine lv_bipush (v := 41) hx hb dX12_day_143 (by decide) ?_
      refine lv_iconst (v := 0) hx hb dX12_day_145 (by decide) ?_
      obtain ⟨M4, eM4, hf⟩ := bd1_e hf
      refine va_iast hx hb hK hP hD hS 2 1 rfl rfl (show ¬ ((41 : Int32) < 0 ∨ 279 ≤ (41 : Int32).toNatClampNeg) by decide +kernel) dX12_day_146 (fun H locs hP hD hS => ?_)
      have hP : va_P (dC, dI) vwCl (mw cB cI cJ cZ ra M4) H := by rw [eM4, ← ma_6 cB cI cJ cZ ra M3 (41 : Int32).toNatClampNeg (0 : Int32)]; exact hP
      have hD : va_D (mA ra s.heap.size) (mw cB cI cJ cZ ra M4) := by rw [eM4, ← ma_6 cB cI cJ cZ ra M3 (41 : Int32).toNatClampNeg (0 : Int32)]; exact hD
      refine lv_iconst (v := 0) hx hb dX12_day_147 (by decide) ?_
      have hf := Option.some.inj hf
      subst hf
      exact m_zret hx hb hr rfl hlocks hP hK hD hS dX12_day_148
    refine lv_aload_n hx hb dX12_day_89 rfl (lv_at hl 0 rfl) ?_
    refine km_get hx hb hts hin hown hK hP 6 (by decide) (v := .ref (ra 6)) k_fieldLink_RX12_33__KeyLettersModel___s____I_ rfl dX12_day_90 ?_
    refine lv_bipush (v := 39) hx hb dX12_day_93 (by decide) ?_
    refine lv_dup2_11 hx hb dX12_day_95 rfl rfl ?_
    refine va_iald hx hb hK hP 2 1 rfl rfl (show ¬ ((39 : Int32) < 0 ∨ 279 ≤ (39 : Int32).toNatClampNeg) by decide +kernel) dX12_day_96 ?_
    refine lv_iconst (v := 1) hx hb dX12_day_97 (by decide) ?_
    refine lv_iadd hx hb dX12_day_98 ?_
    obtain ⟨M5, eM5, hf⟩ := bd1_e hf
    refine va_iast hx hb hK hP hD hS 2 1 rfl rfl (show ¬ ((39 : Int32) < 0 ∨ 279 ≤ (39 : Int32).toNatClampNeg) by decide +kernel) dX12_day_99 (fun H locs hP hD hS => ?_)
    have hP : va_P (dC, dI) vwCl (mw cB cI cJ cZ ra M5) H := by rw [eM5, ← ma_6 cB cI cJ cZ ra M_89 (39 : Int32).toNatClampNeg ((M_89.1 6 (39 : Int32).toNatClampNeg) + (1 : Int32))]; exact hP
    have hD : va_D (mA ra s.heap.size) (mw cB cI cJ cZ ra M5) := by rw [eM5, ← ma_6 cB cI cJ cZ ra M_89 (39 : Int32).toNatClampNeg ((M_89.1 6 (39 : Int32).toNatClampNeg) + (1 : Int32))]; exact hD
    refine lv_iload_n hx hb dX12_day_100 rfl (lv_at hl 1 rfl) ?_
    refine lv_if_eq (tgt := 106) hx hb dX12_day_101 (by decide) (fun hb7 => ?_) (fun hb7 => ?_)
    · have hf := (if_pos hb7).symm.trans hf
      refine lv_aload_n hx hb dX12_day_106 rfl (lv_at hl 0 rfl) ?_
      refine km_get hx hb hts hin hown hK hP 6 (by decide) (v := .ref (ra 6)) k_fieldLink_RX12_33__KeyLettersModel___s____I_ rfl dX12_day_107 ?_
      refine lv_bipush (v := 43) hx hb dX12_day_110 (by decide) ?_
      refine lv_dup2_11 hx hb dX12_day_112 rfl rfl ?_
      refine va_iald hx hb hK hP 2 1 rfl rfl (show ¬ ((43 : Int32) < 0 ∨ 279 ≤ (43 : Int32).toNatClampNeg) by decide +kernel) dX12_day_113 ?_
      refine lv_aload_n hx hb dX12_day_114 rfl (lv_at hl 0 rfl) ?_
      refine km_get hx hb hts hin hown hK hP 6 (by decide) (v := .ref (ra 6)) k_fieldLink_RX12_33__KeyLettersModel___s____I_ rfl dX12_day_115 ?_
      refine lv_bipush (v := 40) hx hb dX12_day_118 (by decide) ?_
      refine va_iald hx hb hK hP 2 1 rfl rfl (show ¬ ((40 : Int32) < 0 ∨ 279 ≤ (40 : Int32).toNatClampNeg) by decide +kernel) dX12_day_120 ?_
      refine lv_if_le (tgt := 128) hx hb dX12_day_121 (by decide) (fun hb6 => ?_) (fun hb6 => ?_)
      · have hf := (if_pos hb6).symm.trans hf
        refine lv_iconst (v := 0) hx hb dX12_day_128 (by decide) ?_
        exact h_129 (43 : Int32) (M5.1 6 (43 : Int32).toNatClampNeg) (0 : Int32) M5 ls _ _ (lv_sub hl [0] rfl) hP hD hS hf
      · have hf := (if_neg hb6).symm.trans hf
        refine lv_iconst (v := 1) hx hb dX12_day_124 (by decide) ?_
        refine lv_goto (tgt := 129) hx hb dX12_day_125 (by decide) ?_
        exact h_129 (43 : Int32) (M5.1 6 (43 : Int32).toNatClampNeg) (1 : Int32) M5 ls _ _ (lv_sub hl [0] rfl) hP hD hS hf
    · have hf := (if_neg hb7).symm.trans hf
      refine lv_iconst (v := 1) hx hb dX12_day_104 (by decide) ?_
      have hf := Option.some.inj hf
      subst hf
      exact m_zret hx hb hr rfl hlocks hP hK hD hS dX12_day_105
  have h_12 := lp_ind (z := (fun _ _ _ _ => none)) (b := (g_X12_day_12)) (fun (rc_12 : Int32 → Int32 → Int32 → kD → Option (Int32 × kD)) => ∀ (x1_12 : Int32) (x2_12 : Int32) (x3_12 : Int32) (M_12 : kD) (ls : Array Slot) (H : Heap) (locs : List Loc), lv_has ls 7 [(0, .ref (ra 0)), (1, .int x1_12), (2, .int x2_12), (3, .int x3_12)] → va_P (dC, dI) vwCl (mw cB cI cJ cZ ra M_12) H → va_D (mA ra s.heap.size) (mw cB cI cJ cZ ra M_12) → va_S (mA ra s.heap.size) s.heap H locs → rc_12 x1_12 x2_12 x3_12 M_12 = some r → W p l e (headSpec wsX12_day rm_X12_day).room s m args below meth c H locs 0 0 (MQ below (mQi dC dI cB cI cJ cZ ra s.heap.size r) args s 0 0 (mA ra s.heap.size)) (F0 m 12 ls [])) (by
      intro x1_12 x2_12 x3_12 M_12 ls H locs hl hP hD hS hf
      cases hf) (by
      intro rc_12 ih_12 x1_12 x2_12 x3_12 M_12 ls H locs hl hP hD hS hf
      unfold g_X12_day_12 at hf
      have h_83 : ∀ (x1_83 : Int32) (x2_83 : Int32) (x3_83 : Int32) (M_83 : kD) (ls : Array Slot) (H : Heap) (locs : List Loc), lv_has ls 7 [(0, .ref (ra 0)), (1, .int x1_83), (2, .int x2_83), (3, .int x3_83)] → va_P (dC, dI) vwCl (mw cB cI cJ cZ ra M_83) H → va_D (mA ra s.heap.size) (mw cB cI cJ cZ ra M_83) → va_S (mA ra s.heap.size) s.heap H locs → g_X12_day_83 rc_12 x1_83 x2_83 x3_83 M_83 = some r → W p l e (headSpec wsX12_day rm_X12_day).room s m args below meth c H locs 0 0 (MQ below (mQi dC dI cB cI cJ cZ ra s.heap.size r) args s 0 0 (mA ra s.heap.size)) (F0 m 83 ls []) := by
        intro x1_83 x2_83 x3_83 M_83 ls H locs hl hP hD hS hf
        unfold g_X12_day_83 at hf
        obtain ⟨v8, ev8, hf⟩ := bd1_e hf
        refine lv_iinc (k := 3) (x := x3_83) (v := v8) (nL := 7) (lv' := [(3, .int v8), (0, .ref (ra 0)), (1, .int x1_83), (2, .int x2_83)]) hx hb dX12_day_83 hl rfl (kt_inc (w := 1) (by decide) ev8) (by decide) rfl (fun ls hl => ?_)
        refine lv_goto (tgt := 12) hx hb dX12_day_86 (by decide) ?_
        exact ih_12 x1_83 x2_83 v8 M_83 ls _ _ (lv_sub hl [1, 2, 3, 0] rfl) hP hD hS hf
      have h_73 : ∀ (x2_73 : Int32) (x3_73 : Int32) (x4_73 : Int32) (x6_73 : Int32) (M_73 : kD) (ls : Array Slot) (H : Heap) (locs : List Loc), lv_has ls 7 [(0, .ref (ra 0)), (2, .int x2_73), (3, .int x3_73), (4, .int x4_73), (6, .int x6_73)] → va_P (dC, dI) vwCl (mw cB cI cJ cZ ra M_73) H → va_D (mA ra s.heap.size) (mw cB cI cJ cZ ra M_73) → va_S (mA ra s.heap.size) s.heap H locs → g_X12_day_73 rc_12 x2_73 x3_73 x4_73 x6_73 M_73 = some r → W p l e (headSpec wsX12_day rm_X12_day).room s m args below meth c H locs 0 0 (MQ below (mQi dC dI cB cI cJ cZ ra s.heap.size r) args s 0 0 (mA ra s.heap.size)) (F0 m 73 ls []) := by
        intro x2_73 x3_73 x4_73 x6_73 M_73 ls H locs hl hP hD hS hf
        unfold g_X12_day_73 at hf
        refine lv_aload_n hx hb dX12_day_73 rfl (lv_at hl 0 rfl) ?_
        refine lv_iload hx hb dX12_day_74 (lv_at hl 3 rfl) ?_
        refine lv_iload hx hb dX12_day_76 (lv_at hl 4 rfl) ?_
        obtain ⟨M9, hq10, hf⟩ := bo_e hf
        refine km_callwv (M1 := M9) (km_run (As := [.int x4_73, .int x6_73]) (rest := []) ⟨hx, hb, hml, hown, hts⟩ (c_X12_types l dC dI cB cI cJ cZ ra _ M_73 x4_73 x6_73 M9 hq10) (cwV 2 hts gX12_day_X12_types rfl rfl rfl (by decide +kernel) ⟨Nat.le_of_ble_eq_true rfl, Nat.le_of_ble_eq_true rfl⟩) hK hP (fun _ _ _ _ => mPw_bl) (fun U hU hW => ⟨by rw [hU], by rw [hU]; exact hP, va_K.moved hW.alike hK, hD.weaken (fun _ _ _ _ => trivial)⟩) rfl rfl hl.1 rfl (lv_room (Nat.le_of_ble_eq_true rfl)) dX12_day_78 ⟨Nat.le_refl _, Nat.le_refl _⟩) hD hS hA (fun H locs hP hD hS => ?_)
        refine lv_iconst (v := 1) hx hb dX12_day_81 (by decide) ?_
        refine lv_istore_n (nL := 7) (lv' := [(1, .int (1 : Int32)), (0, .ref (ra 0)), (2, .int x2_73), (3, .int x3_73), (4, .int x4_73), (6, .int x6_73)]) hx hb dX12_day_82 rfl hl (by decide) rfl (fun ls hl => ?_)
        exact h_83 (1 : Int32) x2_73 x3_73 M9 ls _ _ (lv_sub hl [1, 0, 2, 3] rfl) hP hD hS hf
      have h_57 := lp_ind (z := (fun _ _ _ _ _ _ => none)) (b := (g_X12_day_57 rc_12)) (fun (rc_57 : Int32 → Int32 → Int32 → Int32 → Int32 → kD → Option (Int32 × kD)) => ∀ (x2_57 : Int32) (x3_57 : Int32) (x4_57 : Int32) (x5_57 : Int32) (x6_57 : Int32) (M_57 : kD) (ls : Array Slot) (H : Heap) (locs : List Loc), lv_has ls 7 [(0, .ref (ra 0)), (2, .int x2_57), (3, .int x3_57), (4, .int x4_57), (5, .int x5_57), (6, .int x6_57)] → va_P (dC, dI) vwCl (mw cB cI cJ cZ ra M_57) H → va_D (mA ra s.heap.size) (mw cB cI cJ cZ ra M_57) → va_S (mA ra s.heap.size) s.heap H locs → rc_57 x2_57 x3_57 x4_57 x5_57 x6_57 M_57 = some r → W p l e (headSpec wsX12_day rm_X12_day).room s m args below meth c H locs 0 0 (MQ below (mQi dC dI cB cI cJ cZ ra s.heap.size r) args s 0 0 (mA ra s.heap.size)) (F0 m 57 ls [])) (by
          intro x2_57 x3_57 x4_57 x5_57 x6_57 M_57 ls H locs hl hP hD hS hf
          cases hf) (by
          intro rc_57 ih_57 x2_57 x3_57 x4_57 x5_57 x6_57 M_57 ls H locs hl hP hD hS hf
          unfold g_X12_day_57 at hf
          refine lv_iload hx hb dX12_day_57 (lv_at hl 4 rfl) ?_
          refine lv_iload hx hb dX12_day_59 (lv_at hl 5 rfl) ?_
          refine ko_call (v := some (.int (f_X12_bitOf x5_57 x6_57))) (va_runS (As := [.int x5_57, .int x6_57]) (rest := []) ⟨hx, hb, hml, hown, hts⟩ (c_X12_bitOf l x5_57 x6_57 _ rfl) (va_cwS 2 hts gX12_day_X12_bitOf rfl rfl rfl (by decide +kernel) ⟨Nat.le_of_ble_eq_true rfl, Nat.le_of_ble_eq_true rfl⟩) ⟨fun a U g mk q => q, fun U hU hW => ⟨rfl, trivial⟩⟩ rfl rfl hl.1 rfl (lv_room (Nat.le_of_ble_eq_true rfl)) dX12_day_61 ⟨Nat.le_refl _, Nat.le_refl _⟩) ?_
          refine lv_if_ne (tgt := 73) hx hb dX12_day_64 (by decide) (fun hb12 => ?_) (fun hb12 => ?_)
          · have hf := (if_neg hb12).symm.trans hf
            exact h_73 x2_57 x3_57 x4_57 x6_57 M_57 ls _ _ (lv_sub hl [0, 1, 2, 3, 5] rfl) hP hD hS hf
          · have hf := (if_pos hb12).symm.trans hf
            obtain ⟨v11, ev11, hf⟩ := bd1_e hf
            refine lv_iinc (k := 5) (x := x6_57) (v := v11) (nL := 7) (lv' := [(6, .int v11), (0, .ref (ra 0)), (2, .int x2_57), (3, .int x3_57), (4, .int x4_57), (5, .int x5_57)]) hx hb dX12_day_67 hl rfl (kt_inc (w := 1) (by decide) ev11) (by decide) rfl (fun ls hl => ?_)
            refine lv_goto (tgt := 57) hx hb dX12_day_70 (by decide) ?_
            exact ih_57 x2_57 x3_57 x4_57 x5_57 v11 M_57 ls _ _ (lv_sub hl [1, 2, 3, 4, 5, 0] rfl) hP hD hS hf) 2000
      refine lv_iload_n hx hb dX12_day_12 rfl (lv_at hl 3 rfl) ?_
      refine lv_aload_n hx hb dX12_day_13 rfl (lv_at hl 0 rfl) ?_
      refine km_get hx hb hts hin hown hK hP 6 (by decide) (v := .ref (ra 6)) k_fieldLink_RX12_33__KeyLettersModel___s____I_ rfl dX12_day_14 ?_
      refine lv_iconst (v := 0) hx hb dX12_day_17 (by decide) ?_
      refine va_iald hx hb hK hP 2 1 rfl rfl (show ¬ ((0 : Int32) < 0 ∨ 279 ≤ (0 : Int32).toNatClampNeg) by decide +kernel) dX12_day_18 ?_
      refine lv_icmp_ge (tgt := 89) hx hb dX12_day_19 (by decide) (fun hb19 => ?_) (fun hb19 => ?_)
      · have hf := (if_pos hb19).symm.trans hf
        exact h_89 x1_12 M_12 ls _ _ (lv_sub hl [0, 1] rfl) hP hD hS hf
      · have hf := (if_neg hb19).symm.trans hf
        refine lv_iload_n hx hb dX12_day_22 rfl (lv_at hl 1 rfl) ?_
        refine lv_if_ne (tgt := 89) hx hb dX12_day_23 (by decide) (fun hb18 => ?_) (fun hb18 => ?_)
        · have hf := (if_neg hb18).symm.trans hf
          exact h_89 x1_12 M_12 ls _ _ (lv_sub hl [0, 1] rfl) hP hD hS hf
        · have hf := (if_pos hb18).symm.trans hf
          refine lv_iload_n hx hb dX12_day_26 rfl (lv_at hl 2 rfl) ?_
          refine lv_iload_n hx hb dX12_day_27 rfl (lv_at hl 3 rfl) ?_
          refine lv_iadd hx hb dX12_day_28 ?_
          refine lv_aload_n hx hb dX12_day_29 rfl (lv_at hl 0 rfl) ?_
          refine km_get hx hb hts hin hown hK hP 6 (by decide) (v := .ref (ra 6)) k_fieldLink_RX12_33__KeyLettersModel___s____I_ rfl dX12_day_30 ?_
          refine lv_iconst (v := 0) hx hb dX12_day_33 (by decide) ?_
          refine va_iald hx hb hK hP 2 1 rfl rfl (show ¬ ((0 : Int32) < 0 ∨ 279 ≤ (0 : Int32).toNatClampNeg) by decide +kernel) dX12_day_34 ?_
          obtain ⟨hc13, hf⟩ := ck_e hf
          refine lv_irem hx hb dX12_day_35 hc13 ?_
          obtain ⟨v14, ev14, hf⟩ := bd1_e hf
          refine kt_i ev14 ?_
          refine lv_istore (nL := 7) (lv' := [(4, .int v14), (0, .ref (ra 0)), (1, .int x1_12), (2, .int x2_12), (3, .int x3_12)]) hx hb dX12_day_36 hl (by decide) rfl (fun ls hl => ?_)
          refine lv_aload_n hx hb dX12_day_38 rfl (lv_at hl 1 rfl) ?_
          refine lv_iload hx hb dX12_day_39 (lv_at hl 0 rfl) ?_
          obtain ⟨v15, hq16, hf⟩ := bo_e hf
          refine ko_call (v := some (.int v15)) (km_run (As := [.int v14]) (rest := []) ⟨hx, hb, hml, hown, hts⟩ (c_X12_couldWrite l dC dI cB cI cJ cZ ra M_12 v14 v15 hq16) (cwV 1 hts gX12_day_X12_couldWrite rfl rfl rfl (by decide +kernel) ⟨Nat.le_of_ble_eq_true rfl, Nat.le_of_ble_eq_true rfl⟩) hK hP (fun _ _ _ _ => mPr_bl) (fun U hU hW => ⟨by rw [hU]; exact hP, va_K.moved hW.alike hK⟩) rfl rfl hl.1 rfl (lv_room (Nat.le_of_ble_eq_true rfl)) dX12_day_41 ⟨Nat.le_refl _, Nat.le_refl _⟩) ?_
          refine lv_istore (nL := 7) (lv' := [(5, .int v15), (4, .int v14), (0, .ref (ra 0)), (1, .int x1_12), (2, .int x2_12), (3, .int x3_12)]) hx hb dX12_day_44 hl (by decide) rfl (fun ls hl => ?_)
          refine lv_iload hx hb dX12_day_46 (lv_at hl 0 rfl) ?_
          refine lv_if_ne (tgt := 54) hx hb dX12_day_48 (by decide) (fun hb17 => ?_) (fun hb17 => ?_)
          · have hf := (if_neg hb17).symm.trans hf
            refine lv_iconst (v := 0) hx hb dX12_day_54 (by decide) ?_
            refine lv_istore (nL := 7) (lv' := [(6, .int (0 : Int32)), (5, .int v15), (4, .int v14), (0, .ref (ra 0)), (1, .int x1_12), (2, .int x2_12), (3, .int x3_12)]) hx hb dX12_day_55 hl (by decide) rfl (fun ls hl => ?_)
            exact h_57 x2_12 x3_12 v14 v15 (0 : Int32) M_12 ls _ _ (lv_sub hl [3, 5, 6, 2, 1, 0] rfl) hP hD hS hf
          · have hf := (if_pos hb17).symm.trans hf
            refine lv_goto (tgt := 83) hx hb dX12_day_51 (by decide) ?_
            exact h_83 x1_12 x2_12 x3_12 M_12 ls _ _ (lv_sub hl [2, 3, 4, 5] rfl) hP hD hS hf) 2000
  refine lv_iconst (v := 0) hx hb dX12_day_0 (by decide) ?_
  refine lv_istore_n (nL := 7) (lv' := [(1, .int (0 : Int32)), (0, .ref (ra 0))]) hx hb dX12_day_1 rfl hl (by decide) rfl (fun ls hl => ?_)
  refine lv_aload_n hx hb dX12_day_2 rfl (lv_at hl 1 rfl) ?_
  refine km_get hx hb hts hin hown hK hP 6 (by decide) (v := .ref (ra 6)) k_fieldLink_RX12_33__KeyLettersModel___s____I_ rfl dX12_day_3 ?_
  refine lv_bipush (v := 41) hx hb dX12_day_6 (by decide) ?_
  refine va_iald hx hb hK hP 2 1 rfl rfl (show ¬ ((41 : Int32) < 0 ∨ 279 ≤ (41 : Int32).toNatClampNeg) by decide +kernel) dX12_day_8 ?_
  obtain ⟨v20, ev20, hf⟩ := bd1_e hf
  refine kt_i ev20 ?_
  refine lv_istore_n (nL := 7) (lv' := [(2, .int v20), (1, .int (0 : Int32)), (0, .ref (ra 0))]) hx hb dX12_day_9 rfl hl (by decide) rfl (fun ls hl => ?_)
  refine lv_iconst (v := 0) hx hb dX12_day_10 (by decide) ?_
  refine lv_istore_n (nL := 7) (lv' := [(3, .int (0 : Int32)), (2, .int v20), (1, .int (0 : Int32)), (0, .ref (ra 0))]) hx hb dX12_day_11 rfl hl (by decide) rfl (fun ls hl => ?_)
  exact h_12 (0 : Int32) v20 (0 : Int32) M ls _ _ (lv_sub hl [3, 2, 1, 0] rfl) hP hD hS hf

abbrev rm_X12_goesOn : Room := { frames := 5, cells := 0, slots := 0, locals := 114 }
set_option maxHeartbeats 4000000 in
set_option maxRecDepth 100000 in
theorem c_X12_goesOn (l : Launch) (dC : Nat → ClassId) (dI : Nat → Nat → Nat) (cB cI cJ cZ : ClassId) (ra : Nat → Nat) (sz : Nat) (M : kD) (a0 : Int32) (r : (Int32 × kD)) (hf : f_X12_goesOn a0 M = some r) : Met l yX12_goesOn wsX12_goesOn rm_X12_goesOn (va_Pc [.ref (ra 0), .int a0] (mPw dC dI cB cI cJ cZ ra sz M)) (mQi dC dI cB cI cJ cZ ra sz r) 0 0 (mA ra sz) := by
  refine Met.ofW (cc := cX12_goesOn) (maxL := 3) (ret := (some .int)) (by decide) rfl ?_
  intro p e s m args below meth c s₁ B hml hv
  obtain ⟨hav, hsz, hP, hK, hD0⟩ := hv
  have hx := B.exec
  have hb := B.bytes
  have hr := B.returns
  have hts := atoms_spec (ws := wsX12_goesOn) B.pre
  have hown : s.vm.findClass RX12 = some m.cls := findClass_of_methodNamed B.named
  have hlocks := B.notSynchronized
  subst hsz
  have hA : ∀ q, s.heap.size ≤ q → mA ra s.heap.size q := fun q h => Or.inr h
  have hD : va_D (mA ra s.heap.size) (mw cB cI cJ cZ ra M) := hD0.weaken (fun k q h _ => mA_in h)
  have hS : va_S (mA ra s.heap.size) s.heap s.heap [] := va_S.rf
  have hin : ∀ w ∈ wsX120, w ∈ wsX12_goesOn := fun w h => List.mem_cons_of_mem _ (List.mem_append_right _ h)
  have k_fieldLink_RX12_33__KeyLettersModel___s____I_ := hts (.fieldLink RX12 33 "KeyLettersModel" "s" "[I") (by decide +kernel)
  have hl := lv_entry ([.ref (ra 0), .int a0]) (n := 3) (Nat.le_of_ble_eq_true rfl)
  rw [show entryFrame m args 3 = entryFrame m ([.ref (ra 0), .int a0] : List Value).toArray 3 from by rw [hav], lg_entry_eq]
  generalize (lg_sl ([.ref (ra 0), .int a0]) ++ List.replicate (3 - (lg_sl ([.ref (ra 0), .int a0])).length) Slot.unset).toArray = ls at hl ⊢
  have hl : lv_has ls 3 [(0, .ref (ra 0)), (1, .int a0)] := hl
  unfold f_X12_goesOn at hf
  have h_2 := lp_ind (z := (fun _ _ _ => none)) (b := (g_X12_goesOn_2)) (fun (rc_2 : Int32 → Int32 → kD → Option (Int32 × kD)) => ∀ (x1_2 : Int32) (x2_2 : Int32) (M_2 : kD) (ls : Array Slot) (H : Heap) (locs : List Loc), lv_has ls 3 [(0, .ref (ra 0)), (1, .int x1_2), (2, .int x2_2)] → va_P (dC, dI) vwCl (mw cB cI cJ cZ ra M_2) H → va_D (mA ra s.heap.size) (mw cB cI cJ cZ ra M_2) → va_S (mA ra s.heap.size) s.heap H locs → rc_2 x1_2 x2_2 M_2 = some r → W p l e (headSpec wsX12_goesOn rm_X12_goesOn).room s m args below meth c H locs 0 0 (MQ below (mQi dC dI cB cI cJ cZ ra s.heap.size r) args s 0 0 (mA ra s.heap.size)) (F0 m 2 ls [])) (by
      intro x1_2 x2_2 M_2 ls H locs hl hP hD hS hf
      cases hf) (by
      intro rc_2 ih_2 x1_2 x2_2 M_2 ls H locs hl hP hD hS hf
      unfold g_X12_goesOn_2 at hf
      refine lv_iload_n hx hb dX12_goesOn_2 rfl (lv_at hl 2 rfl) ?_
      refine lv_iload_n hx hb dX12_goesOn_3 rfl (lv_at hl 1 rfl) ?_
      refine lv_icmp_ge (tgt := 31) hx hb dX12_goesOn_4 (by decide) (fun hb6 => ?_) (fun hb6 => ?_)
      · have hf := (if_pos hb6).symm.trans hf
        refine lv_iload_n hx hb dX12_goesOn_31 rfl (lv_at hl 2 rfl) ?_
        have hf := Option.some.inj hf
        subst hf
        exact m_iret hx hb hr hlocks hP hK hD hS dX12_goesOn_32
      · have hf := (if_neg hb6).symm.trans hf
        refine lv_aload_n hx hb dX12_goesOn_7 rfl (lv_at hl 0 rfl) ?_
        refine km_get hx hb hts hin hown hK hP 6 (by decide) (v := .ref (ra 6)) k_fieldLink_RX12_33__KeyLettersModel___s____I_ rfl dX12_goesOn_8 ?_
        refine lv_bipush (v := 39) hx hb dX12_goesOn_11 (by decide) ?_
        refine va_iald hx hb hK hP 2 1 rfl rfl (show ¬ ((39 : Int32) < 0 ∨ 279 ≤ (39 : Int32).toNatClampNeg) by decide +kernel) dX12_goesOn_13 ?_
        refine lv_sipush (v := 400) hx hb dX12_goesOn_14 (by decide) ?_
        refine lv_icmp_ge (tgt := 31) hx hb dX12_goesOn_17 (by decide) (fun hb5 => ?_) (fun hb5 => ?_)
        · have hf := (if_pos hb5).symm.trans hf
          refine lv_iload_n hx hb dX12_goesOn_31 rfl (lv_at hl 2 rfl) ?_
          have hf := Option.some.inj hf
          subst hf
          exact m_iret hx hb hr hlocks hP hK hD hS dX12_goesOn_32
        · have hf := (if_neg hb5).symm.trans hf
          refine lv_aload_n hx hb dX12_goesOn_20 rfl (lv_at hl 0 rfl) ?_
          obtain ⟨v2, M1, hq3, hf⟩ := bo2_e hf
          refine km_callw (v := v2) (M1 := M1) rfl (km_run (As := []) (rest := []) ⟨hx, hb, hml, hown, hts⟩ (c_X12_day l dC dI cB cI cJ cZ ra _ M_2  (v2, M1) hq3) (cwV 0 hts gX12_goesOn_X12_day rfl rfl rfl (by decide +kernel) ⟨Nat.le_of_ble_eq_true rfl, Nat.le_of_ble_eq_true rfl⟩) hK hP (fun _ _ _ _ => mPw_bl) (fun U hU hW => ⟨by rw [hU], by rw [hU]; exact hP, va_K.moved hW.alike hK, hD.weaken (fun _ _ _ _ => trivial)⟩) rfl rfl hl.1 rfl (lv_room (Nat.le_of_ble_eq_true rfl)) dX12_goesOn_21 ⟨Nat.le_refl _, Nat.le_refl _⟩) hD hS hA (fun H locs hP hD hS => ?_)
          refine lv_pop hx hb dX12_goesOn_24 rfl ?_
          obtain ⟨v4, ev4, hf⟩ := bd1_e hf
          refine lv_iinc (k := 2) (x := x2_2) (v := v4) (nL := 3) (lv' := [(2, .int v4), (0, .ref (ra 0)), (1, .int x1_2)]) hx hb dX12_goesOn_25 hl rfl (kt_inc (w := 1) (by decide) ev4) (by decide) rfl (fun ls hl => ?_)
          refine lv_goto (tgt := 2) hx hb dX12_goesOn_28 (by decide) ?_
          exact ih_2 x1_2 v4 M1 ls _ _ (lv_sub hl [1, 2, 0] rfl) hP hD hS hf) 2000
  refine lv_iconst (v := 0) hx hb dX12_goesOn_0 (by decide) ?_
  refine lv_istore_n (nL := 3) (lv' := [(2, .int (0 : Int32)), (0, .ref (ra 0)), (1, .int a0)]) hx hb dX12_goesOn_1 rfl hl (by decide) rfl (fun ls hl => ?_)
  exact h_2 a0 (0 : Int32) M ls _ _ (lv_sub hl [1, 2, 0] rfl) hP hD hS hf

abbrev rm_X12_keep : Room := { frames := 0, cells := 0, slots := 0, locals := 0 }
set_option maxHeartbeats 4000000 in
set_option maxRecDepth 100000 in
theorem c_X12_keep (l : Launch) (dC : Nat → ClassId) (dI : Nat → Nat → Nat) (cB cI cJ cZ : ClassId) (ra : Nat → Nat) (sz : Nat) (M : kD)  (r : kD) (hf : f_X12_keep  M = some r) : Met l yX12_keep wsX12_keep rm_X12_keep (va_Pc [.ref (ra 0)] (mPw dC dI cB cI cJ cZ ra sz M)) (mQv dC dI cB cI cJ cZ ra sz r) 0 0 (mA ra sz) := by
  refine Met.ofW (cc := cX12_keep) (maxL := 2) (ret := none) (by decide) rfl ?_
  intro p e s m args below meth c s₁ B hml hv
  obtain ⟨hav, hsz, hP, hK, hD0⟩ := hv
  have hx := B.exec
  have hb := B.bytes
  have hr := B.returns
  have hts := atoms_spec (ws := wsX12_keep) B.pre
  have hown : s.vm.findClass RX12 = some m.cls := findClass_of_methodNamed B.named
  have hlocks := B.notSynchronized
  subst hsz
  have hA : ∀ q, s.heap.size ≤ q → mA ra s.heap.size q := fun q h => Or.inr h
  have hD : va_D (mA ra s.heap.size) (mw cB cI cJ cZ ra M) := hD0.weaken (fun k q h _ => mA_in h)
  have hS : va_S (mA ra s.heap.size) s.heap s.heap [] := va_S.rf
  have hin : ∀ w ∈ wsX120, w ∈ wsX12_keep := fun w h => List.mem_cons_of_mem _ (List.mem_append_right _ h)
  have k_fieldLink_RX12_248__KeyLettersModel___undoMany___I_ := hts (.fieldLink RX12 248 "KeyLettersModel" "undoMany" "I") (by decide +kernel)
  have k_fieldLink_RX12_33__KeyLettersModel___s____I_ := hts (.fieldLink RX12 33 "KeyLettersModel" "s" "[I") (by decide +kernel)
  have k_fieldLink_RX12_50__KeyLettersModel___undone____I_ := hts (.fieldLink RX12 50 "KeyLettersModel" "undone" "[I") (by decide +kernel)
  have hl := lv_entry ([.ref (ra 0)]) (n := 2) (Nat.le_of_ble_eq_true rfl)
  rw [show entryFrame m args 2 = entryFrame m ([.ref (ra 0)] : List Value).toArray 2 from by rw [hav], lg_entry_eq]
  generalize (lg_sl ([.ref (ra 0)]) ++ List.replicate (2 - (lg_sl ([.ref (ra 0)])).length) Slot.unset).toArray = ls at hl ⊢
  have hl : lv_has ls 2 [(0, .ref (ra 0))] := hl
  unfold f_X12_keep at hf
  have h_45 : ∀ (M_45 : kD) (ls : Array Slot) (H : Heap) (locs : List Loc), lv_has ls 2 [(0, .ref (ra 0))] → va_P (dC, dI) vwCl (mw cB cI cJ cZ ra M_45) H → va_D (mA ra s.heap.size) (mw cB cI cJ cZ ra M_45) → va_S (mA ra s.heap.size) s.heap H locs → g_X12_keep_45  M_45 = some r → W p l e (headSpec wsX12_keep rm_X12_keep).room s m args below meth c H locs 0 0 (MQ below (mQv dC dI cB cI cJ cZ ra s.heap.size r) args s 0 0 (mA ra s.heap.size)) (F0 m 45 ls []) := by
    intro  M_45 ls H locs hl hP hD hS hf
    unfold g_X12_keep_45 at hf
    have h_82 : ∀ (M_82 : kD) (ls : Array Slot) (H : Heap) (locs : List Loc), lv_has ls 2 [(0, .ref (ra 0))] → va_P (dC, dI) vwCl (mw cB cI cJ cZ ra M_82) H → va_D (mA ra s.heap.size) (mw cB cI cJ cZ ra M_82) → va_S (mA ra s.heap.size) s.heap H locs → g_X12_keep_82  M_82 = some r → W p l e (headSpec wsX12_keep rm_X12_keep).room s m args below meth c H locs 0 0 (MQ below (mQv dC dI cB cI cJ cZ ra s.heap.size r) args s 0 0 (mA ra s.heap.size)) (F0 m 82 ls []) := by
      intro  M_82 ls H locs hl hP hD hS hf
      unfold g_X12_keep_82 at hf
      refine lv_aload_n hx hb dX12_keep_82 rfl (lv_at hl 0 rfl) ?_
      refine lv_dup hx hb dX12_keep_83 rfl ?_
      refine km_get hx hb hts hin hown hK hP 22 (by decide) (v := .int (M_82.1 0 22)) k_fieldLink_RX12_248__KeyLettersModel___undoMany___I_ rfl dX12_keep_84 ?_
      refine lv_iconst (v := 1) hx hb dX12_keep_87 (by decide) ?_
      refine lv_iadd hx hb dX12_keep_88 ?_
      obtain ⟨M1, eM1, hf⟩ := bd1_e hf
      refine km_put hx hb hts hin hown hK hP hD hS 22 (by decide) k_fieldLink_RX12_248__KeyLettersModel___undoMany___I_ rfl (ty := .int) (v := .int ((M_82.1 0 22) + (1 : Int32))) (by decide +kernel) rfl rfl (M1 := M1) (by rw [eM1]; exact mo_22 cB cI cJ cZ ra M_82 ((M_82.1 0 22) + (1 : Int32))) dX12_keep_89 (fun H locs hP hD hS => ?_)
      have hf := Option.some.inj hf
      subst hf
      exact m_vret hx hb hr hlocks hP hK hD hS dX12_keep_92
    have h_47 := lp_ind (z := (fun _ _ => none)) (b := (g_X12_keep_47)) (fun (rc_47 : Int32 → kD → Option kD) => ∀ (x1_47 : Int32) (M_47 : kD) (ls : Array Slot) (H : Heap) (locs : List Loc), lv_has ls 2 [(0, .ref (ra 0)), (1, .int x1_47)] → va_P (dC, dI) vwCl (mw cB cI cJ cZ ra M_47) H → va_D (mA ra s.heap.size) (mw cB cI cJ cZ ra M_47) → va_S (mA ra s.heap.size) s.heap H locs → rc_47 x1_47 M_47 = some r → W p l e (headSpec wsX12_keep rm_X12_keep).room s m args below meth c H locs 0 0 (MQ below (mQv dC dI cB cI cJ cZ ra s.heap.size r) args s 0 0 (mA ra s.heap.size)) (F0 m 47 ls [])) (by
        intro x1_47 M_47 ls H locs hl hP hD hS hf
        cases hf) (by
        intro rc_47 ih_47 x1_47 M_47 ls H locs hl hP hD hS hf
        unfold g_X12_keep_47 at hf
        refine lv_iload_n hx hb dX12_keep_47 rfl (lv_at hl 1 rfl) ?_
        refine lv_bipush (v := 59) hx hb dX12_keep_48 (by decide) ?_
        refine lv_icmp_ge (tgt := 82) hx hb dX12_keep_50 (by decide) (fun hb7 => ?_) (fun hb7 => ?_)
        · have hf := (if_pos hb7).symm.trans hf
          exact h_82  M_47 ls _ _ (lv_sub hl [0] rfl) hP hD hS hf
        · have hf := (if_neg hb7).symm.trans hf
          refine lv_aload_n hx hb dX12_keep_53 rfl (lv_at hl 0 rfl) ?_
          refine km_get hx hb hts hin hown hK hP 20 (by decide) (v := .ref (ra 20)) k_fieldLink_RX12_50__KeyLettersModel___undone____I_ rfl dX12_keep_54 ?_
          refine lv_bipush (v := 59) hx hb dX12_keep_57 (by decide) ?_
          refine lv_aload_n hx hb dX12_keep_59 rfl (lv_at hl 0 rfl) ?_
          refine km_get hx hb hts hin hown hK hP 22 (by decide) (v := .int (M_47.1 0 22)) k_fieldLink_RX12_248__KeyLettersModel___undoMany___I_ rfl dX12_keep_60 ?_
          refine lv_imul hx hb dX12_keep_63 ?_
          refine lv_iload_n hx hb dX12_keep_64 rfl (lv_at hl 1 rfl) ?_
          refine lv_iadd hx hb dX12_keep_65 ?_
          refine lv_aload_n hx hb dX12_keep_66 rfl (lv_at hl 0 rfl) ?_
          refine km_get hx hb hts hin hown hK hP 6 (by decide) (v := .ref (ra 6)) k_fieldLink_RX12_33__KeyLettersModel___s____I_ rfl dX12_keep_67 ?_
          refine lv_bipush (v := 39) hx hb dX12_keep_70 (by decide) ?_
          refine lv_iload_n hx hb dX12_keep_72 rfl (lv_at hl 1 rfl) ?_
          refine lv_iadd hx hb dX12_keep_73 ?_
          obtain ⟨v2, ev2, hf⟩ := bd1_e hf
          refine kt_i ev2 ?_
          obtain ⟨hc3, hf⟩ := ck_e hf
          refine va_iald hx hb hK hP 2 1 rfl rfl hc3 dX12_keep_74 ?_
          obtain ⟨hc4, hf⟩ := ck_e hf
          obtain ⟨M5, eM5, hf⟩ := bd1_e hf
          refine va_iast hx hb hK hP hD hS 7 1 rfl rfl hc4 dX12_keep_75 (fun H locs hP hD hS => ?_)
          have hP : va_P (dC, dI) vwCl (mw cB cI cJ cZ ra M5) H := by rw [eM5, ← ma_20 cB cI cJ cZ ra M_47 (((59 : Int32) * (M_47.1 0 22)) + x1_47).toNatClampNeg (M_47.1 6 v2.toNatClampNeg)]; exact hP
          have hD : va_D (mA ra s.heap.size) (mw cB cI cJ cZ ra M5) := by rw [eM5, ← ma_20 cB cI cJ cZ ra M_47 (((59 : Int32) * (M_47.1 0 22)) + x1_47).toNatClampNeg (M_47.1 6 v2.toNatClampNeg)]; exact hD
          obtain ⟨v6, ev6, hf⟩ := bd1_e hf
          refine lv_iinc (k := 1) (x := x1_47) (v := v6) (nL := 2) (lv' := [(1, .int v6), (0, .ref (ra 0))]) hx hb dX12_keep_76 hl rfl (kt_inc (w := 1) (by decide) ev6) (by decide) rfl (fun ls hl => ?_)
          refine lv_goto (tgt := 47) hx hb dX12_keep_79 (by decide) ?_
          exact ih_47 v6 M5 ls _ _ (lv_sub hl [1, 0] rfl) hP hD hS hf) 2000
    refine lv_iconst (v := 0) hx hb dX12_keep_45 (by decide) ?_
    refine lv_istore_n (nL := 2) (lv' := [(1, .int (0 : Int32)), (0, .ref (ra 0))]) hx hb dX12_keep_46 rfl hl (by decide) rfl (fun ls hl => ?_)
    exact h_47 (0 : Int32) M_45 ls _ _ (lv_sub hl [1, 0] rfl) hP hD hS hf
  have h_39 : ∀ (M_39 : kD) (ls : Array Slot) (H : Heap) (locs : List Loc), lv_has ls 2 [(0, .ref (ra 0))] → va_P (dC, dI) vwCl (mw cB cI cJ cZ ra M_39) H → va_D (mA ra s.heap.size) (mw cB cI cJ cZ ra M_39) → va_S (mA ra s.heap.size) s.heap H locs → g_X12_keep_39  M_39 = some r → W p l e (headSpec wsX12_keep rm_X12_keep).room s m args below meth c H locs 0 0 (MQ below (mQv dC dI cB cI cJ cZ ra s.heap.size r) args s 0 0 (mA ra s.heap.size)) (F0 m 39 ls []) := by
    intro  M_39 ls H locs hl hP hD hS hf
    unfold g_X12_keep_39 at hf
    refine lv_aload_n hx hb dX12_keep_39 rfl (lv_at hl 0 rfl) ?_
    refine lv_bipush (v := 7) hx hb dX12_keep_40 (by decide) ?_
    obtain ⟨M8, eM8, hf⟩ := bd1_e hf
    refine km_put hx hb hts hin hown hK hP hD hS 22 (by decide) k_fieldLink_RX12_248__KeyLettersModel___undoMany___I_ rfl (ty := .int) (v := .int (7 : Int32)) (by decide +kernel) rfl rfl (M1 := M8) (by rw [eM8]; exact mo_22 cB cI cJ cZ ra M_39 (7 : Int32)) dX12_keep_42 (fun H locs hP hD hS => ?_)
    exact h_45  M8 ls _ _ hl hP hD hS hf
  have h_11 := lp_ind (z := (fun _ _ => none)) (b := (g_X12_keep_11)) (fun (rc_11 : Int32 → kD → Option kD) => ∀ (x1_11 : Int32) (M_11 : kD) (ls : Array Slot) (H : Heap) (locs : List Loc), lv_has ls 2 [(0, .ref (ra 0)), (1, .int x1_11)] → va_P (dC, dI) vwCl (mw cB cI cJ cZ ra M_11) H → va_D (mA ra s.heap.size) (mw cB cI cJ cZ ra M_11) → va_S (mA ra s.heap.size) s.heap H locs → rc_11 x1_11 M_11 = some r → W p l e (headSpec wsX12_keep rm_X12_keep).room s m args below meth c H locs 0 0 (MQ below (mQv dC dI cB cI cJ cZ ra s.heap.size r) args s 0 0 (mA ra s.heap.size)) (F0 m 11 ls [])) (by
      intro x1_11 M_11 ls H locs hl hP hD hS hf
      cases hf) (by
      intro rc_11 ih_11 x1_11 M_11 ls H locs hl hP hD hS hf
      unfold g_X12_keep_11 at hf
      refine lv_iload_n hx hb dX12_keep_11 rfl (lv_at hl 1 rfl) ?_
      refine lv_sipush (v := 413) hx hb dX12_keep_12 (by decide) ?_
      refine lv_icmp_ge (tgt := 39) hx hb dX12_keep_15 (by decide) (fun hb14 => ?_) (fun hb14 => ?_)
      · have hf := (if_pos hb14).symm.trans hf
        exact h_39  M_11 ls _ _ (lv_sub hl [0] rfl) hP hD hS hf
      · have hf := (if_neg hb14).symm.trans hf
        refine lv_aload_n hx hb dX12_keep_18 rfl (lv_at hl 0 rfl) ?_
        refine km_get hx hb hts hin hown hK hP 20 (by decide) (v := .ref (ra 20)) k_fieldLink_RX12_50__KeyLettersModel___undone____I_ rfl dX12_keep_19 ?_
        refine lv_iload_n hx hb dX12_keep_22 rfl (lv_at hl 1 rfl) ?_
        refine lv_aload_n hx hb dX12_keep_23 rfl (lv_at hl 0 rfl) ?_
        refine km_get hx hb hts hin hown hK hP 20 (by decide) (v := .ref (ra 20)) k_fieldLink_RX12_50__KeyLettersModel___undone____I_ rfl dX12_keep_24 ?_
        refine lv_iload_n hx hb dX12_keep_27 rfl (lv_at hl 1 rfl) ?_
        refine lv_bipush (v := 59) hx hb dX12_keep_28 (by decide) ?_
        refine lv_iadd hx hb dX12_keep_30 ?_
        obtain ⟨v9, ev9, hf⟩ := bd1_e hf
        refine kt_i ev9 ?_
        obtain ⟨hc10, hf⟩ := ck_e hf
        refine va_iald hx hb hK hP 7 1 rfl rfl hc10 dX12_keep_31 ?_
        obtain ⟨hc11, hf⟩ := ck_e hf
        obtain ⟨M12, eM12, hf⟩ := bd1_e hf
        refine va_iast hx hb hK hP hD hS 7 1 rfl rfl hc11 dX12_keep_32 (fun H locs hP hD hS => ?_)
        have hP : va_P (dC, dI) vwCl (mw cB cI cJ cZ ra M12) H := by rw [eM12, ← ma_20 cB cI cJ cZ ra M_11 x1_11.toNatClampNeg (M_11.1 20 v9.toNatClampNeg)]; exact hP
        have hD : va_D (mA ra s.heap.size) (mw cB cI cJ cZ ra M12) := by rw [eM12, ← ma_20 cB cI cJ cZ ra M_11 x1_11.toNatClampNeg (M_11.1 20 v9.toNatClampNeg)]; exact hD
        obtain ⟨v13, ev13, hf⟩ := bd1_e hf
        refine lv_iinc (k := 1) (x := x1_11) (v := v13) (nL := 2) (lv' := [(1, .int v13), (0, .ref (ra 0))]) hx hb dX12_keep_33 hl rfl (kt_inc (w := 1) (by decide) ev13) (by decide) rfl (fun ls hl => ?_)
        refine lv_goto (tgt := 11) hx hb dX12_keep_36 (by decide) ?_
        exact ih_11 v13 M12 ls _ _ (lv_sub hl [1, 0] rfl) hP hD hS hf) 2000
  refine lv_aload_n hx hb dX12_keep_0 rfl (lv_at hl 0 rfl) ?_
  refine km_get hx hb hts hin hown hK hP 22 (by decide) (v := .int (M.1 0 22)) k_fieldLink_RX12_248__KeyLettersModel___undoMany___I_ rfl dX12_keep_1 ?_
  refine lv_bipush (v := 8) hx hb dX12_keep_4 (by decide) ?_
  refine lv_icmp_ne (tgt := 45) hx hb dX12_keep_6 (by decide) (fun hb15 => ?_) (fun hb15 => ?_)
  · have hf := (if_neg hb15).symm.trans hf
    exact h_45  M ls _ _ hl hP hD hS hf
  · have hf := (if_pos hb15).symm.trans hf
    refine lv_iconst (v := 0) hx hb dX12_keep_9 (by decide) ?_
    refine lv_istore_n (nL := 2) (lv' := [(1, .int (0 : Int32)), (0, .ref (ra 0))]) hx hb dX12_keep_10 rfl hl (by decide) rfl (fun ls hl => ?_)
    exact h_11 (0 : Int32) M ls _ _ (lv_sub hl [1, 0] rfl) hP hD hS hf

abbrev rm_X12_write : Room := { frames := 3, cells := 0, slots := 0, locals := 65 }
set_option maxHeartbeats 4000000 in
set_option maxRecDepth 100000 in
theorem c_X12_write (l : Launch) (dC : Nat → ClassId) (dI : Nat → Nat → Nat) (cB cI cJ cZ : ClassId) (ra : Nat → Nat) (sz : Nat) (M : kD) (a0 : Int32) (a1 : Int32) (r : (Int32 × kD)) (hf : f_X12_write a0 a1 M = some r) : Met l yX12_write wsX12_write rm_X12_write (va_Pc [.ref (ra 0), .int a0, .int a1] (mPw dC dI cB cI cJ cZ ra sz M)) (mQi dC dI cB cI cJ cZ ra sz r) 0 0 (mA ra sz) := by
  refine Met.ofW (cc := cX12_write) (maxL := 4) (ret := (some .int)) (by decide) rfl ?_
  intro p e s m args below meth c s₁ B hml hv
  obtain ⟨hav, hsz, hP, hK, hD0⟩ := hv
  have hx := B.exec
  have hb := B.bytes
  have hr := B.returns
  have hts := atoms_spec (ws := wsX12_write) B.pre
  have hown : s.vm.findClass RX12 = some m.cls := findClass_of_methodNamed B.named
  have hlocks := B.notSynchronized
  subst hsz
  have hA : ∀ q, s.heap.size ≤ q → mA ra s.heap.size q := fun q h => Or.inr h
  have hD : va_D (mA ra s.heap.size) (mw cB cI cJ cZ ra M) := hD0.weaken (fun k q h _ => mA_in h)
  have hS : va_S (mA ra s.heap.size) s.heap s.heap [] := va_S.rf
  have hin : ∀ w ∈ wsX120, w ∈ wsX12_write := fun w h => List.mem_cons_of_mem _ (List.mem_append_right _ h)
  have k_fieldLink_RX12_1__KeyLettersModel___thrown___I_ := hts (.fieldLink RX12 1 "KeyLettersModel" "thrown" "I") (by decide +kernel)
  have hl := lv_entry ([.ref (ra 0), .int a0, .int a1]) (n := 4) (Nat.le_of_ble_eq_true rfl)
  rw [show entryFrame m args 4 = entryFrame m ([.ref (ra 0), .int a0, .int a1] : List Value).toArray 4 from by rw [hav], lg_entry_eq]
  generalize (lg_sl ([.ref (ra 0), .int a0, .int a1]) ++ List.replicate (4 - (lg_sl ([.ref (ra 0), .int a0, .int a1])).length) Slot.unset).toArray = ls at hl ⊢
  have hl : lv_has ls 4 [(0, .ref (ra 0)), (1, .int a0), (2, .int a1)] := hl
  unfold f_X12_write at hf
  refine lv_aload_n hx hb dX12_write_0 rfl (lv_at hl 0 rfl) ?_
  refine lv_iconst (v := 0) hx hb dX12_write_1 (by decide) ?_
  obtain ⟨M1, eM1, hf⟩ := bd1_e hf
  refine km_put hx hb hts hin hown hK hP hD hS 0 (by decide) k_fieldLink_RX12_1__KeyLettersModel___thrown___I_ rfl (ty := .int) (v := .int (0 : Int32)) (by decide +kernel) rfl rfl (M1 := M1) (by rw [eM1]; exact mo_0 cB cI cJ cZ ra M (0 : Int32)) dX12_write_2 (fun H locs hP hD hS => ?_)
  refine lv_aload_n hx hb dX12_write_5 rfl (lv_at hl 0 rfl) ?_
  refine lv_iload_n hx hb dX12_write_6 rfl (lv_at hl 1 rfl) ?_
  obtain ⟨v2, hq3, hf⟩ := bo_e hf
  refine ko_call (v := some (.int v2)) (km_run (As := [.int a0]) (rest := []) ⟨hx, hb, hml, hown, hts⟩ (c_X12_isMachine l dC dI cB cI cJ cZ ra M1 a0 v2 hq3) (cwV 1 hts gX12_write_X12_isMachine rfl rfl rfl (by decide +kernel) ⟨Nat.le_of_ble_eq_true rfl, Nat.le_of_ble_eq_true rfl⟩) hK hP (fun _ _ _ _ => mPr_bl) (fun U hU hW => ⟨by rw [hU]; exact hP, va_K.moved hW.alike hK⟩) rfl rfl hl.1 rfl (lv_room (Nat.le_of_ble_eq_true rfl)) dX12_write_7 ⟨Nat.le_refl _, Nat.le_refl _⟩) ?_
  refine lv_if_eq (tgt := 21) hx hb dX12_write_10 (by decide) (fun hb14 => ?_) (fun hb14 => ?_)
  · have hf := (if_pos hb14).symm.trans hf
    refine lv_iconst (v := -1) hx hb dX12_write_21 (by decide) ?_
    have hf := Option.some.inj hf
    subst hf
    exact m_iret hx hb hr hlocks hP hK hD hS dX12_write_22
  · have hf := (if_neg hb14).symm.trans hf
    refine lv_aload_n hx hb dX12_write_13 rfl (lv_at hl 0 rfl) ?_
    refine lv_iload_n hx hb dX12_write_14 rfl (lv_at hl 2 rfl) ?_
    obtain ⟨v4, hq5, hf⟩ := bo_e hf
    refine ko_call (v := some (.int v4)) (km_run (As := [.int a1]) (rest := []) ⟨hx, hb, hml, hown, hts⟩ (c_X12_isPhrase l dC dI cB cI cJ cZ ra M1 a1 v4 hq5) (cwV 1 hts gX12_write_X12_isPhrase rfl rfl rfl (by decide +kernel) ⟨Nat.le_of_ble_eq_true rfl, Nat.le_of_ble_eq_true rfl⟩) hK hP (fun _ _ _ _ => mPr_bl) (fun U hU hW => ⟨by rw [hU]; exact hP, va_K.moved hW.alike hK⟩) rfl rfl hl.1 rfl (lv_room (Nat.le_of_ble_eq_true rfl)) dX12_write_15 ⟨Nat.le_refl _, Nat.le_refl _⟩) ?_
    refine lv_if_ne (tgt := 23) hx hb dX12_write_18 (by decide) (fun hb13 => ?_) (fun hb13 => ?_)
    · have hf := (if_neg hb13).symm.trans hf
      refine lv_aload_n hx hb dX12_write_23 rfl (lv_at hl 0 rfl) ?_
      refine lv_iload_n hx hb dX12_write_24 rfl (lv_at hl 1 rfl) ?_
      refine lv_iload_n hx hb dX12_write_25 rfl (lv_at hl 2 rfl) ?_
      obtain ⟨v6, hq7, hf⟩ := bo_e hf
      refine ko_call (v := some (.int v6)) (km_run (As := [.int a0, .int a1]) (rest := []) ⟨hx, hb, hml, hown, hts⟩ (c_X12_whyWrite l dC dI cB cI cJ cZ ra M1 a0 a1 v6 hq7) (cwV 2 hts gX12_write_X12_whyWrite rfl rfl rfl (by decide +kernel) ⟨Nat.le_of_ble_eq_true rfl, Nat.le_of_ble_eq_true rfl⟩) hK hP (fun _ _ _ _ => mPr_bl) (fun U hU hW => ⟨by rw [hU]; exact hP, va_K.moved hW.alike hK⟩) rfl rfl hl.1 rfl (lv_room (Nat.le_of_ble_eq_true rfl)) dX12_write_26 ⟨Nat.le_refl _, Nat.le_refl _⟩) ?_
      refine lv_istore_n (nL := 4) (lv' := [(3, .int v6), (0, .ref (ra 0)), (1, .int a0), (2, .int a1)]) hx hb dX12_write_29 rfl hl (by decide) rfl (fun ls hl => ?_)
      refine lv_iload_n hx hb dX12_write_30 rfl (lv_at hl 0 rfl) ?_
      refine lv_if_le (tgt := 36) hx hb dX12_write_31 (by decide) (fun hb12 => ?_) (fun hb12 => ?_)
      · have hf := (if_pos hb12).symm.trans hf
        refine lv_aload_n hx hb dX12_write_36 rfl (lv_at hl 1 rfl) ?_
        obtain ⟨M8, hq9, hf⟩ := bo_e hf
        refine km_callwv (M1 := M8) (km_run (As := []) (rest := []) ⟨hx, hb, hml, hown, hts⟩ (c_X12_keep l dC dI cB cI cJ cZ ra _ M1  M8 hq9) (cwV 0 hts gX12_write_X12_keep rfl rfl rfl (by decide +kernel) ⟨Nat.le_of_ble_eq_true rfl, Nat.le_of_ble_eq_true rfl⟩) hK hP (fun _ _ _ _ => mPw_bl) (fun U hU hW => ⟨by rw [hU], by rw [hU]; exact hP, va_K.moved hW.alike hK, hD.weaken (fun _ _ _ _ => trivial)⟩) rfl rfl hl.1 rfl (lv_room (Nat.le_of_ble_eq_true rfl)) dX12_write_37 ⟨Nat.le_refl _, Nat.le_refl _⟩) hD hS hA (fun H locs hP hD hS => ?_)
        refine lv_aload_n hx hb dX12_write_40 rfl (lv_at hl 1 rfl) ?_
        refine lv_iload_n hx hb dX12_write_41 rfl (lv_at hl 2 rfl) ?_
        refine lv_iload_n hx hb dX12_write_42 rfl (lv_at hl 3 rfl) ?_
        obtain ⟨M10, hq11, hf⟩ := bo_e hf
        refine km_callwv (M1 := M10) (km_run (As := [.int a0, .int a1]) (rest := []) ⟨hx, hb, hml, hown, hts⟩ (c_X12_types l dC dI cB cI cJ cZ ra _ M8 a0 a1 M10 hq11) (cwV 2 hts gX12_write_X12_types rfl rfl rfl (by decide +kernel) ⟨Nat.le_of_ble_eq_true rfl, Nat.le_of_ble_eq_true rfl⟩) hK hP (fun _ _ _ _ => mPw_bl) (fun U hU hW => ⟨by rw [hU], by rw [hU]; exact hP, va_K.moved hW.alike hK, hD.weaken (fun _ _ _ _ => trivial)⟩) rfl rfl hl.1 rfl (lv_room (Nat.le_of_ble_eq_true rfl)) dX12_write_43 ⟨Nat.le_refl _, Nat.le_refl _⟩) hD hS hA (fun H locs hP hD hS => ?_)
        refine lv_iconst (v := 0) hx hb dX12_write_46 (by decide) ?_
        have hf := Option.some.inj hf
        subst hf
        exact m_iret hx hb hr hlocks hP hK hD hS dX12_write_47
      · have hf := (if_neg hb12).symm.trans hf
        refine lv_iload_n hx hb dX12_write_34 rfl (lv_at hl 0 rfl) ?_
        have hf := Option.some.inj hf
        subst hf
        exact m_iret hx hb hr hlocks hP hK hD hS dX12_write_35
    · have hf := (if_pos hb13).symm.trans hf
      refine lv_iconst (v := -1) hx hb dX12_write_21 (by decide) ?_
      have hf := Option.some.inj hf
      subst hf
      exact m_iret hx hb hr hlocks hP hK hD hS dX12_write_22

abbrev rm_X12_turns : Room := { frames := 2, cells := 0, slots := 0, locals := 43 }
set_option maxHeartbeats 4000000 in
set_option maxRecDepth 100000 in
theorem c_X12_turns (l : Launch) (dC : Nat → ClassId) (dI : Nat → Nat → Nat) (cB cI cJ cZ : ClassId) (ra : Nat → Nat) (sz : Nat) (M : kD) (a0 : Int32) (a1 : Int32) (r : (Int32 × kD)) (hf : f_X12_turns a0 a1 M = some r) : Met l yX12_turns wsX12_turns rm_X12_turns (va_Pc [.ref (ra 0), .int a0, .int a1] (mPw dC dI cB cI cJ cZ ra sz M)) (mQi dC dI cB cI cJ cZ ra sz r) 0 0 (mA ra sz) := by
  refine Met.ofW (cc := cX12_turns) (maxL := 3) (ret := (some .int)) (by decide) rfl ?_
  intro p e s m args below meth c s₁ B hml hv
  obtain ⟨hav, hsz, hP, hK, hD0⟩ := hv
  have hx := B.exec
  have hb := B.bytes
  have hr := B.returns
  have hts := atoms_spec (ws := wsX12_turns) B.pre
  have hown : s.vm.findClass RX12 = some m.cls := findClass_of_methodNamed B.named
  have hlocks := B.notSynchronized
  subst hsz
  have hA : ∀ q, s.heap.size ≤ q → mA ra s.heap.size q := fun q h => Or.inr h
  have hD : va_D (mA ra s.heap.size) (mw cB cI cJ cZ ra M) := hD0.weaken (fun k q h _ => mA_in h)
  have hS : va_S (mA ra s.heap.size) s.heap s.heap [] := va_S.rf
  have hin : ∀ w ∈ wsX120, w ∈ wsX12_turns := fun w h => List.mem_cons_of_mem _ (List.mem_append_right _ h)
  have k_fieldLink_RX12_1__KeyLettersModel___thrown___I_ := hts (.fieldLink RX12 1 "KeyLettersModel" "thrown" "I") (by decide +kernel)
  have k_fieldLink_RX12_33__KeyLettersModel___s____I_ := hts (.fieldLink RX12 33 "KeyLettersModel" "s" "[I") (by decide +kernel)
  have hl := lv_entry ([.ref (ra 0), .int a0, .int a1]) (n := 3) (Nat.le_of_ble_eq_true rfl)
  rw [show entryFrame m args 3 = entryFrame m ([.ref (ra 0), .int a0, .int a1] : List Value).toArray 3 from by rw [hav], lg_entry_eq]
  generalize (lg_sl ([.ref (ra 0), .int a0, .int a1]) ++ List.replicate (3 - (lg_sl ([.ref (ra 0), .int a0, .int a1])).length) Slot.unset).toArray = ls at hl ⊢
  have hl : lv_has ls 3 [(0, .ref (ra 0)), (1, .int a0), (2, .int a1)] := hl
  unfold f_X12_turns at hf
  refine lv_aload_n hx hb dX12_turns_0 rfl (lv_at hl 0 rfl) ?_
  refine lv_iconst (v := 0) hx hb dX12_turns_1 (by decide) ?_
  obtain ⟨M1, eM1, hf⟩ := bd1_e hf
  refine km_put hx hb hts hin hown hK hP hD hS 0 (by decide) k_fieldLink_RX12_1__KeyLettersModel___thrown___I_ rfl (ty := .int) (v := .int (0 : Int32)) (by decide +kernel) rfl rfl (M1 := M1) (by rw [eM1]; exact mo_0 cB cI cJ cZ ra M (0 : Int32)) dX12_turns_2 (fun H locs hP hD hS => ?_)
  refine lv_aload_n hx hb dX12_turns_5 rfl (lv_at hl 0 rfl) ?_
  refine lv_iload_n hx hb dX12_turns_6 rfl (lv_at hl 1 rfl) ?_
  obtain ⟨v2, hq3, hf⟩ := bo_e hf
  refine ko_call (v := some (.int v2)) (km_run (As := [.int a0]) (rest := []) ⟨hx, hb, hml, hown, hts⟩ (c_X12_isMachine l dC dI cB cI cJ cZ ra M1 a0 v2 hq3) (cwV 1 hts gX12_turns_X12_isMachine rfl rfl rfl (by decide +kernel) ⟨Nat.le_of_ble_eq_true rfl, Nat.le_of_ble_eq_true rfl⟩) hK hP (fun _ _ _ _ => mPr_bl) (fun U hU hW => ⟨by rw [hU]; exact hP, va_K.moved hW.alike hK⟩) rfl rfl hl.1 rfl (lv_room (Nat.le_of_ble_eq_true rfl)) dX12_turns_7 ⟨Nat.le_refl _, Nat.le_refl _⟩) ?_
  refine lv_if_ne (tgt := 15) hx hb dX12_turns_10 (by decide) (fun hb10 => ?_) (fun hb10 => ?_)
  · have hf := (if_neg hb10).symm.trans hf
    refine lv_aload_n hx hb dX12_turns_15 rfl (lv_at hl 0 rfl) ?_
    refine lv_iload_n hx hb dX12_turns_16 rfl (lv_at hl 1 rfl) ?_
    obtain ⟨v4, hq5, hf⟩ := bo_e hf
    refine ko_call (v := some (.int v4)) (km_run (As := [.int a0]) (rest := []) ⟨hx, hb, hml, hown, hts⟩ (c_X12_isHeld l dC dI cB cI cJ cZ ra M1 a0 v4 hq5) (cwV 1 hts gX12_turns_X12_isHeld rfl rfl rfl (by decide +kernel) ⟨Nat.le_of_ble_eq_true rfl, Nat.le_of_ble_eq_true rfl⟩) hK hP (fun _ _ _ _ => mPr_bl) (fun U hU hW => ⟨by rw [hU]; exact hP, va_K.moved hW.alike hK⟩) rfl rfl hl.1 rfl (lv_room (Nat.le_of_ble_eq_true rfl)) dX12_turns_17 ⟨Nat.le_refl _, Nat.le_refl _⟩) ?_
    refine lv_iload_n hx hb dX12_turns_20 rfl (lv_at hl 2 rfl) ?_
    refine lv_icmp_ne (tgt := 26) hx hb dX12_turns_21 (by decide) (fun hb9 => ?_) (fun hb9 => ?_)
    · have hf := (if_neg hb9).symm.trans hf
      refine lv_aload_n hx hb dX12_turns_26 rfl (lv_at hl 0 rfl) ?_
      obtain ⟨M6, hq7, hf⟩ := bo_e hf
      refine km_callwv (M1 := M6) (km_run (As := []) (rest := []) ⟨hx, hb, hml, hown, hts⟩ (c_X12_keep l dC dI cB cI cJ cZ ra _ M1  M6 hq7) (cwV 0 hts gX12_turns_X12_keep rfl rfl rfl (by decide +kernel) ⟨Nat.le_of_ble_eq_true rfl, Nat.le_of_ble_eq_true rfl⟩) hK hP (fun _ _ _ _ => mPw_bl) (fun U hU hW => ⟨by rw [hU], by rw [hU]; exact hP, va_K.moved hW.alike hK, hD.weaken (fun _ _ _ _ => trivial)⟩) rfl rfl hl.1 rfl (lv_room (Nat.le_of_ble_eq_true rfl)) dX12_turns_27 ⟨Nat.le_refl _, Nat.le_refl _⟩) hD hS hA (fun H locs hP hD hS => ?_)
      refine lv_aload_n hx hb dX12_turns_30 rfl (lv_at hl 0 rfl) ?_
      refine km_get hx hb hts hin hown hK hP 6 (by decide) (v := .ref (ra 6)) k_fieldLink_RX12_33__KeyLettersModel___s____I_ rfl dX12_turns_31 ?_
      refine lv_bipush (v := 42) hx hb dX12_turns_34 (by decide) ?_
      refine lv_dup2_11 hx hb dX12_turns_36 rfl rfl ?_
      refine va_iald hx hb hK hP 2 1 rfl rfl (show ¬ ((42 : Int32) < 0 ∨ 279 ≤ (42 : Int32).toNatClampNeg) by decide +kernel) dX12_turns_37 ?_
      refine lv_iconst (v := 1) hx hb dX12_turns_38 (by decide) ?_
      refine lv_iload_n hx hb dX12_turns_39 rfl (lv_at hl 1 rfl) ?_
      refine lv_ishl hx hb dX12_turns_40 ?_
      refine lv_ixor hx hb dX12_turns_41 ?_
      obtain ⟨M8, eM8, hf⟩ := bd1_e hf
      refine va_iast hx hb hK hP hD hS 2 1 rfl rfl (show ¬ ((42 : Int32) < 0 ∨ 279 ≤ (42 : Int32).toNatClampNeg) by decide +kernel) dX12_turns_42 (fun H locs hP hD hS => ?_)
      have hP : va_P (dC, dI) vwCl (mw cB cI cJ cZ ra M8) H := by rw [eM8, ← ma_6 cB cI cJ cZ ra M6 (42 : Int32).toNatClampNeg ((M6.1 6 (42 : Int32).toNatClampNeg) ^^^ ((1 : Int32) <<< (a0 &&& 31)))]; exact hP
      have hD : va_D (mA ra s.heap.size) (mw cB cI cJ cZ ra M8) := by rw [eM8, ← ma_6 cB cI cJ cZ ra M6 (42 : Int32).toNatClampNeg ((M6.1 6 (42 : Int32).toNatClampNeg) ^^^ ((1 : Int32) <<< (a0 &&& 31)))]; exact hD
      refine lv_iconst (v := 0) hx hb dX12_turns_43 (by decide) ?_
      have hf := Option.some.inj hf
      subst hf
      exact m_iret hx hb hr hlocks hP hK hD hS dX12_turns_44
    · have hf := (if_pos hb9).symm.trans hf
      refine lv_iconst (v := 1) hx hb dX12_turns_24 (by decide) ?_
      have hf := Option.some.inj hf
      subst hf
      exact m_iret hx hb hr hlocks hP hK hD hS dX12_turns_25
  · have hf := (if_pos hb10).symm.trans hf
    refine lv_iconst (v := -1) hx hb dX12_turns_13 (by decide) ?_
    have hf := Option.some.inj hf
    subst hf
    exact m_iret hx hb hr hlocks hP hK hD hS dX12_turns_14

abbrev rm_X12_sit : Room := { frames := 3, cells := 0, slots := 0, locals := 65 }
set_option maxHeartbeats 4000000 in
set_option maxRecDepth 100000 in
theorem c_X12_sit (l : Launch) (dC : Nat → ClassId) (dI : Nat → Nat → Nat) (cB cI cJ cZ : ClassId) (ra : Nat → Nat) (sz : Nat) (M : kD) (a0 : Int32) (r : (Int32 × kD)) (hf : f_X12_sit a0 M = some r) : Met l yX12_sit wsX12_sit rm_X12_sit (va_Pc [.ref (ra 0), .int a0] (mPw dC dI cB cI cJ cZ ra sz M)) (mQi dC dI cB cI cJ cZ ra sz r) 0 0 (mA ra sz) := by
  refine Met.ofW (cc := cX12_sit) (maxL := 2) (ret := (some .int)) (by decide) rfl ?_
  intro p e s m args below meth c s₁ B hml hv
  obtain ⟨hav, hsz, hP, hK, hD0⟩ := hv
  have hx := B.exec
  have hb := B.bytes
  have hr := B.returns
  have hts := atoms_spec (ws := wsX12_sit) B.pre
  have hown : s.vm.findClass RX12 = some m.cls := findClass_of_methodNamed B.named
  have hlocks := B.notSynchronized
  subst hsz
  have hA : ∀ q, s.heap.size ≤ q → mA ra s.heap.size q := fun q h => Or.inr h
  have hD : va_D (mA ra s.heap.size) (mw cB cI cJ cZ ra M) := hD0.weaken (fun k q h _ => mA_in h)
  have hS : va_S (mA ra s.heap.size) s.heap s.heap [] := va_S.rf
  have hin : ∀ w ∈ wsX120, w ∈ wsX12_sit := fun w h => List.mem_cons_of_mem _ (List.mem_append_right _ h)
  have hl := lv_entry ([.ref (ra 0), .int a0]) (n := 2) (Nat.le_of_ble_eq_true rfl)
  rw [show entryFrame m args 2 = entryFrame m ([.ref (ra 0), .int a0] : List Value).toArray 2 from by rw [hav], lg_entry_eq]
  generalize (lg_sl ([.ref (ra 0), .int a0]) ++ List.replicate (2 - (lg_sl ([.ref (ra 0), .int a0])).length) Slot.unset).toArray = ls at hl ⊢
  have hl : lv_has ls 2 [(0, .ref (ra 0)), (1, .int a0)] := hl
  unfold f_X12_sit at hf
  refine lv_aload_n hx hb dX12_sit_0 rfl (lv_at hl 0 rfl) ?_
  refine lv_iload_n hx hb dX12_sit_1 rfl (lv_at hl 1 rfl) ?_
  refine lv_iconst (v := 1) hx hb dX12_sit_2 (by decide) ?_
  obtain ⟨v2, M1, hq3, hf⟩ := bo2_e hf
  refine km_callw (v := v2) (M1 := M1) rfl (km_run (As := [.int a0, .int (1 : Int32)]) (rest := []) ⟨hx, hb, hml, hown, hts⟩ (c_X12_turns l dC dI cB cI cJ cZ ra _ M a0 (1 : Int32) (v2, M1) hq3) (cwV 2 hts gX12_sit_X12_turns rfl rfl rfl (by decide +kernel) ⟨Nat.le_of_ble_eq_true rfl, Nat.le_of_ble_eq_true rfl⟩) hK hP (fun _ _ _ _ => mPw_bl) (fun U hU hW => ⟨by rw [hU], by rw [hU]; exact hP, va_K.moved hW.alike hK, hD.weaken (fun _ _ _ _ => trivial)⟩) rfl rfl hl.1 rfl (lv_room (Nat.le_of_ble_eq_true rfl)) dX12_sit_3 ⟨Nat.le_refl _, Nat.le_refl _⟩) hD hS hA (fun H locs hP hD hS => ?_)
  have hf := Option.some.inj hf
  subst hf
  exact m_iret hx hb hr hlocks hP hK hD hS dX12_sit_6

abbrev rm_X12_leave : Room := { frames := 3, cells := 0, slots := 0, locals := 65 }
set_option maxHeartbeats 4000000 in
set_option maxRecDepth 100000 in
theorem c_X12_leave (l : Launch) (dC : Nat → ClassId) (dI : Nat → Nat → Nat) (cB cI cJ cZ : ClassId) (ra : Nat → Nat) (sz : Nat) (M : kD) (a0 : Int32) (r : (Int32 × kD)) (hf : f_X12_leave a0 M = some r) : Met l yX12_leave wsX12_leave rm_X12_leave (va_Pc [.ref (ra 0), .int a0] (mPw dC dI cB cI cJ cZ ra sz M)) (mQi dC dI cB cI cJ cZ ra sz r) 0 0 (mA ra sz) := by
  refine Met.ofW (cc := cX12_leave) (maxL := 2) (ret := (some .int)) (by decide) rfl ?_
  intro p e s m args below meth c s₁ B hml hv
  obtain ⟨hav, hsz, hP, hK, hD0⟩ := hv
  have hx := B.exec
  have hb := B.bytes
  have hr := B.returns
  have hts := atoms_spec (ws := wsX12_leave) B.pre
  have hown : s.vm.findClass RX12 = some m.cls := findClass_of_methodNamed B.named
  have hlocks := B.notSynchronized
  subst hsz
  have hA : ∀ q, s.heap.size ≤ q → mA ra s.heap.size q := fun q h => Or.inr h
  have hD : va_D (mA ra s.heap.size) (mw cB cI cJ cZ ra M) := hD0.weaken (fun k q h _ => mA_in h)
  have hS : va_S (mA ra s.heap.size) s.heap s.heap [] := va_S.rf
  have hin : ∀ w ∈ wsX120, w ∈ wsX12_leave := fun w h => List.mem_cons_of_mem _ (List.mem_append_right _ h)
  have hl := lv_entry ([.ref (ra 0), .int a0]) (n := 2) (Nat.le_of_ble_eq_true rfl)
  rw [show entryFrame m args 2 = entryFrame m ([.ref (ra 0), .int a0] : List Value).toArray 2 from by rw [hav], lg_entry_eq]
  generalize (lg_sl ([.ref (ra 0), .int a0]) ++ List.replicate (2 - (lg_sl ([.ref (ra 0), .int a0])).length) Slot.unset).toArray = ls at hl ⊢
  have hl : lv_has ls 2 [(0, .ref (ra 0)), (1, .int a0)] := hl
  unfold f_X12_leave at hf
  refine lv_aload_n hx hb dX12_leave_0 rfl (lv_at hl 0 rfl) ?_
  refine lv_iload_n hx hb dX12_leave_1 rfl (lv_at hl 1 rfl) ?_
  refine lv_iconst (v := 0) hx hb dX12_leave_2 (by decide) ?_
  obtain ⟨v2, M1, hq3, hf⟩ := bo2_e hf
  refine km_callw (v := v2) (M1 := M1) rfl (km_run (As := [.int a0, .int (0 : Int32)]) (rest := []) ⟨hx, hb, hml, hown, hts⟩ (c_X12_turns l dC dI cB cI cJ cZ ra _ M a0 (0 : Int32) (v2, M1) hq3) (cwV 2 hts gX12_leave_X12_turns rfl rfl rfl (by decide +kernel) ⟨Nat.le_of_ble_eq_true rfl, Nat.le_of_ble_eq_true rfl⟩) hK hP (fun _ _ _ _ => mPw_bl) (fun U hU hW => ⟨by rw [hU], by rw [hU]; exact hP, va_K.moved hW.alike hK, hD.weaken (fun _ _ _ _ => trivial)⟩) rfl rfl hl.1 rfl (lv_room (Nat.le_of_ble_eq_true rfl)) dX12_leave_3 ⟨Nat.le_refl _, Nat.le_refl _⟩) hD hS hA (fun H locs hP hD hS => ?_)
  have hf := Option.some.inj hf
  subst hf
  exact m_iret hx hb hr hlocks hP hK hD hS dX12_leave_6

abbrev rm_X12_ribbon : Room := { frames := 2, cells := 0, slots := 0, locals := 43 }
set_option maxHeartbeats 4000000 in
set_option maxRecDepth 100000 in
theorem c_X12_ribbon (l : Launch) (dC : Nat → ClassId) (dI : Nat → Nat → Nat) (cB cI cJ cZ : ClassId) (ra : Nat → Nat) (sz : Nat) (M : kD) (a0 : Int32) (a1 : Int32) (r : (Int32 × kD)) (hf : f_X12_ribbon a0 a1 M = some r) : Met l yX12_ribbon wsX12_ribbon rm_X12_ribbon (va_Pc [.ref (ra 0), .int a0, .int a1] (mPw dC dI cB cI cJ cZ ra sz M)) (mQi dC dI cB cI cJ cZ ra sz r) 0 0 (mA ra sz) := by
  refine Met.ofW (cc := cX12_ribbon) (maxL := 3) (ret := (some .int)) (by decide) rfl ?_
  intro p e s m args below meth c s₁ B hml hv
  obtain ⟨hav, hsz, hP, hK, hD0⟩ := hv
  have hx := B.exec
  have hb := B.bytes
  have hr := B.returns
  have hts := atoms_spec (ws := wsX12_ribbon) B.pre
  have hown : s.vm.findClass RX12 = some m.cls := findClass_of_methodNamed B.named
  have hlocks := B.notSynchronized
  subst hsz
  have hA : ∀ q, s.heap.size ≤ q → mA ra s.heap.size q := fun q h => Or.inr h
  have hD : va_D (mA ra s.heap.size) (mw cB cI cJ cZ ra M) := hD0.weaken (fun k q h _ => mA_in h)
  have hS : va_S (mA ra s.heap.size) s.heap s.heap [] := va_S.rf
  have hin : ∀ w ∈ wsX120, w ∈ wsX12_ribbon := fun w h => List.mem_cons_of_mem _ (List.mem_append_right _ h)
  have k_fieldLink_RX12_1__KeyLettersModel___thrown___I_ := hts (.fieldLink RX12 1 "KeyLettersModel" "thrown" "I") (by decide +kernel)
  have k_fieldLink_RX12_33__KeyLettersModel___s____I_ := hts (.fieldLink RX12 33 "KeyLettersModel" "s" "[I") (by decide +kernel)
  have hl := lv_entry ([.ref (ra 0), .int a0, .int a1]) (n := 3) (Nat.le_of_ble_eq_true rfl)
  rw [show entryFrame m args 3 = entryFrame m ([.ref (ra 0), .int a0, .int a1] : List Value).toArray 3 from by rw [hav], lg_entry_eq]
  generalize (lg_sl ([.ref (ra 0), .int a0, .int a1]) ++ List.replicate (3 - (lg_sl ([.ref (ra 0), .int a0, .int a1])).length) Slot.unset).toArray = ls at hl ⊢
  have hl : lv_has ls 3 [(0, .ref (ra 0)), (1, .int a0), (2, .int a1)] := hl
  unfold f_X12_ribbon at hf
  refine lv_aload_n hx hb dX12_ribbon_0 rfl (lv_at hl 0 rfl) ?_
  refine lv_iconst (v := 0) hx hb dX12_ribbon_1 (by decide) ?_
  obtain ⟨M1, eM1, hf⟩ := bd1_e hf
  refine km_put hx hb hts hin hown hK hP hD hS 0 (by decide) k_fieldLink_RX12_1__KeyLettersModel___thrown___I_ rfl (ty := .int) (v := .int (0 : Int32)) (by decide +kernel) rfl rfl (M1 := M1) (by rw [eM1]; exact mo_0 cB cI cJ cZ ra M (0 : Int32)) dX12_ribbon_2 (fun H locs hP hD hS => ?_)
  refine lv_aload_n hx hb dX12_ribbon_5 rfl (lv_at hl 0 rfl) ?_
  refine lv_iload_n hx hb dX12_ribbon_6 rfl (lv_at hl 1 rfl) ?_
  obtain ⟨v2, hq3, hf⟩ := bo_e hf
  refine ko_call (v := some (.int v2)) (km_run (As := [.int a0]) (rest := []) ⟨hx, hb, hml, hown, hts⟩ (c_X12_isMachine l dC dI cB cI cJ cZ ra M1 a0 v2 hq3) (cwV 1 hts gX12_ribbon_X12_isMachine rfl rfl rfl (by decide +kernel) ⟨Nat.le_of_ble_eq_true rfl, Nat.le_of_ble_eq_true rfl⟩) hK hP (fun _ _ _ _ => mPr_bl) (fun U hU hW => ⟨by rw [hU]; exact hP, va_K.moved hW.alike hK⟩) rfl rfl hl.1 rfl (lv_room (Nat.le_of_ble_eq_true rfl)) dX12_ribbon_7 ⟨Nat.le_refl _, Nat.le_refl _⟩) ?_
  refine lv_if_eq (tgt := 24) hx hb dX12_ribbon_10 (by decide) (fun hb12 => ?_) (fun hb12 => ?_)
  · have hf := (if_pos hb12).symm.trans hf
    refine lv_iconst (v := -1) hx hb dX12_ribbon_24 (by decide) ?_
    have hf := Option.some.inj hf
    subst hf
    exact m_iret hx hb hr hlocks hP hK hD hS dX12_ribbon_25
  · have hf := (if_neg hb12).symm.trans hf
    refine lv_iload_n hx hb dX12_ribbon_13 rfl (lv_at hl 2 rfl) ?_
    refine lv_iconst (v := 1) hx hb dX12_ribbon_14 (by decide) ?_
    refine lv_sipush (v := 999) hx hb dX12_ribbon_15 (by decide) ?_
    refine ko_call (v := some (.int (f_X12_isIn a1 (1 : Int32) (999 : Int32)))) (va_runS (As := [.int a1, .int (1 : Int32), .int (999 : Int32)]) (rest := []) ⟨hx, hb, hml, hown, hts⟩ (c_X12_isIn l a1 (1 : Int32) (999 : Int32) _ rfl) (va_cwS 3 hts gX12_ribbon_X12_isIn rfl rfl rfl (by decide +kernel) ⟨Nat.le_of_ble_eq_true rfl, Nat.le_of_ble_eq_true rfl⟩) ⟨fun a U g mk q => q, fun U hU hW => ⟨rfl, trivial⟩⟩ rfl rfl hl.1 rfl (lv_room (Nat.le_of_ble_eq_true rfl)) dX12_ribbon_18 ⟨Nat.le_refl _, Nat.le_refl _⟩) ?_
    refine lv_if_ne (tgt := 26) hx hb dX12_ribbon_21 (by decide) (fun hb11 => ?_) (fun hb11 => ?_)
    · have hf := (if_neg hb11).symm.trans hf
      refine lv_aload_n hx hb dX12_ribbon_26 rfl (lv_at hl 0 rfl) ?_
      refine km_get hx hb hts hin hown hK hP 6 (by decide) (v := .ref (ra 6)) k_fieldLink_RX12_33__KeyLettersModel___s____I_ rfl dX12_ribbon_27 ?_
      refine lv_bipush (v := 44) hx hb dX12_ribbon_30 (by decide) ?_
      refine lv_iload_n hx hb dX12_ribbon_32 rfl (lv_at hl 1 rfl) ?_
      refine lv_iadd hx hb dX12_ribbon_33 ?_
      obtain ⟨v4, ev4, hf⟩ := bd1_e hf
      refine kt_i ev4 ?_
      obtain ⟨hc5, hf⟩ := ck_e hf
      refine va_iald hx hb hK hP 2 1 rfl rfl hc5 dX12_ribbon_34 ?_
      refine lv_iload_n hx hb dX12_ribbon_35 rfl (lv_at hl 2 rfl) ?_
      refine lv_icmp_lt (tgt := 41) hx hb dX12_ribbon_36 (by decide) (fun hb10 => ?_) (fun hb10 => ?_)
      · have hf := (if_pos hb10).symm.trans hf
        refine lv_aload_n hx hb dX12_ribbon_41 rfl (lv_at hl 0 rfl) ?_
        obtain ⟨M6, hq7, hf⟩ := bo_e hf
        refine km_callwv (M1 := M6) (km_run (As := []) (rest := []) ⟨hx, hb, hml, hown, hts⟩ (c_X12_keep l dC dI cB cI cJ cZ ra _ M1  M6 hq7) (cwV 0 hts gX12_ribbon_X12_keep rfl rfl rfl (by decide +kernel) ⟨Nat.le_of_ble_eq_true rfl, Nat.le_of_ble_eq_true rfl⟩) hK hP (fun _ _ _ _ => mPw_bl) (fun U hU hW => ⟨by rw [hU], by rw [hU]; exact hP, va_K.moved hW.alike hK, hD.weaken (fun _ _ _ _ => trivial)⟩) rfl rfl hl.1 rfl (lv_room (Nat.le_of_ble_eq_true rfl)) dX12_ribbon_42 ⟨Nat.le_refl _, Nat.le_refl _⟩) hD hS hA (fun H locs hP hD hS => ?_)
        refine lv_aload_n hx hb dX12_ribbon_45 rfl (lv_at hl 0 rfl) ?_
        refine km_get hx hb hts hin hown hK hP 6 (by decide) (v := .ref (ra 6)) k_fieldLink_RX12_33__KeyLettersModel___s____I_ rfl dX12_ribbon_46 ?_
        refine lv_bipush (v := 44) hx hb dX12_ribbon_49 (by decide) ?_
        refine lv_iload_n hx hb dX12_ribbon_51 rfl (lv_at hl 1 rfl) ?_
        refine lv_iadd hx hb dX12_ribbon_52 ?_
        refine lv_iload_n hx hb dX12_ribbon_53 rfl (lv_at hl 2 rfl) ?_
        obtain ⟨hc8, hf⟩ := ck_e hf
        obtain ⟨M9, eM9, hf⟩ := bd1_e hf
        refine va_iast hx hb hK hP hD hS 2 1 rfl rfl hc8 dX12_ribbon_54 (fun H locs hP hD hS => ?_)
        have hP : va_P (dC, dI) vwCl (mw cB cI cJ cZ ra M9) H := by rw [eM9, ← ma_6 cB cI cJ cZ ra M6 ((44 : Int32) + a0).toNatClampNeg a1]; exact hP
        have hD : va_D (mA ra s.heap.size) (mw cB cI cJ cZ ra M9) := by rw [eM9, ← ma_6 cB cI cJ cZ ra M6 ((44 : Int32) + a0).toNatClampNeg a1]; exact hD
        refine lv_iconst (v := 0) hx hb dX12_ribbon_55 (by decide) ?_
        have hf := Option.some.inj hf
        subst hf
        exact m_iret hx hb hr hlocks hP hK hD hS dX12_ribbon_56
      · have hf := (if_neg hb10).symm.trans hf
        refine lv_iconst (v := 1) hx hb dX12_ribbon_39 (by decide) ?_
        have hf := Option.some.inj hf
        subst hf
        exact m_iret hx hb hr hlocks hP hK hD hS dX12_ribbon_40
    · have hf := (if_pos hb11).symm.trans hf
      refine lv_iconst (v := -1) hx hb dX12_ribbon_24 (by decide) ?_
      have hf := Option.some.inj hf
      subst hf
      exact m_iret hx hb hr hlocks hP hK hD hS dX12_ribbon_25

abbrev rm_X12_clear : Room := { frames := 3, cells := 0, slots := 0, locals := 66 }
set_option maxHeartbeats 4000000 in
set_option maxRecDepth 100000 in
theorem c_X12_clear (l : Launch) (dC : Nat → ClassId) (dI : Nat → Nat → Nat) (cB cI cJ cZ : ClassId) (ra : Nat → Nat) (sz : Nat) (M : kD)  (r : (Int32 × kD)) (hf : f_X12_clear  M = some r) : Met l yX12_clear wsX12_clear rm_X12_clear (va_Pc [.ref (ra 0)] (mPw dC dI cB cI cJ cZ ra sz M)) (mQi dC dI cB cI cJ cZ ra sz r) 0 0 (mA ra sz) := by
  refine Met.ofW (cc := cX12_clear) (maxL := 1) (ret := (some .int)) (by decide) rfl ?_
  intro p e s m args below meth c s₁ B hml hv
  obtain ⟨hav, hsz, hP, hK, hD0⟩ := hv
  have hx := B.exec
  have hb := B.bytes
  have hr := B.returns
  have hts := atoms_spec (ws := wsX12_clear) B.pre
  have hown : s.vm.findClass RX12 = some m.cls := findClass_of_methodNamed B.named
  have hlocks := B.notSynchronized
  subst hsz
  have hA : ∀ q, s.heap.size ≤ q → mA ra s.heap.size q := fun q h => Or.inr h
  have hD : va_D (mA ra s.heap.size) (mw cB cI cJ cZ ra M) := hD0.weaken (fun k q h _ => mA_in h)
  have hS : va_S (mA ra s.heap.size) s.heap s.heap [] := va_S.rf
  have hin : ∀ w ∈ wsX120, w ∈ wsX12_clear := fun w h => List.mem_cons_of_mem _ (List.mem_append_right _ h)
  have k_fieldLink_RX12_1__KeyLettersModel___thrown___I_ := hts (.fieldLink RX12 1 "KeyLettersModel" "thrown" "I") (by decide +kernel)
  have hl := lv_entry ([.ref (ra 0)]) (n := 1) (Nat.le_of_ble_eq_true rfl)
  rw [show entryFrame m args 1 = entryFrame m ([.ref (ra 0)] : List Value).toArray 1 from by rw [hav], lg_entry_eq]
  generalize (lg_sl ([.ref (ra 0)]) ++ List.replicate (1 - (lg_sl ([.ref (ra 0)])).length) Slot.unset).toArray = ls at hl ⊢
  have hl : lv_has ls 1 [(0, .ref (ra 0))] := hl
  unfold f_X12_clear at hf
  refine lv_aload_n hx hb dX12_clear_0 rfl (lv_at hl 0 rfl) ?_
  refine lv_iconst (v := 0) hx hb dX12_clear_1 (by decide) ?_
  obtain ⟨M1, eM1, hf⟩ := bd1_e hf
  refine km_put hx hb hts hin hown hK hP hD hS 0 (by decide) k_fieldLink_RX12_1__KeyLettersModel___thrown___I_ rfl (ty := .int) (v := .int (0 : Int32)) (by decide +kernel) rfl rfl (M1 := M1) (by rw [eM1]; exact mo_0 cB cI cJ cZ ra M (0 : Int32)) dX12_clear_2 (fun H locs hP hD hS => ?_)
  refine lv_aload_n hx hb dX12_clear_5 rfl (lv_at hl 0 rfl) ?_
  obtain ⟨v2, hq3, hf⟩ := bo_e hf
  refine ko_call (v := some (.int v2)) (km_run (As := []) (rest := []) ⟨hx, hb, hml, hown, hts⟩ (c_X12_whyClear l dC dI cB cI cJ cZ ra M1  v2 hq3) (cwV 0 hts gX12_clear_X12_whyClear rfl rfl rfl (by decide +kernel) ⟨Nat.le_of_ble_eq_true rfl, Nat.le_of_ble_eq_true rfl⟩) hK hP (fun _ _ _ _ => mPr_bl) (fun U hU hW => ⟨by rw [hU]; exact hP, va_K.moved hW.alike hK⟩) rfl rfl hl.1 rfl (lv_room (Nat.le_of_ble_eq_true rfl)) dX12_clear_6 ⟨Nat.le_refl _, Nat.le_refl _⟩) ?_
  refine lv_if_le (tgt := 14) hx hb dX12_clear_9 (by decide) (fun hb8 => ?_) (fun hb8 => ?_)
  · have hf := (if_pos hb8).symm.trans hf
    refine lv_aload_n hx hb dX12_clear_14 rfl (lv_at hl 0 rfl) ?_
    obtain ⟨M4, hq5, hf⟩ := bo_e hf
    refine km_callwv (M1 := M4) (km_run (As := []) (rest := []) ⟨hx, hb, hml, hown, hts⟩ (c_X12_keep l dC dI cB cI cJ cZ ra _ M1  M4 hq5) (cwV 0 hts gX12_clear_X12_keep rfl rfl rfl (by decide +kernel) ⟨Nat.le_of_ble_eq_true rfl, Nat.le_of_ble_eq_true rfl⟩) hK hP (fun _ _ _ _ => mPw_bl) (fun U hU hW => ⟨by rw [hU], by rw [hU]; exact hP, va_K.moved hW.alike hK, hD.weaken (fun _ _ _ _ => trivial)⟩) rfl rfl hl.1 rfl (lv_room (Nat.le_of_ble_eq_true rfl)) dX12_clear_15 ⟨Nat.le_refl _, Nat.le_refl _⟩) hD hS hA (fun H locs hP hD hS => ?_)
    refine lv_aload_n hx hb dX12_clear_18 rfl (lv_at hl 0 rfl) ?_
    obtain ⟨M6, hq7, hf⟩ := bo_e hf
    refine km_callwv (M1 := M6) (km_run (As := []) (rest := []) ⟨hx, hb, hml, hown, hts⟩ (c_X12_evens l dC dI cB cI cJ cZ ra _ M4  M6 hq7) (cwV 0 hts gX12_clear_X12_evens rfl rfl rfl (by decide +kernel) ⟨Nat.le_of_ble_eq_true rfl, Nat.le_of_ble_eq_true rfl⟩) hK hP (fun _ _ _ _ => mPw_bl) (fun U hU hW => ⟨by rw [hU], by rw [hU]; exact hP, va_K.moved hW.alike hK, hD.weaken (fun _ _ _ _ => trivial)⟩) rfl rfl hl.1 rfl (lv_room (Nat.le_of_ble_eq_true rfl)) dX12_clear_19 ⟨Nat.le_refl _, Nat.le_refl _⟩) hD hS hA (fun H locs hP hD hS => ?_)
    refine lv_iconst (v := 0) hx hb dX12_clear_22 (by decide) ?_
    have hf := Option.some.inj hf
    subst hf
    exact m_iret hx hb hr hlocks hP hK hD hS dX12_clear_23
  · have hf := (if_neg hb8).symm.trans hf
    refine lv_iconst (v := 1) hx hb dX12_clear_12 (by decide) ?_
    have hf := Option.some.inj hf
    subst hf
    exact m_iret hx hb hr hlocks hP hK hD hS dX12_clear_13

