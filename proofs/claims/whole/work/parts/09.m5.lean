abbrev rm_X12_told : Room := { frames := 1, cells := 0, slots := 0, locals := 22 }
set_option maxHeartbeats 4000000 in
set_option maxRecDepth 100000 in
theorem c_X12_told (l : Launch) (dC : Nat → ClassId) (dI : Nat → Nat → Nat) (cB cI cJ cZ : ClassId) (ra : Nat → Nat) (sz : Nat) (M : kD) (a0 : Int32) (r : (Int32 × kD)) (hf : f_X12_told a0 M = some r) : Met l yX12_told wsX12_told rm_X12_told (va_Pc [.ref (ra 0), .int a0] (mPw dC dI cB cI cJ cZ ra sz M)) (mQi dC dI cB cI cJ cZ ra sz r) 0 0 (mA ra sz) := by
  refine Met.ofW (cc := cX12_told) (maxL := 2) (ret := (some .int)) (by decide) rfl ?_
  intro p e s m args below meth c s₁ B hml hv
  obtain ⟨hav, hsz, hP, hK, hD0⟩ := hv
  have hx := B.exec
  have hb := B.bytes
  have hr := B.returns
  have hts := atoms_spec (ws := wsX12_told) B.pre
  have hown : s.vm.findClass RX12 = some m.cls := findClass_of_methodNamed B.named
  have hlocks := B.notSynchronized
  subst hsz
  have hA : ∀ q, s.heap.size ≤ q → mA ra s.heap.size q := fun q h => Or.inr h
  have hD : va_D (mA ra s.heap.size) (mw cB cI cJ cZ ra M) := hD0.weaken (fun k q h _ => mA_in h)
  have hS : va_S (mA ra s.heap.size) s.heap s.heap [] := va_S.rf
  have hin : ∀ w ∈ wsX120, w ∈ wsX12_told := fun w h => List.mem_cons_of_mem _ (List.mem_append_right _ h)
  have k_fieldLink_RX12_1__KeyLettersModel___thrown___I_ := hts (.fieldLink RX12 1 "KeyLettersModel" "thrown" "I") (by decide +kernel)
  have k_fieldLink_RX12_413__KeyLettersModel___hasTold___Z_ := hts (.fieldLink RX12 413 "KeyLettersModel" "hasTold" "Z") (by decide +kernel)
  have k_fieldLink_RX12_80__KeyLettersModel___toldAt____I_ := hts (.fieldLink RX12 80 "KeyLettersModel" "toldAt" "[I") (by decide +kernel)
  have hl := lv_entry ([.ref (ra 0), .int a0]) (n := 2) (Nat.le_of_ble_eq_true rfl)
  rw [show entryFrame m args 2 = entryFrame m ([.ref (ra 0), .int a0] : List Value).toArray 2 from by rw [hav], lg_entry_eq]
  generalize (lg_sl ([.ref (ra 0), .int a0]) ++ List.replicate (2 - (lg_sl ([.ref (ra 0), .int a0])).length) Slot.unset).toArray = ls at hl ⊢
  have hl : lv_has ls 2 [(0, .ref (ra 0)), (1, .int a0)] := hl
  unfold f_X12_told at hf
  refine lv_aload_n hx hb dX12_told_0 rfl (lv_at hl 0 rfl) ?_
  refine lv_iconst (v := 0) hx hb dX12_told_1 (by decide) ?_
  obtain ⟨M1, eM1, hf⟩ := bd1_e hf
  refine km_put hx hb hts hin hown hK hP hD hS 0 (by decide) k_fieldLink_RX12_1__KeyLettersModel___thrown___I_ rfl (ty := .int) (v := .int (0 : Int32)) (by decide +kernel) rfl rfl (M1 := M1) (by rw [eM1]; exact mo_0 cB cI cJ cZ ra M (0 : Int32)) dX12_told_2 (fun H locs hP hD hS => ?_)
  refine lv_aload_n hx hb dX12_told_5 rfl (lv_at hl 0 rfl) ?_
  refine km_get hx hb hts hin hown hK hP 38 (by decide) (v := .int (M1.1 0 38)) k_fieldLink_RX12_413__KeyLettersModel___hasTold___Z_ rfl dX12_told_6 ?_
  refine lv_if_eq (tgt := 30) hx hb dX12_told_9 (by decide) (fun hb4 => ?_) (fun hb4 => ?_)
  · have hf := (if_pos hb4).symm.trans hf
    refine lv_iconst (v := -1) hx hb dX12_told_30 (by decide) ?_
    have hf := Option.some.inj hf
    subst hf
    exact m_iret hx hb hr hlocks hP hK hD hS dX12_told_31
  · have hf := (if_neg hb4).symm.trans hf
    refine lv_iload_n hx hb dX12_told_12 rfl (lv_at hl 1 rfl) ?_
    refine lv_iconst (v := 0) hx hb dX12_told_13 (by decide) ?_
    refine lv_iconst (v := 3) hx hb dX12_told_14 (by decide) ?_
    refine ko_call (v := some (.int (f_X12_isIn a0 (0 : Int32) (3 : Int32)))) (va_runS (As := [.int a0, .int (0 : Int32), .int (3 : Int32)]) (rest := []) ⟨hx, hb, hml, hown, hts⟩ (c_X12_isIn l a0 (0 : Int32) (3 : Int32) _ rfl) (va_cwS 3 hts gX12_told_X12_isIn rfl rfl rfl (by decide +kernel) ⟨Nat.le_of_ble_eq_true rfl, Nat.le_of_ble_eq_true rfl⟩) ⟨fun a U g mk q => q, fun U hU hW => ⟨rfl, trivial⟩⟩ rfl rfl hl.1 rfl (lv_room (Nat.le_of_ble_eq_true rfl)) dX12_told_15 ⟨Nat.le_refl _, Nat.le_refl _⟩) ?_
    refine lv_if_eq (tgt := 30) hx hb dX12_told_18 (by decide) (fun hb3 => ?_) (fun hb3 => ?_)
    · have hf := (if_pos hb3).symm.trans hf
      refine lv_iconst (v := -1) hx hb dX12_told_30 (by decide) ?_
      have hf := Option.some.inj hf
      subst hf
      exact m_iret hx hb hr hlocks hP hK hD hS dX12_told_31
    · have hf := (if_neg hb3).symm.trans hf
      refine lv_aload_n hx hb dX12_told_21 rfl (lv_at hl 0 rfl) ?_
      refine km_get hx hb hts hin hown hK hP 37 (by decide) (v := .ref (ra 37)) k_fieldLink_RX12_80__KeyLettersModel___toldAt____I_ rfl dX12_told_22 ?_
      refine lv_iload_n hx hb dX12_told_25 rfl (lv_at hl 1 rfl) ?_
      obtain ⟨hc2, hf⟩ := ck_e hf
      refine va_iald hx hb hK hP 15 1 rfl rfl hc2 dX12_told_26 ?_
      refine lv_goto (tgt := 31) hx hb dX12_told_27 (by decide) ?_
      have hf := Option.some.inj hf
      subst hf
      exact m_iret hx hb hr hlocks hP hK hD hS dX12_told_31

abbrev rm_X12_code : Room := { frames := 0, cells := 0, slots := 0, locals := 0 }
set_option maxHeartbeats 4000000 in
set_option maxRecDepth 100000 in
theorem c_X12_code (l : Launch) (dC : Nat → ClassId) (dI : Nat → Nat → Nat) (cB cI cJ cZ : ClassId) (ra : Nat → Nat) (sz : Nat) (M : kD) (a0 : Int32) (a1 : Int32) (a2 : Int32) (r : kD) (hf : f_X12_code a0 a1 a2 M = some r) : Met l yX12_code wsX12_code rm_X12_code (va_Pc [.ref (ra 0), .int a0, .int a1, .int a2] (mPw dC dI cB cI cJ cZ ra sz M)) (mQv dC dI cB cI cJ cZ ra sz r) 0 0 (mA ra sz) := by
  refine Met.ofW (cc := cX12_code) (maxL := 4) (ret := none) (by decide) rfl ?_
  intro p e s m args below meth c s₁ B hml hv
  obtain ⟨hav, hsz, hP, hK, hD0⟩ := hv
  have hx := B.exec
  have hb := B.bytes
  have hr := B.returns
  have hts := atoms_spec (ws := wsX12_code) B.pre
  have hown : s.vm.findClass RX12 = some m.cls := findClass_of_methodNamed B.named
  have hlocks := B.notSynchronized
  subst hsz
  have hA : ∀ q, s.heap.size ≤ q → mA ra s.heap.size q := fun q h => Or.inr h
  have hD : va_D (mA ra s.heap.size) (mw cB cI cJ cZ ra M) := hD0.weaken (fun k q h _ => mA_in h)
  have hS : va_S (mA ra s.heap.size) s.heap s.heap [] := va_S.rf
  have hin : ∀ w ∈ wsX120, w ∈ wsX12_code := fun w h => List.mem_cons_of_mem _ (List.mem_append_right _ h)
  have k_fieldLink_RX12_40__KeyLettersModel___read____I_ := hts (.fieldLink RX12 40 "KeyLettersModel" "read" "[I") (by decide +kernel)
  have k_fieldLink_RX12_416__KeyLettersModel___codes___I_ := hts (.fieldLink RX12 416 "KeyLettersModel" "codes" "I") (by decide +kernel)
  have hl := lv_entry ([.ref (ra 0), .int a0, .int a1, .int a2]) (n := 4) (Nat.le_of_ble_eq_true rfl)
  rw [show entryFrame m args 4 = entryFrame m ([.ref (ra 0), .int a0, .int a1, .int a2] : List Value).toArray 4 from by rw [hav], lg_entry_eq]
  generalize (lg_sl ([.ref (ra 0), .int a0, .int a1, .int a2]) ++ List.replicate (4 - (lg_sl ([.ref (ra 0), .int a0, .int a1, .int a2])).length) Slot.unset).toArray = ls at hl ⊢
  have hl : lv_has ls 4 [(0, .ref (ra 0)), (1, .int a0), (2, .int a1), (3, .int a2)] := hl
  unfold f_X12_code at hf
  refine lv_aload_n hx hb dX12_code_0 rfl (lv_at hl 0 rfl) ?_
  refine km_get hx hb hts hin hown hK hP 8 (by decide) (v := .ref (ra 8)) k_fieldLink_RX12_40__KeyLettersModel___read____I_ rfl dX12_code_1 ?_
  refine lv_iconst (v := 3) hx hb dX12_code_4 (by decide) ?_
  refine lv_aload_n hx hb dX12_code_5 rfl (lv_at hl 0 rfl) ?_
  refine km_get hx hb hts hin hown hK hP 40 (by decide) (v := .int (M.1 0 40)) k_fieldLink_RX12_416__KeyLettersModel___codes___I_ rfl dX12_code_6 ?_
  refine lv_imul hx hb dX12_code_9 ?_
  refine lv_iload_n hx hb dX12_code_10 rfl (lv_at hl 1 rfl) ?_
  obtain ⟨hc1, hf⟩ := ck_e hf
  obtain ⟨M2, eM2, hf⟩ := bd1_e hf
  refine va_iast hx hb hK hP hD hS 4 1 rfl rfl hc1 dX12_code_11 (fun H locs hP hD hS => ?_)
  have hP : va_P (dC, dI) vwCl (mw cB cI cJ cZ ra M2) H := by rw [eM2, ← ma_8 cB cI cJ cZ ra M ((3 : Int32) * (M.1 0 40)).toNatClampNeg a0]; exact hP
  have hD : va_D (mA ra s.heap.size) (mw cB cI cJ cZ ra M2) := by rw [eM2, ← ma_8 cB cI cJ cZ ra M ((3 : Int32) * (M.1 0 40)).toNatClampNeg a0]; exact hD
  refine lv_aload_n hx hb dX12_code_12 rfl (lv_at hl 0 rfl) ?_
  refine km_get hx hb hts hin hown hK hP 8 (by decide) (v := .ref (ra 8)) k_fieldLink_RX12_40__KeyLettersModel___read____I_ rfl dX12_code_13 ?_
  refine lv_iconst (v := 3) hx hb dX12_code_16 (by decide) ?_
  refine lv_aload_n hx hb dX12_code_17 rfl (lv_at hl 0 rfl) ?_
  refine km_get hx hb hts hin hown hK hP 40 (by decide) (v := .int (M2.1 0 40)) k_fieldLink_RX12_416__KeyLettersModel___codes___I_ rfl dX12_code_18 ?_
  refine lv_imul hx hb dX12_code_21 ?_
  refine lv_iconst (v := 1) hx hb dX12_code_22 (by decide) ?_
  refine lv_iadd hx hb dX12_code_23 ?_
  refine lv_iload_n hx hb dX12_code_24 rfl (lv_at hl 2 rfl) ?_
  obtain ⟨hc3, hf⟩ := ck_e hf
  obtain ⟨M4, eM4, hf⟩ := bd1_e hf
  refine va_iast hx hb hK hP hD hS 4 1 rfl rfl hc3 dX12_code_25 (fun H locs hP hD hS => ?_)
  have hP : va_P (dC, dI) vwCl (mw cB cI cJ cZ ra M4) H := by rw [eM4, ← ma_8 cB cI cJ cZ ra M2 (((3 : Int32) * (M2.1 0 40)) + (1 : Int32)).toNatClampNeg a1]; exact hP
  have hD : va_D (mA ra s.heap.size) (mw cB cI cJ cZ ra M4) := by rw [eM4, ← ma_8 cB cI cJ cZ ra M2 (((3 : Int32) * (M2.1 0 40)) + (1 : Int32)).toNatClampNeg a1]; exact hD
  refine lv_aload_n hx hb dX12_code_26 rfl (lv_at hl 0 rfl) ?_
  refine km_get hx hb hts hin hown hK hP 8 (by decide) (v := .ref (ra 8)) k_fieldLink_RX12_40__KeyLettersModel___read____I_ rfl dX12_code_27 ?_
  refine lv_iconst (v := 3) hx hb dX12_code_30 (by decide) ?_
  refine lv_aload_n hx hb dX12_code_31 rfl (lv_at hl 0 rfl) ?_
  refine km_get hx hb hts hin hown hK hP 40 (by decide) (v := .int (M4.1 0 40)) k_fieldLink_RX12_416__KeyLettersModel___codes___I_ rfl dX12_code_32 ?_
  refine lv_imul hx hb dX12_code_35 ?_
  refine lv_iconst (v := 2) hx hb dX12_code_36 (by decide) ?_
  refine lv_iadd hx hb dX12_code_37 ?_
  refine lv_iload_n hx hb dX12_code_38 rfl (lv_at hl 3 rfl) ?_
  obtain ⟨hc5, hf⟩ := ck_e hf
  obtain ⟨M6, eM6, hf⟩ := bd1_e hf
  refine va_iast hx hb hK hP hD hS 4 1 rfl rfl hc5 dX12_code_39 (fun H locs hP hD hS => ?_)
  have hP : va_P (dC, dI) vwCl (mw cB cI cJ cZ ra M6) H := by rw [eM6, ← ma_8 cB cI cJ cZ ra M4 (((3 : Int32) * (M4.1 0 40)) + (2 : Int32)).toNatClampNeg a2]; exact hP
  have hD : va_D (mA ra s.heap.size) (mw cB cI cJ cZ ra M6) := by rw [eM6, ← ma_8 cB cI cJ cZ ra M4 (((3 : Int32) * (M4.1 0 40)) + (2 : Int32)).toNatClampNeg a2]; exact hD
  refine lv_aload_n hx hb dX12_code_40 rfl (lv_at hl 0 rfl) ?_
  refine lv_dup hx hb dX12_code_41 rfl ?_
  refine km_get hx hb hts hin hown hK hP 40 (by decide) (v := .int (M6.1 0 40)) k_fieldLink_RX12_416__KeyLettersModel___codes___I_ rfl dX12_code_42 ?_
  refine lv_iconst (v := 1) hx hb dX12_code_45 (by decide) ?_
  refine lv_iadd hx hb dX12_code_46 ?_
  obtain ⟨M7, eM7, hf⟩ := bd1_e hf
  refine km_put hx hb hts hin hown hK hP hD hS 40 (by decide) k_fieldLink_RX12_416__KeyLettersModel___codes___I_ rfl (ty := .int) (v := .int ((M6.1 0 40) + (1 : Int32))) (by decide +kernel) rfl rfl (M1 := M7) (by rw [eM7]; exact mo_40 cB cI cJ cZ ra M6 ((M6.1 0 40) + (1 : Int32))) dX12_code_47 (fun H locs hP hD hS => ?_)
  have hf := Option.some.inj hf
  subst hf
  exact m_vret hx hb hr hlocks hP hK hD hS dX12_code_50

abbrev rm_X12_joins : Room := { frames := 1, cells := 0, slots := 0, locals := 23 }
set_option maxHeartbeats 4000000 in
set_option maxRecDepth 100000 in
theorem c_X12_joins (l : Launch) (dC : Nat → ClassId) (dI : Nat → Nat → Nat) (cB cI cJ cZ : ClassId) (ra : Nat → Nat) (sz : Nat) (M : kD) (a0 : Int32) (r : kD) (hf : f_X12_joins a0 M = some r) : Met l yX12_joins wsX12_joins rm_X12_joins (va_Pc [.ref (ra 0), .int a0] (mPw dC dI cB cI cJ cZ ra sz M)) (mQv dC dI cB cI cJ cZ ra sz r) 0 0 (mA ra sz) := by
  refine Met.ofW (cc := cX12_joins) (maxL := 2) (ret := none) (by decide) rfl ?_
  intro p e s m args below meth c s₁ B hml hv
  obtain ⟨hav, hsz, hP, hK, hD0⟩ := hv
  have hx := B.exec
  have hb := B.bytes
  have hr := B.returns
  have hts := atoms_spec (ws := wsX12_joins) B.pre
  have hown : s.vm.findClass RX12 = some m.cls := findClass_of_methodNamed B.named
  have hlocks := B.notSynchronized
  subst hsz
  have hA : ∀ q, s.heap.size ≤ q → mA ra s.heap.size q := fun q h => Or.inr h
  have hD : va_D (mA ra s.heap.size) (mw cB cI cJ cZ ra M) := hD0.weaken (fun k q h _ => mA_in h)
  have hS : va_S (mA ra s.heap.size) s.heap s.heap [] := va_S.rf
  have hin : ∀ w ∈ wsX120, w ∈ wsX12_joins := fun w h => List.mem_cons_of_mem _ (List.mem_append_right _ h)
  have k_fieldLink_RX12_419__KeyLettersModel___top___I_ := hts (.fieldLink RX12 419 "KeyLettersModel" "top" "I") (by decide +kernel)
  have k_fieldLink_RX12_83__KeyLettersModel___stack____I_ := hts (.fieldLink RX12 83 "KeyLettersModel" "stack" "[I") (by decide +kernel)
  have hl := lv_entry ([.ref (ra 0), .int a0]) (n := 2) (Nat.le_of_ble_eq_true rfl)
  rw [show entryFrame m args 2 = entryFrame m ([.ref (ra 0), .int a0] : List Value).toArray 2 from by rw [hav], lg_entry_eq]
  generalize (lg_sl ([.ref (ra 0), .int a0]) ++ List.replicate (2 - (lg_sl ([.ref (ra 0), .int a0])).length) Slot.unset).toArray = ls at hl ⊢
  have hl : lv_has ls 2 [(0, .ref (ra 0)), (1, .int a0)] := hl
  unfold f_X12_joins at hf
  have h_0 := lp_ind (z := (fun _ _ => none)) (b := (g_X12_joins_0)) (fun (rc_0 : Int32 → kD → Option kD) => ∀ (x1_0 : Int32) (M_0 : kD) (ls : Array Slot) (H : Heap) (locs : List Loc), lv_has ls 2 [(0, .ref (ra 0)), (1, .int x1_0)] → va_P (dC, dI) vwCl (mw cB cI cJ cZ ra M_0) H → va_D (mA ra s.heap.size) (mw cB cI cJ cZ ra M_0) → va_S (mA ra s.heap.size) s.heap H locs → rc_0 x1_0 M_0 = some r → W p l e (headSpec wsX12_joins rm_X12_joins).room s m args below meth c H locs 0 0 (MQ below (mQv dC dI cB cI cJ cZ ra s.heap.size r) args s 0 0 (mA ra s.heap.size)) (F0 m 0 ls [])) (by
      intro x1_0 M_0 ls H locs hl hP hD hS hf
      cases hf) (by
      intro rc_0 ih_0 x1_0 M_0 ls H locs hl hP hD hS hf
      unfold g_X12_joins_0 at hf
      have h_45 : ∀ (x1_45 : Int32) (M_45 : kD) (ls : Array Slot) (H : Heap) (locs : List Loc), lv_has ls 2 [(0, .ref (ra 0)), (1, .int x1_45)] → va_P (dC, dI) vwCl (mw cB cI cJ cZ ra M_45) H → va_D (mA ra s.heap.size) (mw cB cI cJ cZ ra M_45) → va_S (mA ra s.heap.size) s.heap H locs → g_X12_joins_45 rc_0 x1_45 M_45 = some r → W p l e (headSpec wsX12_joins rm_X12_joins).room s m args below meth c H locs 0 0 (MQ below (mQv dC dI cB cI cJ cZ ra s.heap.size r) args s 0 0 (mA ra s.heap.size)) (F0 m 45 ls []) := by
        intro x1_45 M_45 ls H locs hl hP hD hS hf
        unfold g_X12_joins_45 at hf
        refine lv_aload_n hx hb dX12_joins_45 rfl (lv_at hl 0 rfl) ?_
        refine lv_dup hx hb dX12_joins_46 rfl ?_
        refine km_get hx hb hts hin hown hK hP 42 (by decide) (v := .int (M_45.1 0 42)) k_fieldLink_RX12_419__KeyLettersModel___top___I_ rfl dX12_joins_47 ?_
        refine lv_iconst (v := 1) hx hb dX12_joins_50 (by decide) ?_
        refine lv_isub hx hb dX12_joins_51 ?_
        obtain ⟨M1, eM1, hf⟩ := bd1_e hf
        refine km_put hx hb hts hin hown hK hP hD hS 42 (by decide) k_fieldLink_RX12_419__KeyLettersModel___top___I_ rfl (ty := .int) (v := .int ((M_45.1 0 42) - (1 : Int32))) (by decide +kernel) rfl rfl (M1 := M1) (by rw [eM1]; exact mo_42 cB cI cJ cZ ra M_45 ((M_45.1 0 42) - (1 : Int32))) dX12_joins_52 (fun H locs hP hD hS => ?_)
        refine lv_aload_n hx hb dX12_joins_55 rfl (lv_at hl 0 rfl) ?_
        refine lv_aload_n hx hb dX12_joins_56 rfl (lv_at hl 0 rfl) ?_
        refine km_get hx hb hts hin hown hK hP 39 (by decide) (v := .ref (ra 39)) k_fieldLink_RX12_83__KeyLettersModel___stack____I_ rfl dX12_joins_57 ?_
        refine lv_aload_n hx hb dX12_joins_60 rfl (lv_at hl 0 rfl) ?_
        refine km_get hx hb hts hin hown hK hP 42 (by decide) (v := .int (M1.1 0 42)) k_fieldLink_RX12_419__KeyLettersModel___top___I_ rfl dX12_joins_61 ?_
        obtain ⟨v2, ev2, hf⟩ := bd1_e hf
        refine kt_i ev2 ?_
        obtain ⟨hc3, hf⟩ := ck_e hf
        refine va_iald hx hb hK hP 16 1 rfl rfl hc3 dX12_joins_64 ?_
        refine lv_iconst (v := 0) hx hb dX12_joins_65 (by decide) ?_
        refine lv_iconst (v := 0) hx hb dX12_joins_66 (by decide) ?_
        obtain ⟨M4, hq5, hf⟩ := bo_e hf
        refine km_callwv (M1 := M4) (km_run (As := [.int (M1.1 39 v2.toNatClampNeg), .int (0 : Int32), .int (0 : Int32)]) (rest := []) ⟨hx, hb, hml, hown, hts⟩ (c_X12_code l dC dI cB cI cJ cZ ra _ M1 (M1.1 39 v2.toNatClampNeg) (0 : Int32) (0 : Int32) M4 hq5) (cwV 3 hts gX12_joins_X12_code rfl rfl rfl (by decide +kernel) ⟨Nat.le_of_ble_eq_true rfl, Nat.le_of_ble_eq_true rfl⟩) hK hP (fun _ _ _ _ => mPw_bl) (fun U hU hW => ⟨by rw [hU], by rw [hU]; exact hP, va_K.moved hW.alike hK, hD.weaken (fun _ _ _ _ => trivial)⟩) rfl rfl hl.1 rfl (lv_room (Nat.le_of_ble_eq_true rfl)) dX12_joins_67 ⟨Nat.le_refl _, Nat.le_refl _⟩) hD hS hA (fun H locs hP hD hS => ?_)
        refine lv_goto (tgt := 0) hx hb dX12_joins_70 (by decide) ?_
        exact ih_0 x1_45 M4 ls _ _ hl hP hD hS hf
      refine lv_aload_n hx hb dX12_joins_0 rfl (lv_at hl 0 rfl) ?_
      refine km_get hx hb hts hin hown hK hP 42 (by decide) (v := .int (M_0.1 0 42)) k_fieldLink_RX12_419__KeyLettersModel___top___I_ rfl dX12_joins_1 ?_
      refine lv_if_le (tgt := 73) hx hb dX12_joins_4 (by decide) (fun hb13 => ?_) (fun hb13 => ?_)
      · have hf := (if_pos hb13).symm.trans hf
        have hf := Option.some.inj hf
        subst hf
        exact m_vret hx hb hr hlocks hP hK hD hS dX12_joins_73
      · have hf := (if_neg hb13).symm.trans hf
        refine lv_aload_n hx hb dX12_joins_7 rfl (lv_at hl 0 rfl) ?_
        refine km_get hx hb hts hin hown hK hP 39 (by decide) (v := .ref (ra 39)) k_fieldLink_RX12_83__KeyLettersModel___stack____I_ rfl dX12_joins_8 ?_
        refine lv_aload_n hx hb dX12_joins_11 rfl (lv_at hl 0 rfl) ?_
        refine km_get hx hb hts hin hown hK hP 42 (by decide) (v := .int (M_0.1 0 42)) k_fieldLink_RX12_419__KeyLettersModel___top___I_ rfl dX12_joins_12 ?_
        refine lv_iconst (v := 1) hx hb dX12_joins_15 (by decide) ?_
        refine lv_isub hx hb dX12_joins_16 ?_
        obtain ⟨v6, ev6, hf⟩ := bd1_e hf
        refine kt_i ev6 ?_
        obtain ⟨hc7, hf⟩ := ck_e hf
        refine va_iald hx hb hK hP 16 1 rfl rfl hc7 dX12_joins_17 ?_
        refine lv_bipush (v := 21) hx hb dX12_joins_18 (by decide) ?_
        refine lv_icmp_eq (tgt := 45) hx hb dX12_joins_20 (by decide) (fun hb12 => ?_) (fun hb12 => ?_)
        · have hf := (if_pos hb12).symm.trans hf
          exact h_45 x1_0 M_0 ls _ _ hl hP hD hS hf
        · have hf := (if_neg hb12).symm.trans hf
          refine lv_aload_n hx hb dX12_joins_23 rfl (lv_at hl 0 rfl) ?_
          refine km_get hx hb hts hin hown hK hP 39 (by decide) (v := .ref (ra 39)) k_fieldLink_RX12_83__KeyLettersModel___stack____I_ rfl dX12_joins_24 ?_
          refine lv_aload_n hx hb dX12_joins_27 rfl (lv_at hl 0 rfl) ?_
          refine km_get hx hb hts hin hown hK hP 42 (by decide) (v := .int (M_0.1 0 42)) k_fieldLink_RX12_419__KeyLettersModel___top___I_ rfl dX12_joins_28 ?_
          refine lv_iconst (v := 1) hx hb dX12_joins_31 (by decide) ?_
          refine lv_isub hx hb dX12_joins_32 ?_
          obtain ⟨v8, ev8, hf⟩ := bd1_e hf
          refine kt_i ev8 ?_
          obtain ⟨hc9, hf⟩ := ck_e hf
          refine va_iald hx hb hK hP 16 1 rfl rfl hc9 dX12_joins_33 ?_
          refine lv_bipush (v := 22) hx hb dX12_joins_34 (by decide) ?_
          refine lv_icmp_ne (tgt := 73) hx hb dX12_joins_36 (by decide) (fun hb11 => ?_) (fun hb11 => ?_)
          · have hf := (if_neg hb11).symm.trans hf
            have hf := Option.some.inj hf
            subst hf
            exact m_vret hx hb hr hlocks hP hK hD hS dX12_joins_73
          · have hf := (if_pos hb11).symm.trans hf
            refine lv_iload_n hx hb dX12_joins_39 rfl (lv_at hl 1 rfl) ?_
            refine lv_bipush (v := 22) hx hb dX12_joins_40 (by decide) ?_
            refine lv_icmp_ne (tgt := 73) hx hb dX12_joins_42 (by decide) (fun hb10 => ?_) (fun hb10 => ?_)
            · have hf := (if_neg hb10).symm.trans hf
              have hf := Option.some.inj hf
              subst hf
              exact m_vret hx hb hr hlocks hP hK hD hS dX12_joins_73
            · have hf := (if_pos hb10).symm.trans hf
              exact h_45 x1_0 M_0 ls _ _ hl hP hD hS hf) 2000
  exact h_0 a0 M ls _ _ hl hP hD hS hf

abbrev rm_X12_nots : Room := { frames := 1, cells := 0, slots := 0, locals := 23 }
set_option maxHeartbeats 4000000 in
set_option maxRecDepth 100000 in
theorem c_X12_nots (l : Launch) (dC : Nat → ClassId) (dI : Nat → Nat → Nat) (cB cI cJ cZ : ClassId) (ra : Nat → Nat) (sz : Nat) (M : kD)  (r : kD) (hf : f_X12_nots  M = some r) : Met l yX12_nots wsX12_nots rm_X12_nots (va_Pc [.ref (ra 0)] (mPw dC dI cB cI cJ cZ ra sz M)) (mQv dC dI cB cI cJ cZ ra sz r) 0 0 (mA ra sz) := by
  refine Met.ofW (cc := cX12_nots) (maxL := 1) (ret := none) (by decide) rfl ?_
  intro p e s m args below meth c s₁ B hml hv
  obtain ⟨hav, hsz, hP, hK, hD0⟩ := hv
  have hx := B.exec
  have hb := B.bytes
  have hr := B.returns
  have hts := atoms_spec (ws := wsX12_nots) B.pre
  have hown : s.vm.findClass RX12 = some m.cls := findClass_of_methodNamed B.named
  have hlocks := B.notSynchronized
  subst hsz
  have hA : ∀ q, s.heap.size ≤ q → mA ra s.heap.size q := fun q h => Or.inr h
  have hD : va_D (mA ra s.heap.size) (mw cB cI cJ cZ ra M) := hD0.weaken (fun k q h _ => mA_in h)
  have hS : va_S (mA ra s.heap.size) s.heap s.heap [] := va_S.rf
  have hin : ∀ w ∈ wsX120, w ∈ wsX12_nots := fun w h => List.mem_cons_of_mem _ (List.mem_append_right _ h)
  have k_fieldLink_RX12_419__KeyLettersModel___top___I_ := hts (.fieldLink RX12 419 "KeyLettersModel" "top" "I") (by decide +kernel)
  have k_fieldLink_RX12_426__KeyLettersModel___deep___I_ := hts (.fieldLink RX12 426 "KeyLettersModel" "deep" "I") (by decide +kernel)
  have k_fieldLink_RX12_83__KeyLettersModel___stack____I_ := hts (.fieldLink RX12 83 "KeyLettersModel" "stack" "[I") (by decide +kernel)
  have hl := lv_entry ([.ref (ra 0)]) (n := 1) (Nat.le_of_ble_eq_true rfl)
  rw [show entryFrame m args 1 = entryFrame m ([.ref (ra 0)] : List Value).toArray 1 from by rw [hav], lg_entry_eq]
  generalize (lg_sl ([.ref (ra 0)]) ++ List.replicate (1 - (lg_sl ([.ref (ra 0)])).length) Slot.unset).toArray = ls at hl ⊢
  have hl : lv_has ls 1 [(0, .ref (ra 0))] := hl
  unfold f_X12_nots at hf
  have h_0 := lp_ind (z := (fun _ => none)) (b := (g_X12_nots_0)) (fun (rc_0 : kD → Option kD) => ∀ (M_0 : kD) (ls : Array Slot) (H : Heap) (locs : List Loc), lv_has ls 1 [(0, .ref (ra 0))] → va_P (dC, dI) vwCl (mw cB cI cJ cZ ra M_0) H → va_D (mA ra s.heap.size) (mw cB cI cJ cZ ra M_0) → va_S (mA ra s.heap.size) s.heap H locs → rc_0  M_0 = some r → W p l e (headSpec wsX12_nots rm_X12_nots).room s m args below meth c H locs 0 0 (MQ below (mQv dC dI cB cI cJ cZ ra s.heap.size r) args s 0 0 (mA ra s.heap.size)) (F0 m 0 ls [])) (by
      intro  M_0 ls H locs hl hP hD hS hf
      cases hf) (by
      intro rc_0 ih_0  M_0 ls H locs hl hP hD hS hf
      unfold g_X12_nots_0 at hf
      refine lv_aload_n hx hb dX12_nots_0 rfl (lv_at hl 0 rfl) ?_
      refine km_get hx hb hts hin hown hK hP 42 (by decide) (v := .int (M_0.1 0 42)) k_fieldLink_RX12_419__KeyLettersModel___top___I_ rfl dX12_nots_1 ?_
      refine lv_if_le (tgt := 54) hx hb dX12_nots_4 (by decide) (fun hb8 => ?_) (fun hb8 => ?_)
      · have hf := (if_pos hb8).symm.trans hf
        have hf := Option.some.inj hf
        subst hf
        exact m_vret hx hb hr hlocks hP hK hD hS dX12_nots_54
      · have hf := (if_neg hb8).symm.trans hf
        refine lv_aload_n hx hb dX12_nots_7 rfl (lv_at hl 0 rfl) ?_
        refine km_get hx hb hts hin hown hK hP 39 (by decide) (v := .ref (ra 39)) k_fieldLink_RX12_83__KeyLettersModel___stack____I_ rfl dX12_nots_8 ?_
        refine lv_aload_n hx hb dX12_nots_11 rfl (lv_at hl 0 rfl) ?_
        refine km_get hx hb hts hin hown hK hP 42 (by decide) (v := .int (M_0.1 0 42)) k_fieldLink_RX12_419__KeyLettersModel___top___I_ rfl dX12_nots_12 ?_
        refine lv_iconst (v := 1) hx hb dX12_nots_15 (by decide) ?_
        refine lv_isub hx hb dX12_nots_16 ?_
        obtain ⟨v1, ev1, hf⟩ := bd1_e hf
        refine kt_i ev1 ?_
        obtain ⟨hc2, hf⟩ := ck_e hf
        refine va_iald hx hb hK hP 16 1 rfl rfl hc2 dX12_nots_17 ?_
        refine lv_bipush (v := 20) hx hb dX12_nots_18 (by decide) ?_
        refine lv_icmp_ne (tgt := 54) hx hb dX12_nots_20 (by decide) (fun hb7 => ?_) (fun hb7 => ?_)
        · have hf := (if_neg hb7).symm.trans hf
          have hf := Option.some.inj hf
          subst hf
          exact m_vret hx hb hr hlocks hP hK hD hS dX12_nots_54
        · have hf := (if_pos hb7).symm.trans hf
          refine lv_aload_n hx hb dX12_nots_23 rfl (lv_at hl 0 rfl) ?_
          refine lv_dup hx hb dX12_nots_24 rfl ?_
          refine km_get hx hb hts hin hown hK hP 42 (by decide) (v := .int (M_0.1 0 42)) k_fieldLink_RX12_419__KeyLettersModel___top___I_ rfl dX12_nots_25 ?_
          refine lv_iconst (v := 1) hx hb dX12_nots_28 (by decide) ?_
          refine lv_isub hx hb dX12_nots_29 ?_
          obtain ⟨M3, eM3, hf⟩ := bd1_e hf
          refine km_put hx hb hts hin hown hK hP hD hS 42 (by decide) k_fieldLink_RX12_419__KeyLettersModel___top___I_ rfl (ty := .int) (v := .int ((M_0.1 0 42) - (1 : Int32))) (by decide +kernel) rfl rfl (M1 := M3) (by rw [eM3]; exact mo_42 cB cI cJ cZ ra M_0 ((M_0.1 0 42) - (1 : Int32))) dX12_nots_30 (fun H locs hP hD hS => ?_)
          refine lv_aload_n hx hb dX12_nots_33 rfl (lv_at hl 0 rfl) ?_
          refine lv_dup hx hb dX12_nots_34 rfl ?_
          refine km_get hx hb hts hin hown hK hP 43 (by decide) (v := .int (M3.1 0 43)) k_fieldLink_RX12_426__KeyLettersModel___deep___I_ rfl dX12_nots_35 ?_
          refine lv_iconst (v := 1) hx hb dX12_nots_38 (by decide) ?_
          refine lv_isub hx hb dX12_nots_39 ?_
          obtain ⟨M4, eM4, hf⟩ := bd1_e hf
          refine km_put hx hb hts hin hown hK hP hD hS 43 (by decide) k_fieldLink_RX12_426__KeyLettersModel___deep___I_ rfl (ty := .int) (v := .int ((M3.1 0 43) - (1 : Int32))) (by decide +kernel) rfl rfl (M1 := M4) (by rw [eM4]; exact mo_43 cB cI cJ cZ ra M3 ((M3.1 0 43) - (1 : Int32))) dX12_nots_40 (fun H locs hP hD hS => ?_)
          refine lv_aload_n hx hb dX12_nots_43 rfl (lv_at hl 0 rfl) ?_
          refine lv_bipush (v := 20) hx hb dX12_nots_44 (by decide) ?_
          refine lv_iconst (v := 0) hx hb dX12_nots_46 (by decide) ?_
          refine lv_iconst (v := 0) hx hb dX12_nots_47 (by decide) ?_
          obtain ⟨M5, hq6, hf⟩ := bo_e hf
          refine km_callwv (M1 := M5) (km_run (As := [.int (20 : Int32), .int (0 : Int32), .int (0 : Int32)]) (rest := []) ⟨hx, hb, hml, hown, hts⟩ (c_X12_code l dC dI cB cI cJ cZ ra _ M4 (20 : Int32) (0 : Int32) (0 : Int32) M5 hq6) (cwV 3 hts gX12_nots_X12_code rfl rfl rfl (by decide +kernel) ⟨Nat.le_of_ble_eq_true rfl, Nat.le_of_ble_eq_true rfl⟩) hK hP (fun _ _ _ _ => mPw_bl) (fun U hU hW => ⟨by rw [hU], by rw [hU]; exact hP, va_K.moved hW.alike hK, hD.weaken (fun _ _ _ _ => trivial)⟩) rfl rfl hl.1 rfl (lv_room (Nat.le_of_ble_eq_true rfl)) dX12_nots_48 ⟨Nat.le_refl _, Nat.le_refl _⟩) hD hS hA (fun H locs hP hD hS => ?_)
          refine lv_goto (tgt := 0) hx hb dX12_nots_51 (by decide) ?_
          exact ih_0  M5 ls _ _ hl hP hD hS hf) 2000
  exact h_0  M ls _ _ hl hP hD hS hf

abbrev rm_X12_leafOf : Room := { frames := 1, cells := 0, slots := 0, locals := 22 }
set_option maxHeartbeats 4000000 in
set_option maxRecDepth 100000 in
theorem c_X12_leafOf (l : Launch) (dC : Nat → ClassId) (dI : Nat → Nat → Nat) (cB cI cJ cZ : ClassId) (ra : Nat → Nat) (M : kD)  (r : Int32) (hf : f_X12_leafOf  M = r) : Met l yX12_leafOf wsX12_leafOf rm_X12_leafOf (va_Pc [.ref (ra 0)] (mPr dC dI cB cI cJ cZ ra M)) (kQ (some (.int r))) 0 0 (kF) := by
  refine Met.ofW (cc := cX12_leafOf) (maxL := 1) (ret := (some .int)) (by decide) rfl ?_
  intro p e s m args below meth c s₁ B hml hv
  obtain ⟨hav, hP, hK⟩ := hv
  have hx := B.exec
  have hb := B.bytes
  have hr := B.returns
  have hts := atoms_spec (ws := wsX12_leafOf) B.pre
  have hown : s.vm.findClass RX12 = some m.cls := findClass_of_methodNamed B.named
  have hlocks := B.notSynchronized
  have hin : ∀ w ∈ wsX120, w ∈ wsX12_leafOf := fun w h => List.mem_cons_of_mem _ (List.mem_append_right _ h)
  have k_constantLong_RX12_125_1751477348 := hts (.constantLong RX12 125 1751477348) (by decide +kernel)
  have k_constantLong_RX12_127_119165820433268 := hts (.constantLong RX12 127 119165820433268) (by decide +kernel)
  have k_constantLong_RX12_129_1836414053 := hts (.constantLong RX12 129 1836414053) (by decide +kernel)
  have k_constantLong_RX12_131_1633840229 := hts (.constantLong RX12 131 1633840229) (by decide +kernel)
  have k_constantLong_RX12_133_1870095731 := hts (.constantLong RX12 133 1870095731) (by decide +kernel)
  have k_constantLong_RX12_135_6909547 := hts (.constantLong RX12 135 6909547) (by decide +kernel)
  have k_constantLong_RX12_137_513021015141 := hts (.constantLong RX12 137 513021015141) (by decide +kernel)
  have k_constantLong_RX12_139_121450625394034 := hts (.constantLong RX12 139 121450625394034) (by decide +kernel)
  have hl := lv_entry ([.ref (ra 0)]) (n := 1) (Nat.le_of_ble_eq_true rfl)
  rw [show entryFrame m args 1 = entryFrame m ([.ref (ra 0)] : List Value).toArray 1 from by rw [hav], lg_entry_eq]
  generalize (lg_sl ([.ref (ra 0)]) ++ List.replicate (1 - (lg_sl ([.ref (ra 0)])).length) Slot.unset).toArray = ls at hl ⊢
  have hl : lv_has ls 1 [(0, .ref (ra 0))] := hl
  unfold f_X12_leafOf at hf
  refine lv_aload_n hx hb dX12_leafOf_0 rfl (lv_at hl 0 rfl) ?_
  refine lv_ldc2 (v := 1751477348) hx hb hown k_constantLong_RX12_125_1751477348 dX12_leafOf_1 ?_
  refine ko_call (v := some (.int (f_X12_isWord (1751477348 : Int64) M))) (km_run (As := [.long (1751477348 : Int64)]) (rest := []) ⟨hx, hb, hml, hown, hts⟩ (c_X12_isWord l dC dI cB cI cJ cZ ra M (1751477348 : Int64) _ rfl) (cwV 1 hts gX12_leafOf_X12_isWord rfl rfl rfl (by decide +kernel) ⟨Nat.le_of_ble_eq_true rfl, Nat.le_of_ble_eq_true rfl⟩) hK hP (fun _ _ _ _ => mPr_bl) (fun U hU hW => ⟨by rw [hU]; exact hP, va_K.moved hW.alike hK⟩) rfl rfl hl.1 rfl (lv_room (Nat.le_of_ble_eq_true rfl)) dX12_leafOf_4 ⟨Nat.le_refl _, Nat.le_refl _⟩) ?_
  refine lv_if_eq (tgt := 14) hx hb dX12_leafOf_7 (by decide) (fun hb8 => ?_) (fun hb8 => ?_)
  · have hf := (if_pos hb8).symm.trans hf
    refine lv_aload_n hx hb dX12_leafOf_14 rfl (lv_at hl 0 rfl) ?_
    refine lv_ldc2 (v := 119165820433268) hx hb hown k_constantLong_RX12_127_119165820433268 dX12_leafOf_15 ?_
    refine ko_call (v := some (.int (f_X12_isWord (119165820433268 : Int64) M))) (km_run (As := [.long (119165820433268 : Int64)]) (rest := []) ⟨hx, hb, hml, hown, hts⟩ (c_X12_isWord l dC dI cB cI cJ cZ ra M (119165820433268 : Int64) _ rfl) (cwV 1 hts gX12_leafOf_X12_isWord rfl rfl rfl (by decide +kernel) ⟨Nat.le_of_ble_eq_true rfl, Nat.le_of_ble_eq_true rfl⟩) hK hP (fun _ _ _ _ => mPr_bl) (fun U hU hW => ⟨by rw [hU]; exact hP, va_K.moved hW.alike hK⟩) rfl rfl hl.1 rfl (lv_room (Nat.le_of_ble_eq_true rfl)) dX12_leafOf_18 ⟨Nat.le_refl _, Nat.le_refl _⟩) ?_
    refine lv_if_eq (tgt := 28) hx hb dX12_leafOf_21 (by decide) (fun hb7 => ?_) (fun hb7 => ?_)
    · have hf := (if_pos hb7).symm.trans hf
      refine lv_aload_n hx hb dX12_leafOf_28 rfl (lv_at hl 0 rfl) ?_
      refine lv_ldc2 (v := 1836414053) hx hb hown k_constantLong_RX12_129_1836414053 dX12_leafOf_29 ?_
      refine ko_call (v := some (.int (f_X12_isWord (1836414053 : Int64) M))) (km_run (As := [.long (1836414053 : Int64)]) (rest := []) ⟨hx, hb, hml, hown, hts⟩ (c_X12_isWord l dC dI cB cI cJ cZ ra M (1836414053 : Int64) _ rfl) (cwV 1 hts gX12_leafOf_X12_isWord rfl rfl rfl (by decide +kernel) ⟨Nat.le_of_ble_eq_true rfl, Nat.le_of_ble_eq_true rfl⟩) hK hP (fun _ _ _ _ => mPr_bl) (fun U hU hW => ⟨by rw [hU]; exact hP, va_K.moved hW.alike hK⟩) rfl rfl hl.1 rfl (lv_room (Nat.le_of_ble_eq_true rfl)) dX12_leafOf_32 ⟨Nat.le_refl _, Nat.le_refl _⟩) ?_
      refine lv_if_eq (tgt := 42) hx hb dX12_leafOf_35 (by decide) (fun hb6 => ?_) (fun hb6 => ?_)
      · have hf := (if_pos hb6).symm.trans hf
        refine lv_aload_n hx hb dX12_leafOf_42 rfl (lv_at hl 0 rfl) ?_
        refine lv_ldc2 (v := 1633840229) hx hb hown k_constantLong_RX12_131_1633840229 dX12_leafOf_43 ?_
        refine ko_call (v := some (.int (f_X12_isWord (1633840229 : Int64) M))) (km_run (As := [.long (1633840229 : Int64)]) (rest := []) ⟨hx, hb, hml, hown, hts⟩ (c_X12_isWord l dC dI cB cI cJ cZ ra M (1633840229 : Int64) _ rfl) (cwV 1 hts gX12_leafOf_X12_isWord rfl rfl rfl (by decide +kernel) ⟨Nat.le_of_ble_eq_true rfl, Nat.le_of_ble_eq_true rfl⟩) hK hP (fun _ _ _ _ => mPr_bl) (fun U hU hW => ⟨by rw [hU]; exact hP, va_K.moved hW.alike hK⟩) rfl rfl hl.1 rfl (lv_room (Nat.le_of_ble_eq_true rfl)) dX12_leafOf_46 ⟨Nat.le_refl _, Nat.le_refl _⟩) ?_
        refine lv_if_eq (tgt := 56) hx hb dX12_leafOf_49 (by decide) (fun hb5 => ?_) (fun hb5 => ?_)
        · have hf := (if_pos hb5).symm.trans hf
          refine lv_aload_n hx hb dX12_leafOf_56 rfl (lv_at hl 0 rfl) ?_
          refine lv_ldc2 (v := 1870095731) hx hb hown k_constantLong_RX12_133_1870095731 dX12_leafOf_57 ?_
          refine ko_call (v := some (.int (f_X12_isWord (1870095731 : Int64) M))) (km_run (As := [.long (1870095731 : Int64)]) (rest := []) ⟨hx, hb, hml, hown, hts⟩ (c_X12_isWord l dC dI cB cI cJ cZ ra M (1870095731 : Int64) _ rfl) (cwV 1 hts gX12_leafOf_X12_isWord rfl rfl rfl (by decide +kernel) ⟨Nat.le_of_ble_eq_true rfl, Nat.le_of_ble_eq_true rfl⟩) hK hP (fun _ _ _ _ => mPr_bl) (fun U hU hW => ⟨by rw [hU]; exact hP, va_K.moved hW.alike hK⟩) rfl rfl hl.1 rfl (lv_room (Nat.le_of_ble_eq_true rfl)) dX12_leafOf_60 ⟨Nat.le_refl _, Nat.le_refl _⟩) ?_
          refine lv_if_eq (tgt := 70) hx hb dX12_leafOf_63 (by decide) (fun hb4 => ?_) (fun hb4 => ?_)
          · have hf := (if_pos hb4).symm.trans hf
            refine lv_aload_n hx hb dX12_leafOf_70 rfl (lv_at hl 0 rfl) ?_
            refine lv_ldc2 (v := 6909547) hx hb hown k_constantLong_RX12_135_6909547 dX12_leafOf_71 ?_
            refine ko_call (v := some (.int (f_X12_isWord (6909547 : Int64) M))) (km_run (As := [.long (6909547 : Int64)]) (rest := []) ⟨hx, hb, hml, hown, hts⟩ (c_X12_isWord l dC dI cB cI cJ cZ ra M (6909547 : Int64) _ rfl) (cwV 1 hts gX12_leafOf_X12_isWord rfl rfl rfl (by decide +kernel) ⟨Nat.le_of_ble_eq_true rfl, Nat.le_of_ble_eq_true rfl⟩) hK hP (fun _ _ _ _ => mPr_bl) (fun U hU hW => ⟨by rw [hU]; exact hP, va_K.moved hW.alike hK⟩) rfl rfl hl.1 rfl (lv_room (Nat.le_of_ble_eq_true rfl)) dX12_leafOf_74 ⟨Nat.le_refl _, Nat.le_refl _⟩) ?_
            refine lv_if_eq (tgt := 84) hx hb dX12_leafOf_77 (by decide) (fun hb3 => ?_) (fun hb3 => ?_)
            · have hf := (if_pos hb3).symm.trans hf
              refine lv_aload_n hx hb dX12_leafOf_84 rfl (lv_at hl 0 rfl) ?_
              refine lv_ldc2 (v := 513021015141) hx hb hown k_constantLong_RX12_137_513021015141 dX12_leafOf_85 ?_
              refine ko_call (v := some (.int (f_X12_isWord (513021015141 : Int64) M))) (km_run (As := [.long (513021015141 : Int64)]) (rest := []) ⟨hx, hb, hml, hown, hts⟩ (c_X12_isWord l dC dI cB cI cJ cZ ra M (513021015141 : Int64) _ rfl) (cwV 1 hts gX12_leafOf_X12_isWord rfl rfl rfl (by decide +kernel) ⟨Nat.le_of_ble_eq_true rfl, Nat.le_of_ble_eq_true rfl⟩) hK hP (fun _ _ _ _ => mPr_bl) (fun U hU hW => ⟨by rw [hU]; exact hP, va_K.moved hW.alike hK⟩) rfl rfl hl.1 rfl (lv_room (Nat.le_of_ble_eq_true rfl)) dX12_leafOf_88 ⟨Nat.le_refl _, Nat.le_refl _⟩) ?_
              refine lv_if_eq (tgt := 99) hx hb dX12_leafOf_91 (by decide) (fun hb2 => ?_) (fun hb2 => ?_)
              · have hf := (if_pos hb2).symm.trans hf
                refine lv_aload_n hx hb dX12_leafOf_99 rfl (lv_at hl 0 rfl) ?_
                refine lv_ldc2 (v := 121450625394034) hx hb hown k_constantLong_RX12_139_121450625394034 dX12_leafOf_100 ?_
                refine ko_call (v := some (.int (f_X12_isWord (121450625394034 : Int64) M))) (km_run (As := [.long (121450625394034 : Int64)]) (rest := []) ⟨hx, hb, hml, hown, hts⟩ (c_X12_isWord l dC dI cB cI cJ cZ ra M (121450625394034 : Int64) _ rfl) (cwV 1 hts gX12_leafOf_X12_isWord rfl rfl rfl (by decide +kernel) ⟨Nat.le_of_ble_eq_true rfl, Nat.le_of_ble_eq_true rfl⟩) hK hP (fun _ _ _ _ => mPr_bl) (fun U hU hW => ⟨by rw [hU]; exact hP, va_K.moved hW.alike hK⟩) rfl rfl hl.1 rfl (lv_room (Nat.le_of_ble_eq_true rfl)) dX12_leafOf_103 ⟨Nat.le_refl _, Nat.le_refl _⟩) ?_
                refine lv_if_eq (tgt := 114) hx hb dX12_leafOf_106 (by decide) (fun hb1 => ?_) (fun hb1 => ?_)
                · have hf := (if_pos hb1).symm.trans hf
                  refine lv_iconst (v := -1) hx hb dX12_leafOf_114 (by decide) ?_
                  subst hf
                  exact W.iret (v := (-1 : Int32)) hx hb hr (fun t ht hW => ⟨rfl, ht⟩) (fun _ h => nomatch h) dX12_leafOf_115
                · have hf := (if_neg hb1).symm.trans hf
                  refine lv_bipush (v := 7) hx hb dX12_leafOf_109 (by decide) ?_
                  refine lv_goto (tgt := 115) hx hb dX12_leafOf_111 (by decide) ?_
                  subst hf
                  exact W.iret (v := (7 : Int32)) hx hb hr (fun t ht hW => ⟨rfl, ht⟩) (fun _ h => nomatch h) dX12_leafOf_115
              · have hf := (if_neg hb2).symm.trans hf
                refine lv_bipush (v := 6) hx hb dX12_leafOf_94 (by decide) ?_
                refine lv_goto (tgt := 115) hx hb dX12_leafOf_96 (by decide) ?_
                subst hf
                exact W.iret (v := (6 : Int32)) hx hb hr (fun t ht hW => ⟨rfl, ht⟩) (fun _ h => nomatch h) dX12_leafOf_115
            · have hf := (if_neg hb3).symm.trans hf
              refine lv_iconst (v := 5) hx hb dX12_leafOf_80 (by decide) ?_
              refine lv_goto (tgt := 115) hx hb dX12_leafOf_81 (by decide) ?_
              subst hf
              exact W.iret (v := (5 : Int32)) hx hb hr (fun t ht hW => ⟨rfl, ht⟩) (fun _ h => nomatch h) dX12_leafOf_115
          · have hf := (if_neg hb4).symm.trans hf
            refine lv_iconst (v := 4) hx hb dX12_leafOf_66 (by decide) ?_
            refine lv_goto (tgt := 115) hx hb dX12_leafOf_67 (by decide) ?_
            subst hf
            exact W.iret (v := (4 : Int32)) hx hb hr (fun t ht hW => ⟨rfl, ht⟩) (fun _ h => nomatch h) dX12_leafOf_115
        · have hf := (if_neg hb5).symm.trans hf
          refine lv_iconst (v := 3) hx hb dX12_leafOf_52 (by decide) ?_
          refine lv_goto (tgt := 115) hx hb dX12_leafOf_53 (by decide) ?_
          subst hf
          exact W.iret (v := (3 : Int32)) hx hb hr (fun t ht hW => ⟨rfl, ht⟩) (fun _ h => nomatch h) dX12_leafOf_115
      · have hf := (if_neg hb6).symm.trans hf
        refine lv_iconst (v := 2) hx hb dX12_leafOf_38 (by decide) ?_
        refine lv_goto (tgt := 115) hx hb dX12_leafOf_39 (by decide) ?_
        subst hf
        exact W.iret (v := (2 : Int32)) hx hb hr (fun t ht hW => ⟨rfl, ht⟩) (fun _ h => nomatch h) dX12_leafOf_115
    · have hf := (if_neg hb7).symm.trans hf
      refine lv_iconst (v := 1) hx hb dX12_leafOf_24 (by decide) ?_
      refine lv_goto (tgt := 115) hx hb dX12_leafOf_25 (by decide) ?_
      subst hf
      exact W.iret (v := (1 : Int32)) hx hb hr (fun t ht hW => ⟨rfl, ht⟩) (fun _ h => nomatch h) dX12_leafOf_115
  · have hf := (if_neg hb8).symm.trans hf
    refine lv_iconst (v := 0) hx hb dX12_leafOf_10 (by decide) ?_
    refine lv_goto (tgt := 115) hx hb dX12_leafOf_11 (by decide) ?_
    subst hf
    exact W.iret (v := (0 : Int32)) hx hb hr (fun t ht hW => ⟨rfl, ht⟩) (fun _ h => nomatch h) dX12_leafOf_115

abbrev rm_X12_operand : Room := { frames := 2, cells := 0, slots := 0, locals := 45 }
set_option maxHeartbeats 4000000 in
set_option maxRecDepth 100000 in
theorem c_X12_operand (l : Launch) (dC : Nat → ClassId) (dI : Nat → Nat → Nat) (cB cI cJ cZ : ClassId) (ra : Nat → Nat) (sz : Nat) (M : kD)  (r : (Int32 × kD)) (hf : f_X12_operand  M = some r) : Met l yX12_operand wsX12_operand rm_X12_operand (va_Pc [.ref (ra 0)] (mPw dC dI cB cI cJ cZ ra sz M)) (mQi dC dI cB cI cJ cZ ra sz r) 0 0 (mA ra sz) := by
  refine Met.ofW (cc := cX12_operand) (maxL := 5) (ret := (some .boolean)) (by decide) rfl ?_
  intro p e s m args below meth c s₁ B hml hv
  obtain ⟨hav, hsz, hP, hK, hD0⟩ := hv
  have hx := B.exec
  have hb := B.bytes
  have hr := B.returns
  have hts := atoms_spec (ws := wsX12_operand) B.pre
  have hown : s.vm.findClass RX12 = some m.cls := findClass_of_methodNamed B.named
  have hlocks := B.notSynchronized
  subst hsz
  have hA : ∀ q, s.heap.size ≤ q → mA ra s.heap.size q := fun q h => Or.inr h
  have hD : va_D (mA ra s.heap.size) (mw cB cI cJ cZ ra M) := hD0.weaken (fun k q h _ => mA_in h)
  have hS : va_S (mA ra s.heap.size) s.heap s.heap [] := va_S.rf
  have hin : ∀ w ∈ wsX120, w ∈ wsX12_operand := fun w h => List.mem_cons_of_mem _ (List.mem_append_right _ h)
  have k_constantLong_RX12_123_7237492 := hts (.constantLong RX12 123 7237492) (by decide +kernel)
  have k_fieldLink_RX12_154__KeyLettersModel___token___I_ := hts (.fieldLink RX12 154 "KeyLettersModel" "token" "I") (by decide +kernel)
  have k_fieldLink_RX12_164__KeyLettersModel___number___I_ := hts (.fieldLink RX12 164 "KeyLettersModel" "number" "I") (by decide +kernel)
  have k_fieldLink_RX12_190__KeyLettersModel___got___I_ := hts (.fieldLink RX12 190 "KeyLettersModel" "got" "I") (by decide +kernel)
  have k_fieldLink_RX12_33__KeyLettersModel___s____I_ := hts (.fieldLink RX12 33 "KeyLettersModel" "s" "[I") (by decide +kernel)
  have k_fieldLink_RX12_419__KeyLettersModel___top___I_ := hts (.fieldLink RX12 419 "KeyLettersModel" "top" "I") (by decide +kernel)
  have k_fieldLink_RX12_426__KeyLettersModel___deep___I_ := hts (.fieldLink RX12 426 "KeyLettersModel" "deep" "I") (by decide +kernel)
  have k_fieldLink_RX12_432__KeyLettersModel___ones___I_ := hts (.fieldLink RX12 432 "KeyLettersModel" "ones" "I") (by decide +kernel)
  have k_fieldLink_RX12_435__KeyLettersModel___isWhole___Z_ := hts (.fieldLink RX12 435 "KeyLettersModel" "isWhole" "Z") (by decide +kernel)
  have k_fieldLink_RX12_83__KeyLettersModel___stack____I_ := hts (.fieldLink RX12 83 "KeyLettersModel" "stack" "[I") (by decide +kernel)
  have hl := lv_entry ([.ref (ra 0)]) (n := 5) (Nat.le_of_ble_eq_true rfl)
  rw [show entryFrame m args 5 = entryFrame m ([.ref (ra 0)] : List Value).toArray 5 from by rw [hav], lg_entry_eq]
  generalize (lg_sl ([.ref (ra 0)]) ++ List.replicate (5 - (lg_sl ([.ref (ra 0)])).length) Slot.unset).toArray = ls at hl ⊢
  have hl : lv_has ls 5 [(0, .ref (ra 0))] := hl
  unfold f_X12_operand at hf
  have h_38 : ∀ (x1_38 : Int32) (x2_38 : Int32) (x3_38 : Int32) (M_38 : kD) (ls : Array Slot) (H : Heap) (locs : List Loc), lv_has ls 5 [(0, .ref (ra 0)), (1, .int x1_38), (2, .int x2_38), (3, .int x3_38)] → va_P (dC, dI) vwCl (mw cB cI cJ cZ ra M_38) H → va_D (mA ra s.heap.size) (mw cB cI cJ cZ ra M_38) → va_S (mA ra s.heap.size) s.heap H locs → g_X12_operand_38 x1_38 x2_38 x3_38 M_38 = some r → W p l e (headSpec wsX12_operand rm_X12_operand).room s m args below meth c H locs 0 0 (MQ below (mQi dC dI cB cI cJ cZ ra s.heap.size r) args s 0 0 (mA ra s.heap.size)) (F0 m 38 ls []) := by
    intro x1_38 x2_38 x3_38 M_38 ls H locs hl hP hD hS hf
    unfold g_X12_operand_38 at hf
    have h_56 : ∀ (M_56 : kD) (ls : Array Slot) (H : Heap) (locs : List Loc), lv_has ls 5 [(0, .ref (ra 0))] → va_P (dC, dI) vwCl (mw cB cI cJ cZ ra M_56) H → va_D (mA ra s.heap.size) (mw cB cI cJ cZ ra M_56) → va_S (mA ra s.heap.size) s.heap H locs → g_X12_operand_56  M_56 = some r → W p l e (headSpec wsX12_operand rm_X12_operand).room s m args below meth c H locs 0 0 (MQ below (mQi dC dI cB cI cJ cZ ra s.heap.size r) args s 0 0 (mA ra s.heap.size)) (F0 m 56 ls []) := by
      intro  M_56 ls H locs hl hP hD hS hf
      unfold g_X12_operand_56 at hf
      refine lv_aload_n hx hb dX12_operand_56 rfl (lv_at hl 0 rfl) ?_
      refine lv_iconst (v := 4) hx hb dX12_operand_57 (by decide) ?_
      obtain ⟨v2, M1, hq3, hf⟩ := bo2_e hf
      refine km_callw (v := v2) (M1 := M1) rfl (km_run (As := [.int (4 : Int32)]) (rest := []) ⟨hx, hb, hml, hown, hts⟩ (c_X12_bad l dC dI cB cI cJ cZ ra _ M_56 (4 : Int32) (v2, M1) hq3) (cwV 1 hts gX12_operand_X12_bad rfl rfl rfl (by decide +kernel) ⟨Nat.le_of_ble_eq_true rfl, Nat.le_of_ble_eq_true rfl⟩) hK hP (fun _ _ _ _ => mPw_bl) (fun U hU hW => ⟨by rw [hU], by rw [hU]; exact hP, va_K.moved hW.alike hK, hD.weaken (fun _ _ _ _ => trivial)⟩) rfl rfl hl.1 rfl (lv_room (Nat.le_of_ble_eq_true rfl)) dX12_operand_58 ⟨Nat.le_refl _, Nat.le_refl _⟩) hD hS hA (fun H locs hP hD hS => ?_)
      obtain ⟨hz4, hf⟩ := ck_e hf
      have hf := Option.some.inj hf
      subst hf
      exact m_zret hx hb hr (kt_z (Decidable.not_not.mp hz4)) hlocks hP hK hD hS dX12_operand_61
    have h_84 : ∀ (x1_84 : Int32) (M_84 : kD) (ls : Array Slot) (H : Heap) (locs : List Loc), lv_has ls 5 [(0, .ref (ra 0)), (1, .int x1_84)] → va_P (dC, dI) vwCl (mw cB cI cJ cZ ra M_84) H → va_D (mA ra s.heap.size) (mw cB cI cJ cZ ra M_84) → va_S (mA ra s.heap.size) s.heap H locs → g_X12_operand_84 x1_84 M_84 = some r → W p l e (headSpec wsX12_operand rm_X12_operand).room s m args below meth c H locs 0 0 (MQ below (mQi dC dI cB cI cJ cZ ra s.heap.size r) args s 0 0 (mA ra s.heap.size)) (F0 m 84 ls []) := by
      intro x1_84 M_84 ls H locs hl hP hD hS hf
      unfold g_X12_operand_84 at hf
      have h_103 : ∀ (t1_103 : Int32) (t2_103 : Int32) (M_103 : kD) (ls : Array Slot) (H : Heap) (locs : List Loc), lv_has ls 5 [(0, .ref (ra 0))] → va_P (dC, dI) vwCl (mw cB cI cJ cZ ra M_103) H → va_D (mA ra s.heap.size) (mw cB cI cJ cZ ra M_103) → va_S (mA ra s.heap.size) s.heap H locs → g_X12_operand_103 t1_103 t2_103 M_103 = some r → W p l e (headSpec wsX12_operand rm_X12_operand).room s m args below meth c H locs 0 0 (MQ below (mQi dC dI cB cI cJ cZ ra s.heap.size r) args s 0 0 (mA ra s.heap.size)) (F0 m 103 ls [.int t2_103, .int t1_103, .ref (ra 39)]) := by
        intro t1_103 t2_103 M_103 ls H locs hl hP hD hS hf
        unfold g_X12_operand_103 at hf
        obtain ⟨hc5, hf⟩ := ck_e hf
        obtain ⟨M6, eM6, hf⟩ := bd1_e hf
        refine va_iast hx hb hK hP hD hS 16 1 rfl rfl hc5 dX12_operand_103 (fun H locs hP hD hS => ?_)
        have hP : va_P (dC, dI) vwCl (mw cB cI cJ cZ ra M6) H := by rw [eM6, ← ma_39 cB cI cJ cZ ra M_103 t1_103.toNatClampNeg t2_103]; exact hP
        have hD : va_D (mA ra s.heap.size) (mw cB cI cJ cZ ra M6) := by rw [eM6, ← ma_39 cB cI cJ cZ ra M_103 t1_103.toNatClampNeg t2_103]; exact hD
        refine lv_aload_n hx hb dX12_operand_104 rfl (lv_at hl 0 rfl) ?_
        refine lv_dup hx hb dX12_operand_105 rfl ?_
        refine km_get hx hb hts hin hown hK hP 42 (by decide) (v := .int (M6.1 0 42)) k_fieldLink_RX12_419__KeyLettersModel___top___I_ rfl dX12_operand_106 ?_
        refine lv_iconst (v := 1) hx hb dX12_operand_109 (by decide) ?_
        refine lv_iadd hx hb dX12_operand_110 ?_
        obtain ⟨M7, eM7, hf⟩ := bd1_e hf
        refine km_put hx hb hts hin hown hK hP hD hS 42 (by decide) k_fieldLink_RX12_419__KeyLettersModel___top___I_ rfl (ty := .int) (v := .int ((M6.1 0 42) + (1 : Int32))) (by decide +kernel) rfl rfl (M1 := M7) (by rw [eM7]; exact mo_42 cB cI cJ cZ ra M6 ((M6.1 0 42) + (1 : Int32))) dX12_operand_111 (fun H locs hP hD hS => ?_)
        refine lv_aload_n hx hb dX12_operand_114 rfl (lv_at hl 0 rfl) ?_
        refine lv_dup hx hb dX12_operand_115 rfl ?_
        refine km_get hx hb hts hin hown hK hP 43 (by decide) (v := .int (M7.1 0 43)) k_fieldLink_RX12_426__KeyLettersModel___deep___I_ rfl dX12_operand_116 ?_
        refine lv_iconst (v := 1) hx hb dX12_operand_119 (by decide) ?_
        refine lv_iadd hx hb dX12_operand_120 ?_
        obtain ⟨M8, eM8, hf⟩ := bd1_e hf
        refine km_put hx hb hts hin hown hK hP hD hS 43 (by decide) k_fieldLink_RX12_426__KeyLettersModel___deep___I_ rfl (ty := .int) (v := .int ((M7.1 0 43) + (1 : Int32))) (by decide +kernel) rfl rfl (M1 := M8) (by rw [eM8]; exact mo_43 cB cI cJ cZ ra M7 ((M7.1 0 43) + (1 : Int32))) dX12_operand_121 (fun H locs hP hD hS => ?_)
        refine lv_iconst (v := 1) hx hb dX12_operand_124 (by decide) ?_
        have hf := Option.some.inj hf
        subst hf
        exact m_zret hx hb hr rfl hlocks hP hK hD hS dX12_operand_125
      refine lv_aload_n hx hb dX12_operand_84 rfl (lv_at hl 0 rfl) ?_
      refine km_get hx hb hts hin hown hK hP 39 (by decide) (v := .ref (ra 39)) k_fieldLink_RX12_83__KeyLettersModel___stack____I_ rfl dX12_operand_85 ?_
      refine lv_aload_n hx hb dX12_operand_88 rfl (lv_at hl 0 rfl) ?_
      refine km_get hx hb hts hin hown hK hP 42 (by decide) (v := .int (M_84.1 0 42)) k_fieldLink_RX12_419__KeyLettersModel___top___I_ rfl dX12_operand_89 ?_
      refine lv_iload_n hx hb dX12_operand_92 rfl (lv_at hl 1 rfl) ?_
      refine lv_if_eq (tgt := 101) hx hb dX12_operand_93 (by decide) (fun hb9 => ?_) (fun hb9 => ?_)
      · have hf := (if_pos hb9).symm.trans hf
        refine lv_bipush (v := 23) hx hb dX12_operand_101 (by decide) ?_
        exact h_103 (M_84.1 0 42) (23 : Int32) M_84 ls _ _ (lv_sub hl [0] rfl) hP hD hS hf
      · have hf := (if_neg hb9).symm.trans hf
        refine lv_bipush (v := 20) hx hb dX12_operand_96 (by decide) ?_
        refine lv_goto (tgt := 103) hx hb dX12_operand_98 (by decide) ?_
        exact h_103 (M_84.1 0 42) (20 : Int32) M_84 ls _ _ (lv_sub hl [0] rfl) hP hD hS hf
    have h_232 : ∀ (M_232 : kD) (ls : Array Slot) (H : Heap) (locs : List Loc), lv_has ls 5 [(0, .ref (ra 0))] → va_P (dC, dI) vwCl (mw cB cI cJ cZ ra M_232) H → va_D (mA ra s.heap.size) (mw cB cI cJ cZ ra M_232) → va_S (mA ra s.heap.size) s.heap H locs → g_X12_operand_232  M_232 = some r → W p l e (headSpec wsX12_operand rm_X12_operand).room s m args below meth c H locs 0 0 (MQ below (mQi dC dI cB cI cJ cZ ra s.heap.size r) args s 0 0 (mA ra s.heap.size)) (F0 m 232 ls []) := by
      intro  M_232 ls H locs hl hP hD hS hf
      unfold g_X12_operand_232 at hf
      refine lv_aload_n hx hb dX12_operand_232 rfl (lv_at hl 0 rfl) ?_
      refine lv_iconst (v := 1) hx hb dX12_operand_233 (by decide) ?_
      obtain ⟨v11, M10, hq12, hf⟩ := bo2_e hf
      refine km_callw (v := v11) (M1 := M10) rfl (km_run (As := [.int (1 : Int32)]) (rest := []) ⟨hx, hb, hml, hown, hts⟩ (c_X12_bad l dC dI cB cI cJ cZ ra _ M_232 (1 : Int32) (v11, M10) hq12) (cwV 1 hts gX12_operand_X12_bad rfl rfl rfl (by decide +kernel) ⟨Nat.le_of_ble_eq_true rfl, Nat.le_of_ble_eq_true rfl⟩) hK hP (fun _ _ _ _ => mPw_bl) (fun U hU hW => ⟨by rw [hU], by rw [hU]; exact hP, va_K.moved hW.alike hK, hD.weaken (fun _ _ _ _ => trivial)⟩) rfl rfl hl.1 rfl (lv_room (Nat.le_of_ble_eq_true rfl)) dX12_operand_234 ⟨Nat.le_refl _, Nat.le_refl _⟩) hD hS hA (fun H locs hP hD hS => ?_)
      obtain ⟨hz13, hf⟩ := ck_e hf
      have hf := Option.some.inj hf
      subst hf
      exact m_zret hx hb hr (kt_z (Decidable.not_not.mp hz13)) hlocks hP hK hD hS dX12_operand_237
    have h_181 : ∀ (x3_181 : Int32) (t0_181 : Int32) (M_181 : kD) (ls : Array Slot) (H : Heap) (locs : List Loc), lv_has ls 5 [(0, .ref (ra 0)), (3, .int x3_181)] → va_P (dC, dI) vwCl (mw cB cI cJ cZ ra M_181) H → va_D (mA ra s.heap.size) (mw cB cI cJ cZ ra M_181) → va_S (mA ra s.heap.size) s.heap H locs → g_X12_operand_181 x3_181 t0_181 M_181 = some r → W p l e (headSpec wsX12_operand rm_X12_operand).room s m args below meth c H locs 0 0 (MQ below (mQi dC dI cB cI cJ cZ ra s.heap.size r) args s 0 0 (mA ra s.heap.size)) (F0 m 181 ls [.int t0_181]) := by
      intro x3_181 t0_181 M_181 ls H locs hl hP hD hS hf
      unfold g_X12_operand_181 at hf
      refine lv_istore (nL := 5) (lv' := [(4, .int t0_181), (0, .ref (ra 0)), (3, .int x3_181)]) hx hb dX12_operand_181 hl (by decide) rfl (fun ls hl => ?_)
      refine lv_iload hx hb dX12_operand_183 (lv_at hl 0 rfl) ?_
      refine lv_if_ne (tgt := 190) hx hb dX12_operand_185 (by decide) (fun hb18 => ?_) (fun hb18 => ?_)
      · have hf := (if_neg hb18).symm.trans hf
        refine lv_aload_n hx hb dX12_operand_190 rfl (lv_at hl 1 rfl) ?_
        refine lv_iload_n hx hb dX12_operand_191 rfl (lv_at hl 2 rfl) ?_
        refine lv_iconst (v := 0) hx hb dX12_operand_192 (by decide) ?_
        refine lv_aload_n hx hb dX12_operand_193 rfl (lv_at hl 1 rfl) ?_
        refine km_get hx hb hts hin hown hK hP 18 (by decide) (v := .int (M_181.1 0 18)) k_fieldLink_RX12_190__KeyLettersModel___got___I_ rfl dX12_operand_194 ?_
        obtain ⟨M14, hq15, hf⟩ := bo_e hf
        refine km_callwv (M1 := M14) (km_run (As := [.int x3_181, .int (0 : Int32), .int (M_181.1 0 18)]) (rest := []) ⟨hx, hb, hml, hown, hts⟩ (c_X12_code l dC dI cB cI cJ cZ ra _ M_181 x3_181 (0 : Int32) (M_181.1 0 18) M14 hq15) (cwV 3 hts gX12_operand_X12_code rfl rfl rfl (by decide +kernel) ⟨Nat.le_of_ble_eq_true rfl, Nat.le_of_ble_eq_true rfl⟩) hK hP (fun _ _ _ _ => mPw_bl) (fun U hU hW => ⟨by rw [hU], by rw [hU]; exact hP, va_K.moved hW.alike hK, hD.weaken (fun _ _ _ _ => trivial)⟩) rfl rfl hl.1 rfl (lv_room (Nat.le_of_ble_eq_true rfl)) dX12_operand_197 ⟨Nat.le_refl _, Nat.le_refl _⟩) hD hS hA (fun H locs hP hD hS => ?_)
        refine lv_aload_n hx hb dX12_operand_200 rfl (lv_at hl 1 rfl) ?_
        obtain ⟨M16, hq17, hf⟩ := bo_e hf
        refine km_callwv (M1 := M16) (km_run (As := []) (rest := []) ⟨hx, hb, hml, hown, hts⟩ (c_X12_next l dC dI cB cI cJ cZ ra _ M14  M16 hq17) (cwV 0 hts gX12_operand_X12_next rfl rfl rfl (by decide +kernel) ⟨Nat.le_of_ble_eq_true rfl, Nat.le_of_ble_eq_true rfl⟩) hK hP (fun _ _ _ _ => mPw_bl) (fun U hU hW => ⟨by rw [hU], by rw [hU]; exact hP, va_K.moved hW.alike hK, hD.weaken (fun _ _ _ _ => trivial)⟩) rfl rfl hl.1 rfl (lv_room (Nat.le_of_ble_eq_true rfl)) dX12_operand_201 ⟨Nat.le_refl _, Nat.le_refl _⟩) hD hS hA (fun H locs hP hD hS => ?_)
        refine lv_iconst (v := 1) hx hb dX12_operand_204 (by decide) ?_
        have hf := Option.some.inj hf
        subst hf
        exact m_zret hx hb hr rfl hlocks hP hK hD hS dX12_operand_205
      · have hf := (if_pos hb18).symm.trans hf
        refine lv_iconst (v := 0) hx hb dX12_operand_188 (by decide) ?_
        have hf := Option.some.inj hf
        subst hf
        exact m_zret hx hb hr rfl hlocks hP hK hD hS dX12_operand_189
    refine lv_aload_n hx hb dX12_operand_38 rfl (lv_at hl 0 rfl) ?_
    refine km_get hx hb hts hin hown hK hP 41 (by decide) (v := .int (M_38.1 0 41)) k_fieldLink_RX12_432__KeyLettersModel___ones___I_ rfl dX12_operand_39 ?_
    refine lv_bipush (v := 20) hx hb dX12_operand_42 (by decide) ?_
    refine lv_icmp_eq (tgt := 56) hx hb dX12_operand_44 (by decide) (fun hb52 => ?_) (fun hb52 => ?_)
    · have hf := (if_pos hb52).symm.trans hf
      exact h_56  M_38 ls _ _ (lv_sub hl [0] rfl) hP hD hS hf
    · have hf := (if_neg hb52).symm.trans hf
      refine lv_aload_n hx hb dX12_operand_47 rfl (lv_at hl 0 rfl) ?_
      refine km_get hx hb hts hin hown hK hP 43 (by decide) (v := .int (M_38.1 0 43)) k_fieldLink_RX12_426__KeyLettersModel___deep___I_ rfl dX12_operand_48 ?_
      refine lv_bipush (v := 8) hx hb dX12_operand_51 (by decide) ?_
      refine lv_icmp_le (tgt := 62) hx hb dX12_operand_53 (by decide) (fun hb51 => ?_) (fun hb51 => ?_)
      · have hf := (if_pos hb51).symm.trans hf
        refine lv_aload_n hx hb dX12_operand_62 rfl (lv_at hl 0 rfl) ?_
        refine lv_dup hx hb dX12_operand_63 rfl ?_
        refine km_get hx hb hts hin hown hK hP 41 (by decide) (v := .int (M_38.1 0 41)) k_fieldLink_RX12_432__KeyLettersModel___ones___I_ rfl dX12_operand_64 ?_
        refine lv_iconst (v := 1) hx hb dX12_operand_67 (by decide) ?_
        refine lv_iadd hx hb dX12_operand_68 ?_
        obtain ⟨M19, eM19, hf⟩ := bd1_e hf
        refine km_put hx hb hts hin hown hK hP hD hS 41 (by decide) k_fieldLink_RX12_432__KeyLettersModel___ones___I_ rfl (ty := .int) (v := .int ((M_38.1 0 41) + (1 : Int32))) (by decide +kernel) rfl rfl (M1 := M19) (by rw [eM19]; exact mo_41 cB cI cJ cZ ra M_38 ((M_38.1 0 41) + (1 : Int32))) dX12_operand_69 (fun H locs hP hD hS => ?_)
        refine lv_aload_n hx hb dX12_operand_72 rfl (lv_at hl 0 rfl) ?_
        obtain ⟨M20, hq21, hf⟩ := bo_e hf
        refine km_callwv (M1 := M20) (km_run (As := []) (rest := []) ⟨hx, hb, hml, hown, hts⟩ (c_X12_next l dC dI cB cI cJ cZ ra _ M19  M20 hq21) (cwV 0 hts gX12_operand_X12_next rfl rfl rfl (by decide +kernel) ⟨Nat.le_of_ble_eq_true rfl, Nat.le_of_ble_eq_true rfl⟩) hK hP (fun _ _ _ _ => mPw_bl) (fun U hU hW => ⟨by rw [hU], by rw [hU]; exact hP, va_K.moved hW.alike hK, hD.weaken (fun _ _ _ _ => trivial)⟩) rfl rfl hl.1 rfl (lv_room (Nat.le_of_ble_eq_true rfl)) dX12_operand_73 ⟨Nat.le_refl _, Nat.le_refl _⟩) hD hS hA (fun H locs hP hD hS => ?_)
        refine lv_iload_n hx hb dX12_operand_76 rfl (lv_at hl 1 rfl) ?_
        refine lv_if_ne (tgt := 84) hx hb dX12_operand_77 (by decide) (fun hb50 => ?_) (fun hb50 => ?_)
        · have hf := (if_neg hb50).symm.trans hf
          exact h_84 x1_38 M20 ls _ _ (lv_sub hl [0, 1] rfl) hP hD hS hf
        · have hf := (if_pos hb50).symm.trans hf
          refine lv_iload_n hx hb dX12_operand_80 rfl (lv_at hl 2 rfl) ?_
          refine lv_if_eq (tgt := 126) hx hb dX12_operand_81 (by decide) (fun hb49 => ?_) (fun hb49 => ?_)
          · have hf := (if_pos hb49).symm.trans hf
            refine lv_aload_n hx hb dX12_operand_126 rfl (lv_at hl 0 rfl) ?_
            refine lv_iconst (v := 1) hx hb dX12_operand_127 (by decide) ?_
            obtain ⟨M22, eM22, hf⟩ := bd1_e hf
            refine km_put hx hb hts hin hown hK hP hD hS 44 (by decide) k_fieldLink_RX12_435__KeyLettersModel___isWhole___Z_ rfl (ty := .boolean) (v := .int (1 : Int32)) (by decide +kernel) rfl rfl (M1 := M22) (by rw [eM22]; exact mo_44 cB cI cJ cZ ra M20 (1 : Int32)) dX12_operand_128 (fun H locs hP hD hS => ?_)
            refine lv_iload_n hx hb dX12_operand_131 rfl (lv_at hl 3 rfl) ?_
            refine lv_iconst (v := 3) hx hb dX12_operand_132 (by decide) ?_
            refine lv_icmp_ge (tgt := 145) hx hb dX12_operand_133 (by decide) (fun hb48 => ?_) (fun hb48 => ?_)
            · have hf := (if_pos hb48).symm.trans hf
              refine lv_iload_n hx hb dX12_operand_145 rfl (lv_at hl 3 rfl) ?_
              refine lv_iconst (v := 5) hx hb dX12_operand_146 (by decide) ?_
              refine lv_icmp_ge (tgt := 206) hx hb dX12_operand_147 (by decide) (fun hb45 => ?_) (fun hb45 => ?_)
              · have hf := (if_pos hb45).symm.trans hf
                refine lv_aload_n hx hb dX12_operand_206 rfl (lv_at hl 0 rfl) ?_
                refine km_get hx hb hts hin hown hK hP 11 (by decide) (v := .int (M22.1 0 11)) k_fieldLink_RX12_154__KeyLettersModel___token___I_ rfl dX12_operand_207 ?_
                refine lv_iconst (v := 3) hx hb dX12_operand_210 (by decide) ?_
                refine lv_icmp_ne (tgt := 232) hx hb dX12_operand_211 (by decide) (fun hb37 => ?_) (fun hb37 => ?_)
                · have hf := (if_neg hb37).symm.trans hf
                  exact h_232  M22 ls _ _ (lv_sub hl [0] rfl) hP hD hS hf
                · have hf := (if_pos hb37).symm.trans hf
                  refine lv_aload_n hx hb dX12_operand_214 rfl (lv_at hl 0 rfl) ?_
                  refine km_get hx hb hts hin hown hK hP 14 (by decide) (v := .int (M22.1 0 14)) k_fieldLink_RX12_164__KeyLettersModel___number___I_ rfl dX12_operand_215 ?_
                  refine lv_bipush (v := 60) hx hb dX12_operand_218 (by decide) ?_
                  refine lv_icmp_lt (tgt := 232) hx hb dX12_operand_220 (by decide) (fun hb36 => ?_) (fun hb36 => ?_)
                  · have hf := (if_pos hb36).symm.trans hf
                    exact h_232  M22 ls _ _ (lv_sub hl [0] rfl) hP hD hS hf
                  · have hf := (if_neg hb36).symm.trans hf
                    refine lv_aload_n hx hb dX12_operand_223 rfl (lv_at hl 0 rfl) ?_
                    refine km_get hx hb hts hin hown hK hP 14 (by decide) (v := .int (M22.1 0 14)) k_fieldLink_RX12_164__KeyLettersModel___number___I_ rfl dX12_operand_224 ?_
                    refine lv_bipush (v := 62) hx hb dX12_operand_227 (by decide) ?_
                    refine lv_icmp_le (tgt := 238) hx hb dX12_operand_229 (by decide) (fun hb35 => ?_) (fun hb35 => ?_)
                    · have hf := (if_pos hb35).symm.trans hf
                      refine lv_aload_n hx hb dX12_operand_238 rfl (lv_at hl 0 rfl) ?_
                      refine km_get hx hb hts hin hown hK hP 14 (by decide) (v := .int (M22.1 0 14)) k_fieldLink_RX12_164__KeyLettersModel___number___I_ rfl dX12_operand_239 ?_
                      obtain ⟨v23, ev23, hf⟩ := bd1_e hf
                      refine kt_i ev23 ?_
                      refine lv_istore (nL := 5) (lv' := [(4, .int v23), (0, .ref (ra 0)), (1, .int x1_38), (2, .int x2_38), (3, .int x3_38)]) hx hb dX12_operand_242 hl (by decide) rfl (fun ls hl => ?_)
                      refine lv_aload_n hx hb dX12_operand_244 rfl (lv_at hl 1 rfl) ?_
                      obtain ⟨M24, hq25, hf⟩ := bo_e hf
                      refine km_callwv (M1 := M24) (km_run (As := []) (rest := []) ⟨hx, hb, hml, hown, hts⟩ (c_X12_next l dC dI cB cI cJ cZ ra _ M22  M24 hq25) (cwV 0 hts gX12_operand_X12_next rfl rfl rfl (by decide +kernel) ⟨Nat.le_of_ble_eq_true rfl, Nat.le_of_ble_eq_true rfl⟩) hK hP (fun _ _ _ _ => mPw_bl) (fun U hU hW => ⟨by rw [hU], by rw [hU]; exact hP, va_K.moved hW.alike hK, hD.weaken (fun _ _ _ _ => trivial)⟩) rfl rfl hl.1 rfl (lv_room (Nat.le_of_ble_eq_true rfl)) dX12_operand_245 ⟨Nat.le_refl _, Nat.le_refl _⟩) hD hS hA (fun H locs hP hD hS => ?_)
                      refine lv_aload_n hx hb dX12_operand_248 rfl (lv_at hl 1 rfl) ?_
                      refine km_get hx hb hts hin hown hK hP 11 (by decide) (v := .int (M24.1 0 11)) k_fieldLink_RX12_154__KeyLettersModel___token___I_ rfl dX12_operand_249 ?_
                      refine lv_iconst (v := 2) hx hb dX12_operand_252 (by decide) ?_
                      refine lv_icmp_eq (tgt := 262) hx hb dX12_operand_253 (by decide) (fun hb34 => ?_) (fun hb34 => ?_)
                      · have hf := (if_pos hb34).symm.trans hf
                        refine lv_aload_n hx hb dX12_operand_262 rfl (lv_at hl 1 rfl) ?_
                        refine lv_iload_n hx hb dX12_operand_263 rfl (lv_at hl 4 rfl) ?_
                        refine lv_iload hx hb dX12_operand_264 (lv_at hl 0 rfl) ?_
                        refine lv_aload_n hx hb dX12_operand_266 rfl (lv_at hl 1 rfl) ?_
                        refine km_get hx hb hts hin hown hK hP 14 (by decide) (v := .int (M24.1 0 14)) k_fieldLink_RX12_164__KeyLettersModel___number___I_ rfl dX12_operand_267 ?_
                        obtain ⟨M26, hq27, hf⟩ := bo_e hf
                        refine km_callwv (M1 := M26) (km_run (As := [.int x3_38, .int v23, .int (M24.1 0 14)]) (rest := []) ⟨hx, hb, hml, hown, hts⟩ (c_X12_code l dC dI cB cI cJ cZ ra _ M24 x3_38 v23 (M24.1 0 14) M26 hq27) (cwV 3 hts gX12_operand_X12_code rfl rfl rfl (by decide +kernel) ⟨Nat.le_of_ble_eq_true rfl, Nat.le_of_ble_eq_true rfl⟩) hK hP (fun _ _ _ _ => mPw_bl) (fun U hU hW => ⟨by rw [hU], by rw [hU]; exact hP, va_K.moved hW.alike hK, hD.weaken (fun _ _ _ _ => trivial)⟩) rfl rfl hl.1 rfl (lv_room (Nat.le_of_ble_eq_true rfl)) dX12_operand_270 ⟨Nat.le_refl _, Nat.le_refl _⟩) hD hS hA (fun H locs hP hD hS => ?_)
                        refine lv_aload_n hx hb dX12_operand_273 rfl (lv_at hl 1 rfl) ?_
                        obtain ⟨M28, hq29, hf⟩ := bo_e hf
                        refine km_callwv (M1 := M28) (km_run (As := []) (rest := []) ⟨hx, hb, hml, hown, hts⟩ (c_X12_next l dC dI cB cI cJ cZ ra _ M26  M28 hq29) (cwV 0 hts gX12_operand_X12_next rfl rfl rfl (by decide +kernel) ⟨Nat.le_of_ble_eq_true rfl, Nat.le_of_ble_eq_true rfl⟩) hK hP (fun _ _ _ _ => mPw_bl) (fun U hU hW => ⟨by rw [hU], by rw [hU]; exact hP, va_K.moved hW.alike hK, hD.weaken (fun _ _ _ _ => trivial)⟩) rfl rfl hl.1 rfl (lv_room (Nat.le_of_ble_eq_true rfl)) dX12_operand_274 ⟨Nat.le_refl _, Nat.le_refl _⟩) hD hS hA (fun H locs hP hD hS => ?_)
                        refine lv_iconst (v := 1) hx hb dX12_operand_277 (by decide) ?_
                        have hf := Option.some.inj hf
                        subst hf
                        exact m_zret hx hb hr rfl hlocks hP hK hD hS dX12_operand_278
                      · have hf := (if_neg hb34).symm.trans hf
                        refine lv_aload_n hx hb dX12_operand_256 rfl (lv_at hl 1 rfl) ?_
                        refine lv_iconst (v := 1) hx hb dX12_operand_257 (by decide) ?_
                        obtain ⟨v31, M30, hq32, hf⟩ := bo2_e hf
                        refine km_callw (v := v31) (M1 := M30) rfl (km_run (As := [.int (1 : Int32)]) (rest := []) ⟨hx, hb, hml, hown, hts⟩ (c_X12_bad l dC dI cB cI cJ cZ ra _ M24 (1 : Int32) (v31, M30) hq32) (cwV 1 hts gX12_operand_X12_bad rfl rfl rfl (by decide +kernel) ⟨Nat.le_of_ble_eq_true rfl, Nat.le_of_ble_eq_true rfl⟩) hK hP (fun _ _ _ _ => mPw_bl) (fun U hU hW => ⟨by rw [hU], by rw [hU]; exact hP, va_K.moved hW.alike hK, hD.weaken (fun _ _ _ _ => trivial)⟩) rfl rfl hl.1 rfl (lv_room (Nat.le_of_ble_eq_true rfl)) dX12_operand_258 ⟨Nat.le_refl _, Nat.le_refl _⟩) hD hS hA (fun H locs hP hD hS => ?_)
                        obtain ⟨hz33, hf⟩ := ck_e hf
                        have hf := Option.some.inj hf
                        subst hf
                        exact m_zret hx hb hr (kt_z (Decidable.not_not.mp hz33)) hlocks hP hK hD hS dX12_operand_261
                    · have hf := (if_neg hb35).symm.trans hf
                      exact h_232  M22 ls _ _ (lv_sub hl [0] rfl) hP hD hS hf
              · have hf := (if_neg hb45).symm.trans hf
                refine lv_iload_n hx hb dX12_operand_150 rfl (lv_at hl 3 rfl) ?_
                refine lv_iconst (v := 3) hx hb dX12_operand_151 (by decide) ?_
                refine lv_icmp_ne (tgt := 170) hx hb dX12_operand_152 (by decide) (fun hb44 => ?_) (fun hb44 => ?_)
                · have hf := (if_neg hb44).symm.trans hf
                  refine lv_aload_n hx hb dX12_operand_170 rfl (lv_at hl 0 rfl) ?_
                  refine lv_iconst (v := 0) hx hb dX12_operand_171 (by decide) ?_
                  refine lv_aload_n hx hb dX12_operand_172 rfl (lv_at hl 0 rfl) ?_
                  refine km_get hx hb hts hin hown hK hP 6 (by decide) (v := .ref (ra 6)) k_fieldLink_RX12_33__KeyLettersModel___s____I_ rfl dX12_operand_173 ?_
                  refine lv_iconst (v := 0) hx hb dX12_operand_176 (by decide) ?_
                  refine va_iald hx hb hK hP 2 1 rfl rfl (show ¬ ((0 : Int32) < 0 ∨ 279 ≤ (0 : Int32).toNatClampNeg) by decide +kernel) dX12_operand_177 ?_
                  obtain ⟨v39, M38, hq40, hf⟩ := bo2_e hf
                  refine km_callw (v := v39) (M1 := M38) rfl (km_run (As := [.int (0 : Int32), .int (M22.1 6 (0 : Int32).toNatClampNeg)]) (rest := []) ⟨hx, hb, hml, hown, hts⟩ (c_X12_looksAt l dC dI cB cI cJ cZ ra _ M22 (0 : Int32) (M22.1 6 (0 : Int32).toNatClampNeg) (v39, M38) hq40) (cwV 2 hts gX12_operand_X12_looksAt rfl rfl rfl (by decide +kernel) ⟨Nat.le_of_ble_eq_true rfl, Nat.le_of_ble_eq_true rfl⟩) hK hP (fun _ _ _ _ => mPw_bl) (fun U hU hW => ⟨by rw [hU], by rw [hU]; exact hP, va_K.moved hW.alike hK, hD.weaken (fun _ _ _ _ => trivial)⟩) rfl rfl hl.1 rfl (lv_room (Nat.le_of_ble_eq_true rfl)) dX12_operand_178 ⟨Nat.le_refl _, Nat.le_refl _⟩) hD hS hA (fun H locs hP hD hS => ?_)
                  exact h_181 x3_38 v39 M38 ls _ _ (lv_sub hl [0, 3] rfl) hP hD hS hf
                · have hf := (if_pos hb44).symm.trans hf
                  refine lv_aload_n hx hb dX12_operand_155 rfl (lv_at hl 0 rfl) ?_
                  refine lv_bipush (v := 6) hx hb dX12_operand_156 (by decide) ?_
                  refine lv_aload_n hx hb dX12_operand_158 rfl (lv_at hl 0 rfl) ?_
                  refine km_get hx hb hts hin hown hK hP 6 (by decide) (v := .ref (ra 6)) k_fieldLink_RX12_33__KeyLettersModel___s____I_ rfl dX12_operand_159 ?_
                  refine lv_iconst (v := 1) hx hb dX12_operand_162 (by decide) ?_
                  refine va_iald hx hb hK hP 2 1 rfl rfl (show ¬ ((1 : Int32) < 0 ∨ 279 ≤ (1 : Int32).toNatClampNeg) by decide +kernel) dX12_operand_163 ?_
                  obtain ⟨v42, M41, hq43, hf⟩ := bo2_e hf
                  refine km_callw (v := v42) (M1 := M41) rfl (km_run (As := [.int (6 : Int32), .int (M22.1 6 (1 : Int32).toNatClampNeg)]) (rest := []) ⟨hx, hb, hml, hown, hts⟩ (c_X12_looksAt l dC dI cB cI cJ cZ ra _ M22 (6 : Int32) (M22.1 6 (1 : Int32).toNatClampNeg) (v42, M41) hq43) (cwV 2 hts gX12_operand_X12_looksAt rfl rfl rfl (by decide +kernel) ⟨Nat.le_of_ble_eq_true rfl, Nat.le_of_ble_eq_true rfl⟩) hK hP (fun _ _ _ _ => mPw_bl) (fun U hU hW => ⟨by rw [hU], by rw [hU]; exact hP, va_K.moved hW.alike hK, hD.weaken (fun _ _ _ _ => trivial)⟩) rfl rfl hl.1 rfl (lv_room (Nat.le_of_ble_eq_true rfl)) dX12_operand_164 ⟨Nat.le_refl _, Nat.le_refl _⟩) hD hS hA (fun H locs hP hD hS => ?_)
                  refine lv_goto (tgt := 181) hx hb dX12_operand_167 (by decide) ?_
                  exact h_181 x3_38 v42 M41 ls _ _ (lv_sub hl [0, 3] rfl) hP hD hS hf
            · have hf := (if_neg hb48).symm.trans hf
              refine lv_aload_n hx hb dX12_operand_136 rfl (lv_at hl 0 rfl) ?_
              refine lv_iload_n hx hb dX12_operand_137 rfl (lv_at hl 3 rfl) ?_
              refine lv_iconst (v := 0) hx hb dX12_operand_138 (by decide) ?_
              refine lv_iconst (v := 0) hx hb dX12_operand_139 (by decide) ?_
              obtain ⟨M46, hq47, hf⟩ := bo_e hf
              refine km_callwv (M1 := M46) (km_run (As := [.int x3_38, .int (0 : Int32), .int (0 : Int32)]) (rest := []) ⟨hx, hb, hml, hown, hts⟩ (c_X12_code l dC dI cB cI cJ cZ ra _ M22 x3_38 (0 : Int32) (0 : Int32) M46 hq47) (cwV 3 hts gX12_operand_X12_code rfl rfl rfl (by decide +kernel) ⟨Nat.le_of_ble_eq_true rfl, Nat.le_of_ble_eq_true rfl⟩) hK hP (fun _ _ _ _ => mPw_bl) (fun U hU hW => ⟨by rw [hU], by rw [hU]; exact hP, va_K.moved hW.alike hK, hD.weaken (fun _ _ _ _ => trivial)⟩) rfl rfl hl.1 rfl (lv_room (Nat.le_of_ble_eq_true rfl)) dX12_operand_140 ⟨Nat.le_refl _, Nat.le_refl _⟩) hD hS hA (fun H locs hP hD hS => ?_)
              refine lv_iconst (v := 1) hx hb dX12_operand_143 (by decide) ?_
              have hf := Option.some.inj hf
              subst hf
              exact m_zret hx hb hr rfl hlocks hP hK hD hS dX12_operand_144
          · have hf := (if_neg hb49).symm.trans hf
            exact h_84 x1_38 M20 ls _ _ (lv_sub hl [0, 1] rfl) hP hD hS hf
      · have hf := (if_neg hb51).symm.trans hf
        exact h_56  M_38 ls _ _ (lv_sub hl [0] rfl) hP hD hS hf
  refine lv_aload_n hx hb dX12_operand_0 rfl (lv_at hl 0 rfl) ?_
  refine lv_ldc2 (v := 7237492) hx hb hown k_constantLong_RX12_123_7237492 dX12_operand_1 ?_
  refine ko_call (v := some (.int (f_X12_isWord (7237492 : Int64) M))) (km_run (As := [.long (7237492 : Int64)]) (rest := []) ⟨hx, hb, hml, hown, hts⟩ (c_X12_isWord l dC dI cB cI cJ cZ ra M (7237492 : Int64) _ rfl) (cwV 1 hts gX12_operand_X12_isWord rfl rfl rfl (by decide +kernel) ⟨Nat.le_of_ble_eq_true rfl, Nat.le_of_ble_eq_true rfl⟩) hK hP (fun _ _ _ _ => mPr_bl) (fun U hU hW => ⟨by rw [hU]; exact hP, va_K.moved hW.alike hK⟩) rfl rfl hl.1 rfl (lv_room (Nat.le_of_ble_eq_true rfl)) dX12_operand_4 ⟨Nat.le_refl _, Nat.le_refl _⟩) ?_
  obtain ⟨v53, ev53, hf⟩ := bd1_e hf
  refine kt_i ev53 ?_
  refine lv_istore_n (nL := 5) (lv' := [(1, .int v53), (0, .ref (ra 0))]) hx hb dX12_operand_7 rfl hl (by decide) rfl (fun ls hl => ?_)
  refine lv_aload_n hx hb dX12_operand_8 rfl (lv_at hl 1 rfl) ?_
  refine lv_bipush (v := 40) hx hb dX12_operand_9 (by decide) ?_
  refine ko_call (v := some (.int (f_X12_isSign (40 : Int32) M))) (km_run (As := [.int (40 : Int32)]) (rest := []) ⟨hx, hb, hml, hown, hts⟩ (c_X12_isSign l dC dI cB cI cJ cZ ra M (40 : Int32) _ rfl) (cwV 1 hts gX12_operand_X12_isSign rfl rfl rfl (by decide +kernel) ⟨Nat.le_of_ble_eq_true rfl, Nat.le_of_ble_eq_true rfl⟩) hK hP (fun _ _ _ _ => mPr_bl) (fun U hU hW => ⟨by rw [hU]; exact hP, va_K.moved hW.alike hK⟩) rfl rfl hl.1 rfl (lv_room (Nat.le_of_ble_eq_true rfl)) dX12_operand_11 ⟨Nat.le_refl _, Nat.le_refl _⟩) ?_
  obtain ⟨v54, ev54, hf⟩ := bd1_e hf
  refine kt_i ev54 ?_
  refine lv_istore_n (nL := 5) (lv' := [(2, .int v54), (1, .int v53), (0, .ref (ra 0))]) hx hb dX12_operand_14 rfl hl (by decide) rfl (fun ls hl => ?_)
  refine lv_aload_n hx hb dX12_operand_15 rfl (lv_at hl 2 rfl) ?_
  refine ko_call (v := some (.int (f_X12_leafOf M))) (km_run (As := []) (rest := []) ⟨hx, hb, hml, hown, hts⟩ (c_X12_leafOf l dC dI cB cI cJ cZ ra M  _ rfl) (cwV 0 hts gX12_operand_X12_leafOf rfl rfl rfl (by decide +kernel) ⟨Nat.le_of_ble_eq_true rfl, Nat.le_of_ble_eq_true rfl⟩) hK hP (fun _ _ _ _ => mPr_bl) (fun U hU hW => ⟨by rw [hU]; exact hP, va_K.moved hW.alike hK⟩) rfl rfl hl.1 rfl (lv_room (Nat.le_of_ble_eq_true rfl)) dX12_operand_16 ⟨Nat.le_refl _, Nat.le_refl _⟩) ?_
  obtain ⟨v55, ev55, hf⟩ := bd1_e hf
  refine kt_i ev55 ?_
  refine lv_istore_n (nL := 5) (lv' := [(3, .int v55), (2, .int v54), (1, .int v53), (0, .ref (ra 0))]) hx hb dX12_operand_19 rfl hl (by decide) rfl (fun ls hl => ?_)
  refine lv_iload_n hx hb dX12_operand_20 rfl (lv_at hl 2 rfl) ?_
  refine lv_if_ne (tgt := 38) hx hb dX12_operand_21 (by decide) (fun hb62 => ?_) (fun hb62 => ?_)
  · have hf := (if_neg hb62).symm.trans hf
    exact h_38 v53 v54 v55 M ls _ _ (lv_sub hl [3, 2, 1, 0] rfl) hP hD hS hf
  · have hf := (if_pos hb62).symm.trans hf
    refine lv_iload_n hx hb dX12_operand_24 rfl (lv_at hl 1 rfl) ?_
    refine lv_if_ne (tgt := 38) hx hb dX12_operand_25 (by decide) (fun hb61 => ?_) (fun hb61 => ?_)
    · have hf := (if_neg hb61).symm.trans hf
      exact h_38 v53 v54 v55 M ls _ _ (lv_sub hl [3, 2, 1, 0] rfl) hP hD hS hf
    · have hf := (if_pos hb61).symm.trans hf
      refine lv_iload_n hx hb dX12_operand_28 rfl (lv_at hl 0 rfl) ?_
      refine lv_if_ge (tgt := 38) hx hb dX12_operand_29 (by decide) (fun hb60 => ?_) (fun hb60 => ?_)
      · have hf := (if_pos hb60).symm.trans hf
        exact h_38 v53 v54 v55 M ls _ _ (lv_sub hl [3, 2, 1, 0] rfl) hP hD hS hf
      · have hf := (if_neg hb60).symm.trans hf
        refine lv_aload_n hx hb dX12_operand_32 rfl (lv_at hl 3 rfl) ?_
        refine lv_iconst (v := 1) hx hb dX12_operand_33 (by decide) ?_
        obtain ⟨v57, M56, hq58, hf⟩ := bo2_e hf
        refine km_callw (v := v57) (M1 := M56) rfl (km_run (As := [.int (1 : Int32)]) (rest := []) ⟨hx, hb, hml, hown, hts⟩ (c_X12_bad l dC dI cB cI cJ cZ ra _ M (1 : Int32) (v57, M56) hq58) (cwV 1 hts gX12_operand_X12_bad rfl rfl rfl (by decide +kernel) ⟨Nat.le_of_ble_eq_true rfl, Nat.le_of_ble_eq_true rfl⟩) hK hP (fun _ _ _ _ => mPw_bl) (fun U hU hW => ⟨by rw [hU], by rw [hU]; exact hP, va_K.moved hW.alike hK, hD.weaken (fun _ _ _ _ => trivial)⟩) rfl rfl hl.1 rfl (lv_room (Nat.le_of_ble_eq_true rfl)) dX12_operand_34 ⟨Nat.le_refl _, Nat.le_refl _⟩) hD hS hA (fun H locs hP hD hS => ?_)
        obtain ⟨hz59, hf⟩ := ck_e hf
        have hf := Option.some.inj hf
        subst hf
        exact m_zret hx hb hr (kt_z (Decidable.not_not.mp hz59)) hlocks hP hK hD hS dX12_operand_37

abbrev rm_X12_behind : Room := { frames := 2, cells := 0, slots := 0, locals := 44 }
set_option maxHeartbeats 4000000 in
set_option maxRecDepth 100000 in
theorem c_X12_behind (l : Launch) (dC : Nat → ClassId) (dI : Nat → Nat → Nat) (cB cI cJ cZ : ClassId) (ra : Nat → Nat) (sz : Nat) (M : kD)  (r : (Int32 × kD)) (hf : f_X12_behind  M = some r) : Met l yX12_behind wsX12_behind rm_X12_behind (va_Pc [.ref (ra 0)] (mPw dC dI cB cI cJ cZ ra sz M)) (mQi dC dI cB cI cJ cZ ra sz r) 0 0 (mA ra sz) := by
  refine Met.ofW (cc := cX12_behind) (maxL := 1) (ret := (some .boolean)) (by decide) rfl ?_
  intro p e s m args below meth c s₁ B hml hv
  obtain ⟨hav, hsz, hP, hK, hD0⟩ := hv
  have hx := B.exec
  have hb := B.bytes
  have hr := B.returns
  have hts := atoms_spec (ws := wsX12_behind) B.pre
  have hown : s.vm.findClass RX12 = some m.cls := findClass_of_methodNamed B.named
  have hlocks := B.notSynchronized
  subst hsz
  have hA : ∀ q, s.heap.size ≤ q → mA ra s.heap.size q := fun q h => Or.inr h
  have hD : va_D (mA ra s.heap.size) (mw cB cI cJ cZ ra M) := hD0.weaken (fun k q h _ => mA_in h)
  have hS : va_S (mA ra s.heap.size) s.heap s.heap [] := va_S.rf
  have hin : ∀ w ∈ wsX120, w ∈ wsX12_behind := fun w h => List.mem_cons_of_mem _ (List.mem_append_right _ h)
  have k_constantLong_RX12_119_28530 := hts (.constantLong RX12 119 28530) (by decide +kernel)
  have k_constantLong_RX12_121_6385252 := hts (.constantLong RX12 121 6385252) (by decide +kernel)
  have k_fieldLink_RX12_419__KeyLettersModel___top___I_ := hts (.fieldLink RX12 419 "KeyLettersModel" "top" "I") (by decide +kernel)
  have k_fieldLink_RX12_426__KeyLettersModel___deep___I_ := hts (.fieldLink RX12 426 "KeyLettersModel" "deep" "I") (by decide +kernel)
  have k_fieldLink_RX12_435__KeyLettersModel___isWhole___Z_ := hts (.fieldLink RX12 435 "KeyLettersModel" "isWhole" "Z") (by decide +kernel)
  have k_fieldLink_RX12_83__KeyLettersModel___stack____I_ := hts (.fieldLink RX12 83 "KeyLettersModel" "stack" "[I") (by decide +kernel)
  have hl := lv_entry ([.ref (ra 0)]) (n := 1) (Nat.le_of_ble_eq_true rfl)
  rw [show entryFrame m args 1 = entryFrame m ([.ref (ra 0)] : List Value).toArray 1 from by rw [hav], lg_entry_eq]
  generalize (lg_sl ([.ref (ra 0)]) ++ List.replicate (1 - (lg_sl ([.ref (ra 0)])).length) Slot.unset).toArray = ls at hl ⊢
  have hl : lv_has ls 1 [(0, .ref (ra 0))] := hl
  unfold f_X12_behind at hf
  have h_24 : ∀ (M_24 : kD) (ls : Array Slot) (H : Heap) (locs : List Loc), lv_has ls 1 [(0, .ref (ra 0))] → va_P (dC, dI) vwCl (mw cB cI cJ cZ ra M_24) H → va_D (mA ra s.heap.size) (mw cB cI cJ cZ ra M_24) → va_S (mA ra s.heap.size) s.heap H locs → g_X12_behind_24  M_24 = some r → W p l e (headSpec wsX12_behind rm_X12_behind).room s m args below meth c H locs 0 0 (MQ below (mQi dC dI cB cI cJ cZ ra s.heap.size r) args s 0 0 (mA ra s.heap.size)) (F0 m 24 ls []) := by
    intro  M_24 ls H locs hl hP hD hS hf
    unfold g_X12_behind_24 at hf
    have h_42 : ∀ (t1_42 : Int32) (M_42 : kD) (ls : Array Slot) (H : Heap) (locs : List Loc), lv_has ls 1 [(0, .ref (ra 0))] → va_P (dC, dI) vwCl (mw cB cI cJ cZ ra M_42) H → va_D (mA ra s.heap.size) (mw cB cI cJ cZ ra M_42) → va_S (mA ra s.heap.size) s.heap H locs → g_X12_behind_42 t1_42 M_42 = some r → W p l e (headSpec wsX12_behind rm_X12_behind).room s m args below meth c H locs 0 0 (MQ below (mQi dC dI cB cI cJ cZ ra s.heap.size r) args s 0 0 (mA ra s.heap.size)) (F0 m 42 ls [.int t1_42, .ref (ra 0)]) := by
      intro t1_42 M_42 ls H locs hl hP hD hS hf
      unfold g_X12_behind_42 at hf
      have h_70 : ∀ (t1_70 : Int32) (t2_70 : Int32) (M_70 : kD) (ls : Array Slot) (H : Heap) (locs : List Loc), lv_has ls 1 [(0, .ref (ra 0))] → va_P (dC, dI) vwCl (mw cB cI cJ cZ ra M_70) H → va_D (mA ra s.heap.size) (mw cB cI cJ cZ ra M_70) → va_S (mA ra s.heap.size) s.heap H locs → g_X12_behind_70 t1_70 t2_70 M_70 = some r → W p l e (headSpec wsX12_behind rm_X12_behind).room s m args below meth c H locs 0 0 (MQ below (mQi dC dI cB cI cJ cZ ra s.heap.size r) args s 0 0 (mA ra s.heap.size)) (F0 m 70 ls [.int t2_70, .int t1_70, .ref (ra 39)]) := by
        intro t1_70 t2_70 M_70 ls H locs hl hP hD hS hf
        unfold g_X12_behind_70 at hf
        obtain ⟨hc1, hf⟩ := ck_e hf
        obtain ⟨M2, eM2, hf⟩ := bd1_e hf
        refine va_iast hx hb hK hP hD hS 16 1 rfl rfl hc1 dX12_behind_70 (fun H locs hP hD hS => ?_)
        have hP : va_P (dC, dI) vwCl (mw cB cI cJ cZ ra M2) H := by rw [eM2, ← ma_39 cB cI cJ cZ ra M_70 t1_70.toNatClampNeg t2_70]; exact hP
        have hD : va_D (mA ra s.heap.size) (mw cB cI cJ cZ ra M2) := by rw [eM2, ← ma_39 cB cI cJ cZ ra M_70 t1_70.toNatClampNeg t2_70]; exact hD
        refine lv_aload_n hx hb dX12_behind_71 rfl (lv_at hl 0 rfl) ?_
        refine lv_dup hx hb dX12_behind_72 rfl ?_
        refine km_get hx hb hts hin hown hK hP 42 (by decide) (v := .int (M2.1 0 42)) k_fieldLink_RX12_419__KeyLettersModel___top___I_ rfl dX12_behind_73 ?_
        refine lv_iconst (v := 1) hx hb dX12_behind_76 (by decide) ?_
        refine lv_iadd hx hb dX12_behind_77 ?_
        obtain ⟨M3, eM3, hf⟩ := bd1_e hf
        refine km_put hx hb hts hin hown hK hP hD hS 42 (by decide) k_fieldLink_RX12_419__KeyLettersModel___top___I_ rfl (ty := .int) (v := .int ((M2.1 0 42) + (1 : Int32))) (by decide +kernel) rfl rfl (M1 := M3) (by rw [eM3]; exact mo_42 cB cI cJ cZ ra M2 ((M2.1 0 42) + (1 : Int32))) dX12_behind_78 (fun H locs hP hD hS => ?_)
        refine lv_aload_n hx hb dX12_behind_81 rfl (lv_at hl 0 rfl) ?_
        refine lv_iconst (v := 0) hx hb dX12_behind_82 (by decide) ?_
        obtain ⟨M4, eM4, hf⟩ := bd1_e hf
        refine km_put hx hb hts hin hown hK hP hD hS 44 (by decide) k_fieldLink_RX12_435__KeyLettersModel___isWhole___Z_ rfl (ty := .boolean) (v := .int (0 : Int32)) (by decide +kernel) rfl rfl (M1 := M4) (by rw [eM4]; exact mo_44 cB cI cJ cZ ra M3 (0 : Int32)) dX12_behind_83 (fun H locs hP hD hS => ?_)
        refine lv_aload_n hx hb dX12_behind_86 rfl (lv_at hl 0 rfl) ?_
        obtain ⟨M5, hq6, hf⟩ := bo_e hf
        refine km_callwv (M1 := M5) (km_run (As := []) (rest := []) ⟨hx, hb, hml, hown, hts⟩ (c_X12_next l dC dI cB cI cJ cZ ra _ M4  M5 hq6) (cwV 0 hts gX12_behind_X12_next rfl rfl rfl (by decide +kernel) ⟨Nat.le_of_ble_eq_true rfl, Nat.le_of_ble_eq_true rfl⟩) hK hP (fun _ _ _ _ => mPw_bl) (fun U hU hW => ⟨by rw [hU], by rw [hU]; exact hP, va_K.moved hW.alike hK, hD.weaken (fun _ _ _ _ => trivial)⟩) rfl rfl hl.1 rfl (lv_room (Nat.le_of_ble_eq_true rfl)) dX12_behind_87 ⟨Nat.le_refl _, Nat.le_refl _⟩) hD hS hA (fun H locs hP hD hS => ?_)
        refine lv_iconst (v := 1) hx hb dX12_behind_90 (by decide) ?_
        have hf := Option.some.inj hf
        subst hf
        exact m_zret hx hb hr rfl hlocks hP hK hD hS dX12_behind_91
      obtain ⟨M7, hq8, hf⟩ := bo_e hf
      refine km_callwv (M1 := M7) (km_run (As := [.int t1_42]) (rest := []) ⟨hx, hb, hml, hown, hts⟩ (c_X12_joins l dC dI cB cI cJ cZ ra _ M_42 t1_42 M7 hq8) (cwV 1 hts gX12_behind_X12_joins rfl rfl rfl (by decide +kernel) ⟨Nat.le_of_ble_eq_true rfl, Nat.le_of_ble_eq_true rfl⟩) hK hP (fun _ _ _ _ => mPw_bl) (fun U hU hW => ⟨by rw [hU], by rw [hU]; exact hP, va_K.moved hW.alike hK, hD.weaken (fun _ _ _ _ => trivial)⟩) rfl rfl hl.1 rfl (lv_room (Nat.le_of_ble_eq_true rfl)) dX12_behind_42 ⟨Nat.le_refl _, Nat.le_refl _⟩) hD hS hA (fun H locs hP hD hS => ?_)
      refine lv_aload_n hx hb dX12_behind_45 rfl (lv_at hl 0 rfl) ?_
      refine km_get hx hb hts hin hown hK hP 39 (by decide) (v := .ref (ra 39)) k_fieldLink_RX12_83__KeyLettersModel___stack____I_ rfl dX12_behind_46 ?_
      refine lv_aload_n hx hb dX12_behind_49 rfl (lv_at hl 0 rfl) ?_
      refine km_get hx hb hts hin hown hK hP 42 (by decide) (v := .int (M7.1 0 42)) k_fieldLink_RX12_419__KeyLettersModel___top___I_ rfl dX12_behind_50 ?_
      refine lv_aload_n hx hb dX12_behind_53 rfl (lv_at hl 0 rfl) ?_
      refine lv_ldc2 (v := 6385252) hx hb hown k_constantLong_RX12_121_6385252 dX12_behind_54 ?_
      refine ko_call (v := some (.int (f_X12_isWord (6385252 : Int64) M7))) (km_run (As := [.long (6385252 : Int64)]) (rest := [.int (M7.1 0 42), .ref (ra 39)]) ⟨hx, hb, hml, hown, hts⟩ (c_X12_isWord l dC dI cB cI cJ cZ ra M7 (6385252 : Int64) _ rfl) (cwV 1 hts gX12_behind_X12_isWord rfl rfl rfl (by decide +kernel) ⟨Nat.le_of_ble_eq_true rfl, Nat.le_of_ble_eq_true rfl⟩) hK hP (fun _ _ _ _ => mPr_bl) (fun U hU hW => ⟨by rw [hU]; exact hP, va_K.moved hW.alike hK⟩) rfl rfl hl.1 rfl (lv_room (Nat.le_of_ble_eq_true rfl)) dX12_behind_57 ⟨Nat.le_refl _, Nat.le_refl _⟩) ?_
      refine lv_if_eq (tgt := 68) hx hb dX12_behind_60 (by decide) (fun hb9 => ?_) (fun hb9 => ?_)
      · have hf := (if_pos hb9).symm.trans hf
        refine lv_bipush (v := 22) hx hb dX12_behind_68 (by decide) ?_
        exact h_70 (M7.1 0 42) (22 : Int32) M7 ls _ _ hl hP hD hS hf
      · have hf := (if_neg hb9).symm.trans hf
        refine lv_bipush (v := 21) hx hb dX12_behind_63 (by decide) ?_
        refine lv_goto (tgt := 70) hx hb dX12_behind_65 (by decide) ?_
        exact h_70 (M7.1 0 42) (21 : Int32) M7 ls _ _ hl hP hD hS hf
    refine lv_aload_n hx hb dX12_behind_24 rfl (lv_at hl 0 rfl) ?_
    refine lv_aload_n hx hb dX12_behind_25 rfl (lv_at hl 0 rfl) ?_
    refine lv_ldc2 (v := 6385252) hx hb hown k_constantLong_RX12_121_6385252 dX12_behind_26 ?_
    refine ko_call (v := some (.int (f_X12_isWord (6385252 : Int64) M_24))) (km_run (As := [.long (6385252 : Int64)]) (rest := [.ref (ra 0)]) ⟨hx, hb, hml, hown, hts⟩ (c_X12_isWord l dC dI cB cI cJ cZ ra M_24 (6385252 : Int64) _ rfl) (cwV 1 hts gX12_behind_X12_isWord rfl rfl rfl (by decide +kernel) ⟨Nat.le_of_ble_eq_true rfl, Nat.le_of_ble_eq_true rfl⟩) hK hP (fun _ _ _ _ => mPr_bl) (fun U hU hW => ⟨by rw [hU]; exact hP, va_K.moved hW.alike hK⟩) rfl rfl hl.1 rfl (lv_room (Nat.le_of_ble_eq_true rfl)) dX12_behind_29 ⟨Nat.le_refl _, Nat.le_refl _⟩) ?_
    refine lv_if_eq (tgt := 40) hx hb dX12_behind_32 (by decide) (fun hb10 => ?_) (fun hb10 => ?_)
    · have hf := (if_pos hb10).symm.trans hf
      refine lv_bipush (v := 22) hx hb dX12_behind_40 (by decide) ?_
      exact h_42 (22 : Int32) M_24 ls _ _ hl hP hD hS hf
    · have hf := (if_neg hb10).symm.trans hf
      refine lv_bipush (v := 21) hx hb dX12_behind_35 (by decide) ?_
      refine lv_goto (tgt := 42) hx hb dX12_behind_37 (by decide) ?_
      exact h_42 (21 : Int32) M_24 ls _ _ hl hP hD hS hf
  have h_114 : ∀ (M_114 : kD) (ls : Array Slot) (H : Heap) (locs : List Loc), lv_has ls 1 [(0, .ref (ra 0))] → va_P (dC, dI) vwCl (mw cB cI cJ cZ ra M_114) H → va_D (mA ra s.heap.size) (mw cB cI cJ cZ ra M_114) → va_S (mA ra s.heap.size) s.heap H locs → g_X12_behind_114  M_114 = some r → W p l e (headSpec wsX12_behind rm_X12_behind).room s m args below meth c H locs 0 0 (MQ below (mQi dC dI cB cI cJ cZ ra s.heap.size r) args s 0 0 (mA ra s.heap.size)) (F0 m 114 ls []) := by
    intro  M_114 ls H locs hl hP hD hS hf
    unfold g_X12_behind_114 at hf
    refine lv_aload_n hx hb dX12_behind_114 rfl (lv_at hl 0 rfl) ?_
    refine lv_iconst (v := 1) hx hb dX12_behind_115 (by decide) ?_
    obtain ⟨v12, M11, hq13, hf⟩ := bo2_e hf
    refine km_callw (v := v12) (M1 := M11) rfl (km_run (As := [.int (1 : Int32)]) (rest := []) ⟨hx, hb, hml, hown, hts⟩ (c_X12_bad l dC dI cB cI cJ cZ ra _ M_114 (1 : Int32) (v12, M11) hq13) (cwV 1 hts gX12_behind_X12_bad rfl rfl rfl (by decide +kernel) ⟨Nat.le_of_ble_eq_true rfl, Nat.le_of_ble_eq_true rfl⟩) hK hP (fun _ _ _ _ => mPw_bl) (fun U hU hW => ⟨by rw [hU], by rw [hU]; exact hP, va_K.moved hW.alike hK, hD.weaken (fun _ _ _ _ => trivial)⟩) rfl rfl hl.1 rfl (lv_room (Nat.le_of_ble_eq_true rfl)) dX12_behind_116 ⟨Nat.le_refl _, Nat.le_refl _⟩) hD hS hA (fun H locs hP hD hS => ?_)
    obtain ⟨hz14, hf⟩ := ck_e hf
    have hf := Option.some.inj hf
    subst hf
    exact m_zret hx hb hr (kt_z (Decidable.not_not.mp hz14)) hlocks hP hK hD hS dX12_behind_119
  refine lv_aload_n hx hb dX12_behind_0 rfl (lv_at hl 0 rfl) ?_
  obtain ⟨M15, hq16, hf⟩ := bo_e hf
  refine km_callwv (M1 := M15) (km_run (As := []) (rest := []) ⟨hx, hb, hml, hown, hts⟩ (c_X12_nots l dC dI cB cI cJ cZ ra _ M  M15 hq16) (cwV 0 hts gX12_behind_X12_nots rfl rfl rfl (by decide +kernel) ⟨Nat.le_of_ble_eq_true rfl, Nat.le_of_ble_eq_true rfl⟩) hK hP (fun _ _ _ _ => mPw_bl) (fun U hU hW => ⟨by rw [hU], by rw [hU]; exact hP, va_K.moved hW.alike hK, hD.weaken (fun _ _ _ _ => trivial)⟩) rfl rfl hl.1 rfl (lv_room (Nat.le_of_ble_eq_true rfl)) dX12_behind_1 ⟨Nat.le_refl _, Nat.le_refl _⟩) hD hS hA (fun H locs hP hD hS => ?_)
  refine lv_aload_n hx hb dX12_behind_4 rfl (lv_at hl 0 rfl) ?_
  refine lv_ldc2 (v := 6385252) hx hb hown k_constantLong_RX12_121_6385252 dX12_behind_5 ?_
  refine ko_call (v := some (.int (f_X12_isWord (6385252 : Int64) M15))) (km_run (As := [.long (6385252 : Int64)]) (rest := []) ⟨hx, hb, hml, hown, hts⟩ (c_X12_isWord l dC dI cB cI cJ cZ ra M15 (6385252 : Int64) _ rfl) (cwV 1 hts gX12_behind_X12_isWord rfl rfl rfl (by decide +kernel) ⟨Nat.le_of_ble_eq_true rfl, Nat.le_of_ble_eq_true rfl⟩) hK hP (fun _ _ _ _ => mPr_bl) (fun U hU hW => ⟨by rw [hU]; exact hP, va_K.moved hW.alike hK⟩) rfl rfl hl.1 rfl (lv_room (Nat.le_of_ble_eq_true rfl)) dX12_behind_8 ⟨Nat.le_refl _, Nat.le_refl _⟩) ?_
  refine lv_if_ne (tgt := 24) hx hb dX12_behind_11 (by decide) (fun hb26 => ?_) (fun hb26 => ?_)
  · have hf := (if_neg hb26).symm.trans hf
    exact h_24  M15 ls _ _ hl hP hD hS hf
  · have hf := (if_pos hb26).symm.trans hf
    refine lv_aload_n hx hb dX12_behind_14 rfl (lv_at hl 0 rfl) ?_
    refine lv_ldc2 (v := 28530) hx hb hown k_constantLong_RX12_119_28530 dX12_behind_15 ?_
    refine ko_call (v := some (.int (f_X12_isWord (28530 : Int64) M15))) (km_run (As := [.long (28530 : Int64)]) (rest := []) ⟨hx, hb, hml, hown, hts⟩ (c_X12_isWord l dC dI cB cI cJ cZ ra M15 (28530 : Int64) _ rfl) (cwV 1 hts gX12_behind_X12_isWord rfl rfl rfl (by decide +kernel) ⟨Nat.le_of_ble_eq_true rfl, Nat.le_of_ble_eq_true rfl⟩) hK hP (fun _ _ _ _ => mPr_bl) (fun U hU hW => ⟨by rw [hU]; exact hP, va_K.moved hW.alike hK⟩) rfl rfl hl.1 rfl (lv_room (Nat.le_of_ble_eq_true rfl)) dX12_behind_18 ⟨Nat.le_refl _, Nat.le_refl _⟩) ?_
    refine lv_if_eq (tgt := 92) hx hb dX12_behind_21 (by decide) (fun hb25 => ?_) (fun hb25 => ?_)
    · have hf := (if_pos hb25).symm.trans hf
      refine lv_aload_n hx hb dX12_behind_92 rfl (lv_at hl 0 rfl) ?_
      refine lv_bipush (v := 22) hx hb dX12_behind_93 (by decide) ?_
      obtain ⟨M17, hq18, hf⟩ := bo_e hf
      refine km_callwv (M1 := M17) (km_run (As := [.int (22 : Int32)]) (rest := []) ⟨hx, hb, hml, hown, hts⟩ (c_X12_joins l dC dI cB cI cJ cZ ra _ M15 (22 : Int32) M17 hq18) (cwV 1 hts gX12_behind_X12_joins rfl rfl rfl (by decide +kernel) ⟨Nat.le_of_ble_eq_true rfl, Nat.le_of_ble_eq_true rfl⟩) hK hP (fun _ _ _ _ => mPw_bl) (fun U hU hW => ⟨by rw [hU], by rw [hU]; exact hP, va_K.moved hW.alike hK, hD.weaken (fun _ _ _ _ => trivial)⟩) rfl rfl hl.1 rfl (lv_room (Nat.le_of_ble_eq_true rfl)) dX12_behind_95 ⟨Nat.le_refl _, Nat.le_refl _⟩) hD hS hA (fun H locs hP hD hS => ?_)
      refine lv_aload_n hx hb dX12_behind_98 rfl (lv_at hl 0 rfl) ?_
      refine lv_bipush (v := 41) hx hb dX12_behind_99 (by decide) ?_
      refine ko_call (v := some (.int (f_X12_isSign (41 : Int32) M17))) (km_run (As := [.int (41 : Int32)]) (rest := []) ⟨hx, hb, hml, hown, hts⟩ (c_X12_isSign l dC dI cB cI cJ cZ ra M17 (41 : Int32) _ rfl) (cwV 1 hts gX12_behind_X12_isSign rfl rfl rfl (by decide +kernel) ⟨Nat.le_of_ble_eq_true rfl, Nat.le_of_ble_eq_true rfl⟩) hK hP (fun _ _ _ _ => mPr_bl) (fun U hU hW => ⟨by rw [hU]; exact hP, va_K.moved hW.alike hK⟩) rfl rfl hl.1 rfl (lv_room (Nat.le_of_ble_eq_true rfl)) dX12_behind_101 ⟨Nat.le_refl _, Nat.le_refl _⟩) ?_
      refine lv_if_eq (tgt := 114) hx hb dX12_behind_104 (by decide) (fun hb24 => ?_) (fun hb24 => ?_)
      · have hf := (if_pos hb24).symm.trans hf
        exact h_114  M17 ls _ _ hl hP hD hS hf
      · have hf := (if_neg hb24).symm.trans hf
        refine lv_aload_n hx hb dX12_behind_107 rfl (lv_at hl 0 rfl) ?_
        refine km_get hx hb hts hin hown hK hP 42 (by decide) (v := .int (M17.1 0 42)) k_fieldLink_RX12_419__KeyLettersModel___top___I_ rfl dX12_behind_108 ?_
        refine lv_if_ne (tgt := 120) hx hb dX12_behind_111 (by decide) (fun hb23 => ?_) (fun hb23 => ?_)
        · have hf := (if_neg hb23).symm.trans hf
          refine lv_aload_n hx hb dX12_behind_120 rfl (lv_at hl 0 rfl) ?_
          refine lv_dup hx hb dX12_behind_121 rfl ?_
          refine km_get hx hb hts hin hown hK hP 42 (by decide) (v := .int (M17.1 0 42)) k_fieldLink_RX12_419__KeyLettersModel___top___I_ rfl dX12_behind_122 ?_
          refine lv_iconst (v := 1) hx hb dX12_behind_125 (by decide) ?_
          refine lv_isub hx hb dX12_behind_126 ?_
          obtain ⟨M19, eM19, hf⟩ := bd1_e hf
          refine km_put hx hb hts hin hown hK hP hD hS 42 (by decide) k_fieldLink_RX12_419__KeyLettersModel___top___I_ rfl (ty := .int) (v := .int ((M17.1 0 42) - (1 : Int32))) (by decide +kernel) rfl rfl (M1 := M19) (by rw [eM19]; exact mo_42 cB cI cJ cZ ra M17 ((M17.1 0 42) - (1 : Int32))) dX12_behind_127 (fun H locs hP hD hS => ?_)
          refine lv_aload_n hx hb dX12_behind_130 rfl (lv_at hl 0 rfl) ?_
          refine lv_dup hx hb dX12_behind_131 rfl ?_
          refine km_get hx hb hts hin hown hK hP 43 (by decide) (v := .int (M19.1 0 43)) k_fieldLink_RX12_426__KeyLettersModel___deep___I_ rfl dX12_behind_132 ?_
          refine lv_iconst (v := 1) hx hb dX12_behind_135 (by decide) ?_
          refine lv_isub hx hb dX12_behind_136 ?_
          obtain ⟨M20, eM20, hf⟩ := bd1_e hf
          refine km_put hx hb hts hin hown hK hP hD hS 43 (by decide) k_fieldLink_RX12_426__KeyLettersModel___deep___I_ rfl (ty := .int) (v := .int ((M19.1 0 43) - (1 : Int32))) (by decide +kernel) rfl rfl (M1 := M20) (by rw [eM20]; exact mo_43 cB cI cJ cZ ra M19 ((M19.1 0 43) - (1 : Int32))) dX12_behind_137 (fun H locs hP hD hS => ?_)
          refine lv_aload_n hx hb dX12_behind_140 rfl (lv_at hl 0 rfl) ?_
          obtain ⟨M21, hq22, hf⟩ := bo_e hf
          refine km_callwv (M1 := M21) (km_run (As := []) (rest := []) ⟨hx, hb, hml, hown, hts⟩ (c_X12_next l dC dI cB cI cJ cZ ra _ M20  M21 hq22) (cwV 0 hts gX12_behind_X12_next rfl rfl rfl (by decide +kernel) ⟨Nat.le_of_ble_eq_true rfl, Nat.le_of_ble_eq_true rfl⟩) hK hP (fun _ _ _ _ => mPw_bl) (fun U hU hW => ⟨by rw [hU], by rw [hU]; exact hP, va_K.moved hW.alike hK, hD.weaken (fun _ _ _ _ => trivial)⟩) rfl rfl hl.1 rfl (lv_room (Nat.le_of_ble_eq_true rfl)) dX12_behind_141 ⟨Nat.le_refl _, Nat.le_refl _⟩) hD hS hA (fun H locs hP hD hS => ?_)
          refine lv_iconst (v := 1) hx hb dX12_behind_144 (by decide) ?_
          have hf := Option.some.inj hf
          subst hf
          exact m_zret hx hb hr rfl hlocks hP hK hD hS dX12_behind_145
        · have hf := (if_pos hb23).symm.trans hf
          exact h_114  M17 ls _ _ hl hP hD hS hf
    · have hf := (if_neg hb25).symm.trans hf
      exact h_24  M15 ls _ _ hl hP hD hS hf

abbrev rm_X12_sentence : Room := { frames := 3, cells := 0, slots := 0, locals := 69 }
set_option maxHeartbeats 4000000 in
set_option maxRecDepth 100000 in
theorem c_X12_sentence (l : Launch) (dC : Nat → ClassId) (dI : Nat → Nat → Nat) (cB cI cJ cZ : ClassId) (ra : Nat → Nat) (sz : Nat) (M : kD)  (r : (Int32 × kD)) (hf : f_X12_sentence  M = some r) : Met l yX12_sentence wsX12_sentence rm_X12_sentence (va_Pc [.ref (ra 0)] (mPw dC dI cB cI cJ cZ ra sz M)) (mQi dC dI cB cI cJ cZ ra sz r) 0 0 (mA ra sz) := by
  refine Met.ofW (cc := cX12_sentence) (maxL := 3) (ret := (some .int)) (by decide) rfl ?_
  intro p e s m args below meth c s₁ B hml hv
  obtain ⟨hav, hsz, hP, hK, hD0⟩ := hv
  have hx := B.exec
  have hb := B.bytes
  have hr := B.returns
  have hts := atoms_spec (ws := wsX12_sentence) B.pre
  have hown : s.vm.findClass RX12 = some m.cls := findClass_of_methodNamed B.named
  have hlocks := B.notSynchronized
  subst hsz
  have hA : ∀ q, s.heap.size ≤ q → mA ra s.heap.size q := fun q h => Or.inr h
  have hD : va_D (mA ra s.heap.size) (mw cB cI cJ cZ ra M) := hD0.weaken (fun k q h _ => mA_in h)
  have hS : va_S (mA ra s.heap.size) s.heap s.heap [] := va_S.rf
  have hin : ∀ w ∈ wsX120, w ∈ wsX12_sentence := fun w h => List.mem_cons_of_mem _ (List.mem_append_right _ h)
  have k_fieldLink_RX12_154__KeyLettersModel___token___I_ := hts (.fieldLink RX12 154 "KeyLettersModel" "token" "I") (by decide +kernel)
  have k_fieldLink_RX12_171__KeyLettersModel___fault___I_ := hts (.fieldLink RX12 171 "KeyLettersModel" "fault" "I") (by decide +kernel)
  have k_fieldLink_RX12_174__KeyLettersModel___faultAt___I_ := hts (.fieldLink RX12 174 "KeyLettersModel" "faultAt" "I") (by decide +kernel)
  have k_fieldLink_RX12_1__KeyLettersModel___thrown___I_ := hts (.fieldLink RX12 1 "KeyLettersModel" "thrown" "I") (by decide +kernel)
  have k_fieldLink_RX12_33__KeyLettersModel___s____I_ := hts (.fieldLink RX12 33 "KeyLettersModel" "s" "[I") (by decide +kernel)
  have k_fieldLink_RX12_40__KeyLettersModel___read____I_ := hts (.fieldLink RX12 40 "KeyLettersModel" "read" "[I") (by decide +kernel)
  have k_fieldLink_RX12_416__KeyLettersModel___codes___I_ := hts (.fieldLink RX12 416 "KeyLettersModel" "codes" "I") (by decide +kernel)
  have k_fieldLink_RX12_419__KeyLettersModel___top___I_ := hts (.fieldLink RX12 419 "KeyLettersModel" "top" "I") (by decide +kernel)
  have k_fieldLink_RX12_426__KeyLettersModel___deep___I_ := hts (.fieldLink RX12 426 "KeyLettersModel" "deep" "I") (by decide +kernel)
  have k_fieldLink_RX12_432__KeyLettersModel___ones___I_ := hts (.fieldLink RX12 432 "KeyLettersModel" "ones" "I") (by decide +kernel)
  have k_fieldLink_RX12_435__KeyLettersModel___isWhole___Z_ := hts (.fieldLink RX12 435 "KeyLettersModel" "isWhole" "Z") (by decide +kernel)
  have hl := lv_entry ([.ref (ra 0)]) (n := 3) (Nat.le_of_ble_eq_true rfl)
  rw [show entryFrame m args 3 = entryFrame m ([.ref (ra 0)] : List Value).toArray 3 from by rw [hav], lg_entry_eq]
  generalize (lg_sl ([.ref (ra 0)]) ++ List.replicate (3 - (lg_sl ([.ref (ra 0)])).length) Slot.unset).toArray = ls at hl ⊢
  have hl : lv_has ls 3 [(0, .ref (ra 0))] := hl
  unfold f_X12_sentence at hf
  have h_132 : ∀ (M_132 : kD) (ls : Array Slot) (H : Heap) (locs : List Loc), lv_has ls 3 [(0, .ref (ra 0))] → va_P (dC, dI) vwCl (mw cB cI cJ cZ ra M_132) H → va_D (mA ra s.heap.size) (mw cB cI cJ cZ ra M_132) → va_S (mA ra s.heap.size) s.heap H locs → g_X12_sentence_132  M_132 = some r → W p l e (headSpec wsX12_sentence rm_X12_sentence).room s m args below meth c H locs 0 0 (MQ below (mQi dC dI cB cI cJ cZ ra s.heap.size r) args s 0 0 (mA ra s.heap.size)) (F0 m 132 ls []) := by
    intro  M_132 ls H locs hl hP hD hS hf
    unfold g_X12_sentence_132 at hf
    have h_145 := lp_ind (z := (fun _ _ => none)) (b := (g_X12_sentence_145)) (fun (rc_145 : Int32 → kD → Option (Int32 × kD)) => ∀ (x2_145 : Int32) (M_145 : kD) (ls : Array Slot) (H : Heap) (locs : List Loc), lv_has ls 3 [(0, .ref (ra 0)), (2, .int x2_145)] → va_P (dC, dI) vwCl (mw cB cI cJ cZ ra M_145) H → va_D (mA ra s.heap.size) (mw cB cI cJ cZ ra M_145) → va_S (mA ra s.heap.size) s.heap H locs → rc_145 x2_145 M_145 = some r → W p l e (headSpec wsX12_sentence rm_X12_sentence).room s m args below meth c H locs 0 0 (MQ below (mQi dC dI cB cI cJ cZ ra s.heap.size r) args s 0 0 (mA ra s.heap.size)) (F0 m 145 ls [])) (by
        intro x2_145 M_145 ls H locs hl hP hD hS hf
        cases hf) (by
        intro rc_145 ih_145 x2_145 M_145 ls H locs hl hP hD hS hf
        unfold g_X12_sentence_145 at hf
        refine lv_iload_n hx hb dX12_sentence_145 rfl (lv_at hl 1 rfl) ?_
        refine lv_iconst (v := 3) hx hb dX12_sentence_146 (by decide) ?_
        refine lv_aload_n hx hb dX12_sentence_147 rfl (lv_at hl 0 rfl) ?_
        refine km_get hx hb hts hin hown hK hP 40 (by decide) (v := .int (M_145.1 0 40)) k_fieldLink_RX12_416__KeyLettersModel___codes___I_ rfl dX12_sentence_148 ?_
        refine lv_imul hx hb dX12_sentence_151 ?_
        refine lv_icmp_ge (tgt := 176) hx hb dX12_sentence_152 (by decide) (fun hb5 => ?_) (fun hb5 => ?_)
        · have hf := (if_pos hb5).symm.trans hf
          refine lv_aload_n hx hb dX12_sentence_176 rfl (lv_at hl 0 rfl) ?_
          refine km_get hx hb hts hin hown hK hP 41 (by decide) (v := .int (M_145.1 0 41)) k_fieldLink_RX12_432__KeyLettersModel___ones___I_ rfl dX12_sentence_177 ?_
          have hf := Option.some.inj hf
          subst hf
          exact m_iret hx hb hr hlocks hP hK hD hS dX12_sentence_180
        · have hf := (if_neg hb5).symm.trans hf
          refine lv_aload_n hx hb dX12_sentence_155 rfl (lv_at hl 0 rfl) ?_
          refine km_get hx hb hts hin hown hK hP 6 (by decide) (v := .ref (ra 6)) k_fieldLink_RX12_33__KeyLettersModel___s____I_ rfl dX12_sentence_156 ?_
          refine lv_bipush (v := 99) hx hb dX12_sentence_159 (by decide) ?_
          refine lv_iload_n hx hb dX12_sentence_161 rfl (lv_at hl 1 rfl) ?_
          refine lv_iadd hx hb dX12_sentence_162 ?_
          refine lv_aload_n hx hb dX12_sentence_163 rfl (lv_at hl 0 rfl) ?_
          refine km_get hx hb hts hin hown hK hP 8 (by decide) (v := .ref (ra 8)) k_fieldLink_RX12_40__KeyLettersModel___read____I_ rfl dX12_sentence_164 ?_
          refine lv_iload_n hx hb dX12_sentence_167 rfl (lv_at hl 1 rfl) ?_
          obtain ⟨hc1, hf⟩ := ck_e hf
          refine va_iald hx hb hK hP 4 1 rfl rfl hc1 dX12_sentence_168 ?_
          obtain ⟨hc2, hf⟩ := ck_e hf
          obtain ⟨M3, eM3, hf⟩ := bd1_e hf
          refine va_iast hx hb hK hP hD hS 2 1 rfl rfl hc2 dX12_sentence_169 (fun H locs hP hD hS => ?_)
          have hP : va_P (dC, dI) vwCl (mw cB cI cJ cZ ra M3) H := by rw [eM3, ← ma_6 cB cI cJ cZ ra M_145 ((99 : Int32) + x2_145).toNatClampNeg (M_145.1 8 x2_145.toNatClampNeg)]; exact hP
          have hD : va_D (mA ra s.heap.size) (mw cB cI cJ cZ ra M3) := by rw [eM3, ← ma_6 cB cI cJ cZ ra M_145 ((99 : Int32) + x2_145).toNatClampNeg (M_145.1 8 x2_145.toNatClampNeg)]; exact hD
          obtain ⟨v4, ev4, hf⟩ := bd1_e hf
          refine lv_iinc (k := 1) (x := x2_145) (v := v4) (nL := 3) (lv' := [(2, .int v4), (0, .ref (ra 0))]) hx hb dX12_sentence_170 hl rfl (kt_inc (w := 1) (by decide) ev4) (by decide) rfl (fun ls hl => ?_)
          refine lv_goto (tgt := 145) hx hb dX12_sentence_173 (by decide) ?_
          exact ih_145 v4 M3 ls _ _ (lv_sub hl [1, 0] rfl) hP hD hS hf) 2000
    refine lv_aload_n hx hb dX12_sentence_132 rfl (lv_at hl 0 rfl) ?_
    refine km_get hx hb hts hin hown hK hP 6 (by decide) (v := .ref (ra 6)) k_fieldLink_RX12_33__KeyLettersModel___s____I_ rfl dX12_sentence_133 ?_
    refine lv_bipush (v := 98) hx hb dX12_sentence_136 (by decide) ?_
    refine lv_aload_n hx hb dX12_sentence_138 rfl (lv_at hl 0 rfl) ?_
    refine km_get hx hb hts hin hown hK hP 40 (by decide) (v := .int (M_132.1 0 40)) k_fieldLink_RX12_416__KeyLettersModel___codes___I_ rfl dX12_sentence_139 ?_
    obtain ⟨M6, eM6, hf⟩ := bd1_e hf
    refine va_iast hx hb hK hP hD hS 2 1 rfl rfl (show ¬ ((98 : Int32) < 0 ∨ 279 ≤ (98 : Int32).toNatClampNeg) by decide +kernel) dX12_sentence_142 (fun H locs hP hD hS => ?_)
    have hP : va_P (dC, dI) vwCl (mw cB cI cJ cZ ra M6) H := by rw [eM6, ← ma_6 cB cI cJ cZ ra M_132 (98 : Int32).toNatClampNeg (M_132.1 0 40)]; exact hP
    have hD : va_D (mA ra s.heap.size) (mw cB cI cJ cZ ra M6) := by rw [eM6, ← ma_6 cB cI cJ cZ ra M_132 (98 : Int32).toNatClampNeg (M_132.1 0 40)]; exact hD
    refine lv_iconst (v := 0) hx hb dX12_sentence_143 (by decide) ?_
    refine lv_istore_n (nL := 3) (lv' := [(2, .int (0 : Int32)), (0, .ref (ra 0))]) hx hb dX12_sentence_144 rfl hl (by decide) rfl (fun ls hl => ?_)
    exact h_145 (0 : Int32) M6 ls _ _ (lv_sub hl [1, 0] rfl) hP hD hS hf
  have h_115 : ∀ (M_115 : kD) (ls : Array Slot) (H : Heap) (locs : List Loc), lv_has ls 3 [(0, .ref (ra 0))] → va_P (dC, dI) vwCl (mw cB cI cJ cZ ra M_115) H → va_D (mA ra s.heap.size) (mw cB cI cJ cZ ra M_115) → va_S (mA ra s.heap.size) s.heap H locs → g_X12_sentence_115  M_115 = some r → W p l e (headSpec wsX12_sentence rm_X12_sentence).room s m args below meth c H locs 0 0 (MQ below (mQi dC dI cB cI cJ cZ ra s.heap.size r) args s 0 0 (mA ra s.heap.size)) (F0 m 115 ls []) := by
    intro  M_115 ls H locs hl hP hD hS hf
    unfold g_X12_sentence_115 at hf
    refine lv_goto (tgt := 125) hx hb dX12_sentence_115 (by decide) ?_
    refine lv_iconst (v := -1) hx hb dX12_sentence_125 (by decide) ?_
    refine lv_aload_n hx hb dX12_sentence_126 rfl (lv_at hl 0 rfl) ?_
    refine km_get hx hb hts hin hown hK hP 16 (by decide) (v := .int (M_115.1 0 16)) k_fieldLink_RX12_174__KeyLettersModel___faultAt___I_ rfl dX12_sentence_127 ?_
    refine lv_isub hx hb dX12_sentence_130 ?_
    have hf := Option.some.inj hf
    subst hf
    exact m_iret hx hb hr hlocks hP hK hD hS dX12_sentence_131
  have h_83 : ∀ (M_83 : kD) (ls : Array Slot) (H : Heap) (locs : List Loc), lv_has ls 3 [(0, .ref (ra 0))] → va_P (dC, dI) vwCl (mw cB cI cJ cZ ra M_83) H → va_D (mA ra s.heap.size) (mw cB cI cJ cZ ra M_83) → va_S (mA ra s.heap.size) s.heap H locs → g_X12_sentence_83  M_83 = some r → W p l e (headSpec wsX12_sentence rm_X12_sentence).room s m args below meth c H locs 0 0 (MQ below (mQi dC dI cB cI cJ cZ ra s.heap.size r) args s 0 0 (mA ra s.heap.size)) (F0 m 83 ls []) := by
    intro  M_83 ls H locs hl hP hD hS hf
    unfold g_X12_sentence_83 at hf
    refine lv_aload_n hx hb dX12_sentence_83 rfl (lv_at hl 0 rfl) ?_
    refine lv_iconst (v := 1) hx hb dX12_sentence_84 (by decide) ?_
    obtain ⟨v8, M7, hq9, hf⟩ := bo2_e hf
    refine km_callw (v := v8) (M1 := M7) rfl (km_run (As := [.int (1 : Int32)]) (rest := []) ⟨hx, hb, hml, hown, hts⟩ (c_X12_bad l dC dI cB cI cJ cZ ra _ M_83 (1 : Int32) (v8, M7) hq9) (cwV 1 hts gX12_sentence_X12_bad rfl rfl rfl (by decide +kernel) ⟨Nat.le_of_ble_eq_true rfl, Nat.le_of_ble_eq_true rfl⟩) hK hP (fun _ _ _ _ => mPw_bl) (fun U hU hW => ⟨by rw [hU], by rw [hU]; exact hP, va_K.moved hW.alike hK, hD.weaken (fun _ _ _ _ => trivial)⟩) rfl rfl hl.1 rfl (lv_room (Nat.le_of_ble_eq_true rfl)) dX12_sentence_85 ⟨Nat.le_refl _, Nat.le_refl _⟩) hD hS hA (fun H locs hP hD hS => ?_)
    refine lv_pop hx hb dX12_sentence_88 rfl ?_
    refine lv_iconst (v := -1) hx hb dX12_sentence_89 (by decide) ?_
    refine lv_aload_n hx hb dX12_sentence_90 rfl (lv_at hl 0 rfl) ?_
    refine km_get hx hb hts hin hown hK hP 16 (by decide) (v := .int (M7.1 0 16)) k_fieldLink_RX12_174__KeyLettersModel___faultAt___I_ rfl dX12_sentence_91 ?_
    refine lv_isub hx hb dX12_sentence_94 ?_
    have hf := Option.some.inj hf
    subst hf
    exact m_iret hx hb hr hlocks hP hK hD hS dX12_sentence_95
  have h_48 := lp_ind (z := (fun _ _ => none)) (b := (g_X12_sentence_48)) (fun (rc_48 : Int32 → kD → Option (Int32 × kD)) => ∀ (x1_48 : Int32) (M_48 : kD) (ls : Array Slot) (H : Heap) (locs : List Loc), lv_has ls 3 [(0, .ref (ra 0)), (1, .int x1_48)] → va_P (dC, dI) vwCl (mw cB cI cJ cZ ra M_48) H → va_D (mA ra s.heap.size) (mw cB cI cJ cZ ra M_48) → va_S (mA ra s.heap.size) s.heap H locs → rc_48 x1_48 M_48 = some r → W p l e (headSpec wsX12_sentence rm_X12_sentence).room s m args below meth c H locs 0 0 (MQ below (mQi dC dI cB cI cJ cZ ra s.heap.size r) args s 0 0 (mA ra s.heap.size)) (F0 m 48 ls [])) (by
      intro x1_48 M_48 ls H locs hl hP hD hS hf
      cases hf) (by
      intro rc_48 ih_48 x1_48 M_48 ls H locs hl hP hD hS hf
      unfold g_X12_sentence_48 at hf
      have h_101 : ∀ (x1_101 : Int32) (M_101 : kD) (ls : Array Slot) (H : Heap) (locs : List Loc), lv_has ls 3 [(0, .ref (ra 0)), (1, .int x1_101)] → va_P (dC, dI) vwCl (mw cB cI cJ cZ ra M_101) H → va_D (mA ra s.heap.size) (mw cB cI cJ cZ ra M_101) → va_S (mA ra s.heap.size) s.heap H locs → g_X12_sentence_101 rc_48 x1_101 M_101 = some r → W p l e (headSpec wsX12_sentence rm_X12_sentence).room s m args below meth c H locs 0 0 (MQ below (mQi dC dI cB cI cJ cZ ra s.heap.size r) args s 0 0 (mA ra s.heap.size)) (F0 m 101 ls []) := by
        intro x1_101 M_101 ls H locs hl hP hD hS hf
        unfold g_X12_sentence_101 at hf
        refine lv_aload_n hx hb dX12_sentence_101 rfl (lv_at hl 0 rfl) ?_
        refine km_get hx hb hts hin hown hK hP 44 (by decide) (v := .int (M_101.1 0 44)) k_fieldLink_RX12_435__KeyLettersModel___isWhole___Z_ rfl dX12_sentence_102 ?_
        refine lv_if_eq (tgt := 118) hx hb dX12_sentence_105 (by decide) (fun hb18 => ?_) (fun hb18 => ?_)
        · have hf := (if_pos hb18).symm.trans hf
          refine lv_aload_n hx hb dX12_sentence_118 rfl (lv_at hl 0 rfl) ?_
          obtain ⟨v11, M10, hq12, hf⟩ := bo2_e hf
          refine km_callw (v := v11) (M1 := M10) rfl (km_run (As := []) (rest := []) ⟨hx, hb, hml, hown, hts⟩ (c_X12_operand l dC dI cB cI cJ cZ ra _ M_101  (v11, M10) hq12) (cwV 0 hts gX12_sentence_X12_operand rfl rfl rfl (by decide +kernel) ⟨Nat.le_of_ble_eq_true rfl, Nat.le_of_ble_eq_true rfl⟩) hK hP (fun _ _ _ _ => mPw_bl) (fun U hU hW => ⟨by rw [hU], by rw [hU]; exact hP, va_K.moved hW.alike hK, hD.weaken (fun _ _ _ _ => trivial)⟩) rfl rfl hl.1 rfl (lv_room (Nat.le_of_ble_eq_true rfl)) dX12_sentence_119 ⟨Nat.le_refl _, Nat.le_refl _⟩) hD hS hA (fun H locs hP hD hS => ?_)
          refine lv_if_ne (tgt := 48) hx hb dX12_sentence_122 (by decide) (fun hb13 => ?_) (fun hb13 => ?_)
          · have hf := (if_neg hb13).symm.trans hf
            exact ih_48 x1_101 M10 ls _ _ hl hP hD hS hf
          · have hf := (if_pos hb13).symm.trans hf
            refine lv_iconst (v := -1) hx hb dX12_sentence_125 (by decide) ?_
            refine lv_aload_n hx hb dX12_sentence_126 rfl (lv_at hl 0 rfl) ?_
            refine km_get hx hb hts hin hown hK hP 16 (by decide) (v := .int (M10.1 0 16)) k_fieldLink_RX12_174__KeyLettersModel___faultAt___I_ rfl dX12_sentence_127 ?_
            refine lv_isub hx hb dX12_sentence_130 ?_
            have hf := Option.some.inj hf
            subst hf
            exact m_iret hx hb hr hlocks hP hK hD hS dX12_sentence_131
        · have hf := (if_neg hb18).symm.trans hf
          refine lv_aload_n hx hb dX12_sentence_108 rfl (lv_at hl 0 rfl) ?_
          obtain ⟨v15, M14, hq16, hf⟩ := bo2_e hf
          refine km_callw (v := v15) (M1 := M14) rfl (km_run (As := []) (rest := []) ⟨hx, hb, hml, hown, hts⟩ (c_X12_behind l dC dI cB cI cJ cZ ra _ M_101  (v15, M14) hq16) (cwV 0 hts gX12_sentence_X12_behind rfl rfl rfl (by decide +kernel) ⟨Nat.le_of_ble_eq_true rfl, Nat.le_of_ble_eq_true rfl⟩) hK hP (fun _ _ _ _ => mPw_bl) (fun U hU hW => ⟨by rw [hU], by rw [hU]; exact hP, va_K.moved hW.alike hK, hD.weaken (fun _ _ _ _ => trivial)⟩) rfl rfl hl.1 rfl (lv_room (Nat.le_of_ble_eq_true rfl)) dX12_sentence_109 ⟨Nat.le_refl _, Nat.le_refl _⟩) hD hS hA (fun H locs hP hD hS => ?_)
          refine lv_if_ne (tgt := 48) hx hb dX12_sentence_112 (by decide) (fun hb17 => ?_) (fun hb17 => ?_)
          · have hf := (if_neg hb17).symm.trans hf
            exact ih_48 x1_101 M14 ls _ _ hl hP hD hS hf
          · have hf := (if_pos hb17).symm.trans hf
            exact h_115  M14 ls _ _ (lv_sub hl [0] rfl) hP hD hS hf
      refine lv_iload_n hx hb dX12_sentence_48 rfl (lv_at hl 1 rfl) ?_
      refine lv_if_eq (tgt := 132) hx hb dX12_sentence_49 (by decide) (fun hb26 => ?_) (fun hb26 => ?_)
      · have hf := (if_pos hb26).symm.trans hf
        exact h_132  M_48 ls _ _ (lv_sub hl [0] rfl) hP hD hS hf
      · have hf := (if_neg hb26).symm.trans hf
        refine lv_aload_n hx hb dX12_sentence_52 rfl (lv_at hl 0 rfl) ?_
        refine km_get hx hb hts hin hown hK hP 44 (by decide) (v := .int (M_48.1 0 44)) k_fieldLink_RX12_435__KeyLettersModel___isWhole___Z_ rfl dX12_sentence_53 ?_
        refine lv_if_eq (tgt := 101) hx hb dX12_sentence_56 (by decide) (fun hb25 => ?_) (fun hb25 => ?_)
        · have hf := (if_pos hb25).symm.trans hf
          exact h_101 x1_48 M_48 ls _ _ hl hP hD hS hf
        · have hf := (if_neg hb25).symm.trans hf
          refine lv_aload_n hx hb dX12_sentence_59 rfl (lv_at hl 0 rfl) ?_
          refine km_get hx hb hts hin hown hK hP 11 (by decide) (v := .int (M_48.1 0 11)) k_fieldLink_RX12_154__KeyLettersModel___token___I_ rfl dX12_sentence_60 ?_
          refine lv_if_ne (tgt := 101) hx hb dX12_sentence_63 (by decide) (fun hb24 => ?_) (fun hb24 => ?_)
          · have hf := (if_neg hb24).symm.trans hf
            exact h_101 x1_48 M_48 ls _ _ hl hP hD hS hf
          · have hf := (if_pos hb24).symm.trans hf
            refine lv_aload_n hx hb dX12_sentence_66 rfl (lv_at hl 0 rfl) ?_
            obtain ⟨M19, hq20, hf⟩ := bo_e hf
            refine km_callwv (M1 := M19) (km_run (As := []) (rest := []) ⟨hx, hb, hml, hown, hts⟩ (c_X12_nots l dC dI cB cI cJ cZ ra _ M_48  M19 hq20) (cwV 0 hts gX12_sentence_X12_nots rfl rfl rfl (by decide +kernel) ⟨Nat.le_of_ble_eq_true rfl, Nat.le_of_ble_eq_true rfl⟩) hK hP (fun _ _ _ _ => mPw_bl) (fun U hU hW => ⟨by rw [hU], by rw [hU]; exact hP, va_K.moved hW.alike hK, hD.weaken (fun _ _ _ _ => trivial)⟩) rfl rfl hl.1 rfl (lv_room (Nat.le_of_ble_eq_true rfl)) dX12_sentence_67 ⟨Nat.le_refl _, Nat.le_refl _⟩) hD hS hA (fun H locs hP hD hS => ?_)
            refine lv_aload_n hx hb dX12_sentence_70 rfl (lv_at hl 0 rfl) ?_
            refine lv_bipush (v := 22) hx hb dX12_sentence_71 (by decide) ?_
            obtain ⟨M21, hq22, hf⟩ := bo_e hf
            refine km_callwv (M1 := M21) (km_run (As := [.int (22 : Int32)]) (rest := []) ⟨hx, hb, hml, hown, hts⟩ (c_X12_joins l dC dI cB cI cJ cZ ra _ M19 (22 : Int32) M21 hq22) (cwV 1 hts gX12_sentence_X12_joins rfl rfl rfl (by decide +kernel) ⟨Nat.le_of_ble_eq_true rfl, Nat.le_of_ble_eq_true rfl⟩) hK hP (fun _ _ _ _ => mPw_bl) (fun U hU hW => ⟨by rw [hU], by rw [hU]; exact hP, va_K.moved hW.alike hK, hD.weaken (fun _ _ _ _ => trivial)⟩) rfl rfl hl.1 rfl (lv_room (Nat.le_of_ble_eq_true rfl)) dX12_sentence_73 ⟨Nat.le_refl _, Nat.le_refl _⟩) hD hS hA (fun H locs hP hD hS => ?_)
            refine lv_aload_n hx hb dX12_sentence_76 rfl (lv_at hl 0 rfl) ?_
            refine km_get hx hb hts hin hown hK hP 42 (by decide) (v := .int (M21.1 0 42)) k_fieldLink_RX12_419__KeyLettersModel___top___I_ rfl dX12_sentence_77 ?_
            refine lv_if_le (tgt := 96) hx hb dX12_sentence_80 (by decide) (fun hb23 => ?_) (fun hb23 => ?_)
            · have hf := (if_pos hb23).symm.trans hf
              refine lv_iconst (v := 0) hx hb dX12_sentence_96 (by decide) ?_
              refine lv_istore_n (nL := 3) (lv' := [(1, .int (0 : Int32)), (0, .ref (ra 0))]) hx hb dX12_sentence_97 rfl hl (by decide) rfl (fun ls hl => ?_)
              refine lv_goto (tgt := 48) hx hb dX12_sentence_98 (by decide) ?_
              exact ih_48 (0 : Int32) M21 ls _ _ (lv_sub hl [1, 0] rfl) hP hD hS hf
            · have hf := (if_neg hb23).symm.trans hf
              exact h_83  M21 ls _ _ (lv_sub hl [0] rfl) hP hD hS hf) 2000
  refine lv_aload_n hx hb dX12_sentence_0 rfl (lv_at hl 0 rfl) ?_
  refine lv_iconst (v := 0) hx hb dX12_sentence_1 (by decide) ?_
  obtain ⟨M27, eM27, hf⟩ := bd1_e hf
  refine km_put hx hb hts hin hown hK hP hD hS 0 (by decide) k_fieldLink_RX12_1__KeyLettersModel___thrown___I_ rfl (ty := .int) (v := .int (0 : Int32)) (by decide +kernel) rfl rfl (M1 := M27) (by rw [eM27]; exact mo_0 cB cI cJ cZ ra M (0 : Int32)) dX12_sentence_2 (fun H locs hP hD hS => ?_)
  refine lv_aload_n hx hb dX12_sentence_5 rfl (lv_at hl 0 rfl) ?_
  refine lv_sipush (v := 200) hx hb dX12_sentence_6 (by decide) ?_
  obtain ⟨M28, hq29, hf⟩ := bo_e hf
  refine km_callwv (M1 := M28) (km_run (As := [.int (200 : Int32)]) (rest := []) ⟨hx, hb, hml, hown, hts⟩ (c_X12_taken l dC dI cB cI cJ cZ ra _ M27 (200 : Int32) M28 hq29) (cwV 1 hts gX12_sentence_X12_taken rfl rfl rfl (by decide +kernel) ⟨Nat.le_of_ble_eq_true rfl, Nat.le_of_ble_eq_true rfl⟩) hK hP (fun _ _ _ _ => mPw_bl) (fun U hU hW => ⟨by rw [hU], by rw [hU]; exact hP, va_K.moved hW.alike hK, hD.weaken (fun _ _ _ _ => trivial)⟩) rfl rfl hl.1 rfl (lv_room (Nat.le_of_ble_eq_true rfl)) dX12_sentence_9 ⟨Nat.le_refl _, Nat.le_refl _⟩) hD hS hA (fun H locs hP hD hS => ?_)
  refine lv_aload_n hx hb dX12_sentence_12 rfl (lv_at hl 0 rfl) ?_
  refine lv_iconst (v := 0) hx hb dX12_sentence_13 (by decide) ?_
  obtain ⟨M30, eM30, hf⟩ := bd1_e hf
  refine km_put hx hb hts hin hown hK hP hD hS 15 (by decide) k_fieldLink_RX12_171__KeyLettersModel___fault___I_ rfl (ty := .int) (v := .int (0 : Int32)) (by decide +kernel) rfl rfl (M1 := M30) (by rw [eM30]; exact mo_15 cB cI cJ cZ ra M28 (0 : Int32)) dX12_sentence_14 (fun H locs hP hD hS => ?_)
  refine lv_aload_n hx hb dX12_sentence_17 rfl (lv_at hl 0 rfl) ?_
  refine lv_iconst (v := 0) hx hb dX12_sentence_18 (by decide) ?_
  obtain ⟨M31, eM31, hf⟩ := bd1_e hf
  refine km_put hx hb hts hin hown hK hP hD hS 40 (by decide) k_fieldLink_RX12_416__KeyLettersModel___codes___I_ rfl (ty := .int) (v := .int (0 : Int32)) (by decide +kernel) rfl rfl (M1 := M31) (by rw [eM31]; exact mo_40 cB cI cJ cZ ra M30 (0 : Int32)) dX12_sentence_19 (fun H locs hP hD hS => ?_)
  refine lv_aload_n hx hb dX12_sentence_22 rfl (lv_at hl 0 rfl) ?_
  refine lv_iconst (v := 0) hx hb dX12_sentence_23 (by decide) ?_
  obtain ⟨M32, eM32, hf⟩ := bd1_e hf
  refine km_put hx hb hts hin hown hK hP hD hS 41 (by decide) k_fieldLink_RX12_432__KeyLettersModel___ones___I_ rfl (ty := .int) (v := .int (0 : Int32)) (by decide +kernel) rfl rfl (M1 := M32) (by rw [eM32]; exact mo_41 cB cI cJ cZ ra M31 (0 : Int32)) dX12_sentence_24 (fun H locs hP hD hS => ?_)
  refine lv_aload_n hx hb dX12_sentence_27 rfl (lv_at hl 0 rfl) ?_
  refine lv_iconst (v := 0) hx hb dX12_sentence_28 (by decide) ?_
  obtain ⟨M33, eM33, hf⟩ := bd1_e hf
  refine km_put hx hb hts hin hown hK hP hD hS 42 (by decide) k_fieldLink_RX12_419__KeyLettersModel___top___I_ rfl (ty := .int) (v := .int (0 : Int32)) (by decide +kernel) rfl rfl (M1 := M33) (by rw [eM33]; exact mo_42 cB cI cJ cZ ra M32 (0 : Int32)) dX12_sentence_29 (fun H locs hP hD hS => ?_)
  refine lv_aload_n hx hb dX12_sentence_32 rfl (lv_at hl 0 rfl) ?_
  refine lv_iconst (v := 1) hx hb dX12_sentence_33 (by decide) ?_
  obtain ⟨M34, eM34, hf⟩ := bd1_e hf
  refine km_put hx hb hts hin hown hK hP hD hS 43 (by decide) k_fieldLink_RX12_426__KeyLettersModel___deep___I_ rfl (ty := .int) (v := .int (1 : Int32)) (by decide +kernel) rfl rfl (M1 := M34) (by rw [eM34]; exact mo_43 cB cI cJ cZ ra M33 (1 : Int32)) dX12_sentence_34 (fun H locs hP hD hS => ?_)
  refine lv_aload_n hx hb dX12_sentence_37 rfl (lv_at hl 0 rfl) ?_
  refine lv_iconst (v := 0) hx hb dX12_sentence_38 (by decide) ?_
  obtain ⟨M35, eM35, hf⟩ := bd1_e hf
  refine km_put hx hb hts hin hown hK hP hD hS 44 (by decide) k_fieldLink_RX12_435__KeyLettersModel___isWhole___Z_ rfl (ty := .boolean) (v := .int (0 : Int32)) (by decide +kernel) rfl rfl (M1 := M35) (by rw [eM35]; exact mo_44 cB cI cJ cZ ra M34 (0 : Int32)) dX12_sentence_39 (fun H locs hP hD hS => ?_)
  refine lv_aload_n hx hb dX12_sentence_42 rfl (lv_at hl 0 rfl) ?_
  obtain ⟨M36, hq37, hf⟩ := bo_e hf
  refine km_callwv (M1 := M36) (km_run (As := []) (rest := []) ⟨hx, hb, hml, hown, hts⟩ (c_X12_next l dC dI cB cI cJ cZ ra _ M35  M36 hq37) (cwV 0 hts gX12_sentence_X12_next rfl rfl rfl (by decide +kernel) ⟨Nat.le_of_ble_eq_true rfl, Nat.le_of_ble_eq_true rfl⟩) hK hP (fun _ _ _ _ => mPw_bl) (fun U hU hW => ⟨by rw [hU], by rw [hU]; exact hP, va_K.moved hW.alike hK, hD.weaken (fun _ _ _ _ => trivial)⟩) rfl rfl hl.1 rfl (lv_room (Nat.le_of_ble_eq_true rfl)) dX12_sentence_43 ⟨Nat.le_refl _, Nat.le_refl _⟩) hD hS hA (fun H locs hP hD hS => ?_)
  refine lv_iconst (v := 1) hx hb dX12_sentence_46 (by decide) ?_
  refine lv_istore_n (nL := 3) (lv' := [(1, .int (1 : Int32)), (0, .ref (ra 0))]) hx hb dX12_sentence_47 rfl hl (by decide) rfl (fun ls hl => ?_)
  exact h_48 (1 : Int32) M36 ls _ _ (lv_sub hl [1, 0] rfl) hP hD hS hf

abbrev rm_X12_isLeaf : Room := { frames := 4, cells := 0, slots := 0, locals := 88 }
set_option maxHeartbeats 4000000 in
set_option maxRecDepth 100000 in
theorem c_X12_isLeaf (l : Launch) (dC : Nat → ClassId) (dI : Nat → Nat → Nat) (cB cI cJ cZ : ClassId) (ra : Nat → Nat) (M : kD) (a0 : Int32) (a1 : Int32) (a2 : Int32) (a3 : Int32) (r : Int32) (hf : f_X12_isLeaf a0 a1 a2 a3 M = some r) : Met l yX12_isLeaf wsX12_isLeaf rm_X12_isLeaf (va_Pc [.ref (ra 0), .int a0, .int a1, .int a2, .int a3] (mPr dC dI cB cI cJ cZ ra M)) (kQ (some (.int r))) 0 0 (kF) := by
  refine Met.ofW (cc := cX12_isLeaf) (maxL := 6) (ret := (some .boolean)) (by decide) rfl ?_
  intro p e s m args below meth c s₁ B hml hv
  obtain ⟨hav, hP, hK⟩ := hv
  have hx := B.exec
  have hb := B.bytes
  have hr := B.returns
  have hts := atoms_spec (ws := wsX12_isLeaf) B.pre
  have hown : s.vm.findClass RX12 = some m.cls := findClass_of_methodNamed B.named
  have hlocks := B.notSynchronized
  have hin : ∀ w ∈ wsX120, w ∈ wsX12_isLeaf := fun w h => List.mem_cons_of_mem _ (List.mem_append_right _ h)
  have k_fieldLink_RX12_33__KeyLettersModel___s____I_ := hts (.fieldLink RX12 33 "KeyLettersModel" "s" "[I") (by decide +kernel)
  have hl := lv_entry ([.ref (ra 0), .int a0, .int a1, .int a2, .int a3]) (n := 6) (Nat.le_of_ble_eq_true rfl)
  rw [show entryFrame m args 6 = entryFrame m ([.ref (ra 0), .int a0, .int a1, .int a2, .int a3] : List Value).toArray 6 from by rw [hav], lg_entry_eq]
  generalize (lg_sl ([.ref (ra 0), .int a0, .int a1, .int a2, .int a3]) ++ List.replicate (6 - (lg_sl ([.ref (ra 0), .int a0, .int a1, .int a2, .int a3])).length) Slot.unset).toArray = ls at hl ⊢
  have hl : lv_has ls 6 [(0, .ref (ra 0)), (1, .int a0), (2, .int a1), (3, .int a2), (4, .int a3)] := hl
  unfold f_X12_isLeaf at hf
  have h_151 : ∀ (x3_151 : Int32) (x4_151 : Int32) (t0_151 : Int32) (ls : Array Slot), lv_has ls 6 [(3, .int x3_151), (4, .int x4_151)] → g_X12_isLeaf_151 M x3_151 x4_151 t0_151 = some r → W p l e (headSpec wsX12_isLeaf rm_X12_isLeaf).room s m args below meth c s.heap [] 0 0 (MQ below (kQ (some (.int r))) args s 0 0 (kF)) (F0 m 151 ls [.int t0_151]) := by
    intro x3_151 x4_151 t0_151 ls hl hf
    unfold g_X12_isLeaf_151 at hf
    refine lv_istore (nL := 6) (lv' := [(5, .int t0_151), (3, .int x3_151), (4, .int x4_151)]) hx hb dX12_isLeaf_151 hl (by decide) rfl (fun ls hl => ?_)
    refine lv_iload_n hx hb dX12_isLeaf_153 rfl (lv_at hl 1 rfl) ?_
    refine lv_bipush (v := 60) hx hb dX12_isLeaf_154 (by decide) ?_
    refine lv_icmp_ne (tgt := 174) hx hb dX12_isLeaf_156 (by decide) (fun hb5 => ?_) (fun hb5 => ?_)
    · have hf := (if_neg hb5).symm.trans hf
      refine lv_iload_n hx hb dX12_isLeaf_174 rfl (lv_at hl 1 rfl) ?_
      refine lv_bipush (v := 61) hx hb dX12_isLeaf_175 (by decide) ?_
      refine lv_icmp_ne (tgt := 195) hx hb dX12_isLeaf_177 (by decide) (fun hb3 => ?_) (fun hb3 => ?_)
      · have hf := (if_neg hb3).symm.trans hf
        refine lv_iload hx hb dX12_isLeaf_195 (lv_at hl 0 rfl) ?_
        refine lv_iload hx hb dX12_isLeaf_197 (lv_at hl 2 rfl) ?_
        refine lv_icmp_le (tgt := 206) hx hb dX12_isLeaf_199 (by decide) (fun hb1 => ?_) (fun hb1 => ?_)
        · have hf := (if_pos hb1).symm.trans hf
          refine lv_iconst (v := 0) hx hb dX12_isLeaf_206 (by decide) ?_
          have hf := Option.some.inj hf
          subst hf
          exact W.zret (v := (0 : Int32)) (ty := .boolean) hx hb hr rfl (fun t ht hW => ⟨rfl, ht⟩) (fun _ h => nomatch h) dX12_isLeaf_207
        · have hf := (if_neg hb1).symm.trans hf
          refine lv_iconst (v := 1) hx hb dX12_isLeaf_202 (by decide) ?_
          refine lv_goto (tgt := 207) hx hb dX12_isLeaf_203 (by decide) ?_
          have hf := Option.some.inj hf
          subst hf
          exact W.zret (v := (1 : Int32)) (ty := .boolean) hx hb hr rfl (fun t ht hW => ⟨rfl, ht⟩) (fun _ h => nomatch h) dX12_isLeaf_207
      · have hf := (if_pos hb3).symm.trans hf
        refine lv_iload hx hb dX12_isLeaf_180 (lv_at hl 0 rfl) ?_
        refine lv_iload hx hb dX12_isLeaf_182 (lv_at hl 2 rfl) ?_
        refine lv_icmp_ne (tgt := 191) hx hb dX12_isLeaf_184 (by decide) (fun hb2 => ?_) (fun hb2 => ?_)
        · have hf := (if_neg hb2).symm.trans hf
          refine lv_iconst (v := 0) hx hb dX12_isLeaf_191 (by decide) ?_
          refine lv_goto (tgt := 207) hx hb dX12_isLeaf_192 (by decide) ?_
          have hf := Option.some.inj hf
          subst hf
          exact W.zret (v := (0 : Int32)) (ty := .boolean) hx hb hr rfl (fun t ht hW => ⟨rfl, ht⟩) (fun _ h => nomatch h) dX12_isLeaf_207
        · have hf := (if_pos hb2).symm.trans hf
          refine lv_iconst (v := 1) hx hb dX12_isLeaf_187 (by decide) ?_
          refine lv_goto (tgt := 207) hx hb dX12_isLeaf_188 (by decide) ?_
          have hf := Option.some.inj hf
          subst hf
          exact W.zret (v := (1 : Int32)) (ty := .boolean) hx hb hr rfl (fun t ht hW => ⟨rfl, ht⟩) (fun _ h => nomatch h) dX12_isLeaf_207
    · have hf := (if_pos hb5).symm.trans hf
      refine lv_iload hx hb dX12_isLeaf_159 (lv_at hl 0 rfl) ?_
      refine lv_iload hx hb dX12_isLeaf_161 (lv_at hl 2 rfl) ?_
      refine lv_icmp_ge (tgt := 170) hx hb dX12_isLeaf_163 (by decide) (fun hb4 => ?_) (fun hb4 => ?_)
      · have hf := (if_pos hb4).symm.trans hf
        refine lv_iconst (v := 0) hx hb dX12_isLeaf_170 (by decide) ?_
        refine lv_goto (tgt := 207) hx hb dX12_isLeaf_171 (by decide) ?_
        have hf := Option.some.inj hf
        subst hf
        exact W.zret (v := (0 : Int32)) (ty := .boolean) hx hb hr rfl (fun t ht hW => ⟨rfl, ht⟩) (fun _ h => nomatch h) dX12_isLeaf_207
      · have hf := (if_neg hb4).symm.trans hf
        refine lv_iconst (v := 1) hx hb dX12_isLeaf_166 (by decide) ?_
        refine lv_goto (tgt := 207) hx hb dX12_isLeaf_167 (by decide) ?_
        have hf := Option.some.inj hf
        subst hf
        exact W.zret (v := (1 : Int32)) (ty := .boolean) hx hb hr rfl (fun t ht hW => ⟨rfl, ht⟩) (fun _ h => nomatch h) dX12_isLeaf_207
  refine lv_iload_n hx hb dX12_isLeaf_0 rfl (lv_at hl 2 rfl) ?_
  by_cases hs9 : a1 = 0
  · have hf := (if_pos hs9).symm.trans hf
    refine lv_tableIn (off := 35) (tgt := 36) hx hb dX12_isLeaf_1 (by rw [hs9]; decide) (by rw [hs9]; decide) (by rw [hs9]; decide +kernel) (by decide) ?_
    refine lv_aload_n hx hb dX12_isLeaf_36 rfl (lv_at hl 0 rfl) ?_
    refine lv_iload_n hx hb dX12_isLeaf_37 rfl (lv_at hl 1 rfl) ?_
    obtain ⟨v6, hq7, hf⟩ := bo_e hf
    refine ko_call (v := some (.int v6)) (km_run (As := [.int a0]) (rest := []) ⟨hx, hb, hml, hown, hts⟩ (c_X12_isHeld l dC dI cB cI cJ cZ ra M a0 v6 hq7) (cwV 1 hts gX12_isLeaf_X12_isHeld rfl rfl rfl (by decide +kernel) ⟨Nat.le_of_ble_eq_true rfl, Nat.le_of_ble_eq_true rfl⟩) hK hP (fun _ _ _ _ => mPr_bl) (fun U hU hW => ⟨by rw [hU]; exact hP, va_K.moved hW.alike hK⟩) rfl rfl hl.1 rfl (lv_room (Nat.le_of_ble_eq_true rfl)) dX12_isLeaf_38 ⟨Nat.le_refl _, Nat.le_refl _⟩) ?_
    obtain ⟨hz8, hf⟩ := ck_e hf
    have hf := Option.some.inj hf
    subst hf
    exact W.zret (v := v6) (ty := .boolean) hx hb hr (kt_z (Decidable.not_not.mp hz8)) (fun t ht hW => ⟨rfl, ht⟩) (fun _ h => nomatch h) dX12_isLeaf_41
  have hf := (if_neg hs9).symm.trans hf
  by_cases hs11 : a1 = 1
  · have hf := (if_pos hs11).symm.trans hf
    refine lv_tableIn (off := 41) (tgt := 42) hx hb dX12_isLeaf_1 (by rw [hs11]; decide) (by rw [hs11]; decide) (by rw [hs11]; decide +kernel) (by decide) ?_
    refine lv_aload_n hx hb dX12_isLeaf_42 rfl (lv_at hl 0 rfl) ?_
    refine km_get hx hb hts hin hown hK hP 6 (by decide) (v := .ref (ra 6)) k_fieldLink_RX12_33__KeyLettersModel___s____I_ rfl dX12_isLeaf_43 ?_
    refine lv_bipush (v := 41) hx hb dX12_isLeaf_46 (by decide) ?_
    refine va_iald hx hb hK hP 2 1 rfl rfl (show ¬ ((41 : Int32) < 0 ∨ 279 ≤ (41 : Int32).toNatClampNeg) by decide +kernel) dX12_isLeaf_48 ?_
    refine lv_iload_n hx hb dX12_isLeaf_49 rfl (lv_at hl 1 rfl) ?_
    refine lv_iconst (v := 1) hx hb dX12_isLeaf_50 (by decide) ?_
    refine lv_iadd hx hb dX12_isLeaf_51 ?_
    refine lv_icmp_ne (tgt := 59) hx hb dX12_isLeaf_52 (by decide) (fun hb10 => ?_) (fun hb10 => ?_)
    · have hf := (if_neg hb10).symm.trans hf
      refine lv_iconst (v := 0) hx hb dX12_isLeaf_59 (by decide) ?_
      have hf := Option.some.inj hf
      subst hf
      exact W.zret (v := (0 : Int32)) (ty := .boolean) hx hb hr rfl (fun t ht hW => ⟨rfl, ht⟩) (fun _ h => nomatch h) dX12_isLeaf_60
    · have hf := (if_pos hb10).symm.trans hf
      refine lv_iconst (v := 1) hx hb dX12_isLeaf_55 (by decide) ?_
      refine lv_goto (tgt := 60) hx hb dX12_isLeaf_56 (by decide) ?_
      have hf := Option.some.inj hf
      subst hf
      exact W.zret (v := (1 : Int32)) (ty := .boolean) hx hb hr rfl (fun t ht hW => ⟨rfl, ht⟩) (fun _ h => nomatch h) dX12_isLeaf_60
  have hf := (if_neg hs11).symm.trans hf
  by_cases hs15 : a1 = 2
  · have hf := (if_pos hs15).symm.trans hf
    refine lv_tableIn (off := 60) (tgt := 61) hx hb dX12_isLeaf_1 (by rw [hs15]; decide) (by rw [hs15]; decide) (by rw [hs15]; decide +kernel) (by decide) ?_
    refine lv_aload_n hx hb dX12_isLeaf_61 rfl (lv_at hl 0 rfl) ?_
    refine lv_iload_n hx hb dX12_isLeaf_62 rfl (lv_at hl 1 rfl) ?_
    obtain ⟨v12, hq13, hf⟩ := bo_e hf
    refine ko_call (v := some (.int v12)) (km_run (As := [.int a0]) (rest := []) ⟨hx, hb, hml, hown, hts⟩ (c_X12_couldWrite l dC dI cB cI cJ cZ ra M a0 v12 hq13) (cwV 1 hts gX12_isLeaf_X12_couldWrite rfl rfl rfl (by decide +kernel) ⟨Nat.le_of_ble_eq_true rfl, Nat.le_of_ble_eq_true rfl⟩) hK hP (fun _ _ _ _ => mPr_bl) (fun U hU hW => ⟨by rw [hU]; exact hP, va_K.moved hW.alike hK⟩) rfl rfl hl.1 rfl (lv_room (Nat.le_of_ble_eq_true rfl)) dX12_isLeaf_63 ⟨Nat.le_refl _, Nat.le_refl _⟩) ?_
    refine lv_if_ne (tgt := 73) hx hb dX12_isLeaf_66 (by decide) (fun hb14 => ?_) (fun hb14 => ?_)
    · have hf := (if_neg hb14).symm.trans hf
      refine lv_iconst (v := 0) hx hb dX12_isLeaf_73 (by decide) ?_
      have hf := Option.some.inj hf
      subst hf
      exact W.zret (v := (0 : Int32)) (ty := .boolean) hx hb hr rfl (fun t ht hW => ⟨rfl, ht⟩) (fun _ h => nomatch h) dX12_isLeaf_74
    · have hf := (if_pos hb14).symm.trans hf
      refine lv_iconst (v := 1) hx hb dX12_isLeaf_69 (by decide) ?_
      refine lv_goto (tgt := 74) hx hb dX12_isLeaf_70 (by decide) ?_
      have hf := Option.some.inj hf
      subst hf
      exact W.zret (v := (1 : Int32)) (ty := .boolean) hx hb hr rfl (fun t ht hW => ⟨rfl, ht⟩) (fun _ h => nomatch h) dX12_isLeaf_74
  have hf := (if_neg hs15).symm.trans hf
  by_cases hs19 : a1 = 3
  · have hf := (if_pos hs19).symm.trans hf
    refine lv_tableIn (off := 74) (tgt := 75) hx hb dX12_isLeaf_1 (by rw [hs19]; decide) (by rw [hs19]; decide) (by rw [hs19]; decide +kernel) (by decide) ?_
    refine lv_aload_n hx hb dX12_isLeaf_75 rfl (lv_at hl 0 rfl) ?_
    refine lv_iload_n hx hb dX12_isLeaf_76 rfl (lv_at hl 1 rfl) ?_
    refine lv_iload hx hb dX12_isLeaf_77 (lv_at hl 4 rfl) ?_
    obtain ⟨v16, hq17, hf⟩ := bo_e hf
    refine ko_call (v := some (.int v16)) (km_run (As := [.int a0, .int a3]) (rest := []) ⟨hx, hb, hml, hown, hts⟩ (c_X12_whyWrite l dC dI cB cI cJ cZ ra M a0 a3 v16 hq17) (cwV 2 hts gX12_isLeaf_X12_whyWrite rfl rfl rfl (by decide +kernel) ⟨Nat.le_of_ble_eq_true rfl, Nat.le_of_ble_eq_true rfl⟩) hK hP (fun _ _ _ _ => mPr_bl) (fun U hU hW => ⟨by rw [hU]; exact hP, va_K.moved hW.alike hK⟩) rfl rfl hl.1 rfl (lv_room (Nat.le_of_ble_eq_true rfl)) dX12_isLeaf_79 ⟨Nat.le_refl _, Nat.le_refl _⟩) ?_
    refine lv_if_ne (tgt := 89) hx hb dX12_isLeaf_82 (by decide) (fun hb18 => ?_) (fun hb18 => ?_)
    · have hf := (if_neg hb18).symm.trans hf
      refine lv_iconst (v := 0) hx hb dX12_isLeaf_89 (by decide) ?_
      have hf := Option.some.inj hf
      subst hf
      exact W.zret (v := (0 : Int32)) (ty := .boolean) hx hb hr rfl (fun t ht hW => ⟨rfl, ht⟩) (fun _ h => nomatch h) dX12_isLeaf_90
    · have hf := (if_pos hb18).symm.trans hf
      refine lv_iconst (v := 1) hx hb dX12_isLeaf_85 (by decide) ?_
      refine lv_goto (tgt := 90) hx hb dX12_isLeaf_86 (by decide) ?_
      have hf := Option.some.inj hf
      subst hf
      exact W.zret (v := (1 : Int32)) (ty := .boolean) hx hb hr rfl (fun t ht hW => ⟨rfl, ht⟩) (fun _ h => nomatch h) dX12_isLeaf_90
  have hf := (if_neg hs19).symm.trans hf
  by_cases hs23 : a1 = 4
  · have hf := (if_pos hs23).symm.trans hf
    refine lv_tableIn (off := 90) (tgt := 91) hx hb dX12_isLeaf_1 (by rw [hs23]; decide) (by rw [hs23]; decide) (by rw [hs23]; decide +kernel) (by decide) ?_
    refine lv_aload_n hx hb dX12_isLeaf_91 rfl (lv_at hl 0 rfl) ?_
    refine km_get hx hb hts hin hown hK hP 6 (by decide) (v := .ref (ra 6)) k_fieldLink_RX12_33__KeyLettersModel___s____I_ rfl dX12_isLeaf_92 ?_
    refine lv_bipush (v := 62) hx hb dX12_isLeaf_95 (by decide) ?_
    refine lv_bipush (v := 6) hx hb dX12_isLeaf_97 (by decide) ?_
    refine lv_iload_n hx hb dX12_isLeaf_99 rfl (lv_at hl 1 rfl) ?_
    refine lv_imul hx hb dX12_isLeaf_100 ?_
    refine lv_iadd hx hb dX12_isLeaf_101 ?_
    refine lv_iload hx hb dX12_isLeaf_102 (lv_at hl 4 rfl) ?_
    refine lv_iadd hx hb dX12_isLeaf_104 ?_
    obtain ⟨v20, ev20, hf⟩ := bd1_e hf
    refine kt_i ev20 ?_
    obtain ⟨hc21, hf⟩ := ck_e hf
    refine va_iald hx hb hK hP 2 1 rfl rfl hc21 dX12_isLeaf_105 ?_
    refine lv_if_le (tgt := 113) hx hb dX12_isLeaf_106 (by decide) (fun hb22 => ?_) (fun hb22 => ?_)
    · have hf := (if_pos hb22).symm.trans hf
      refine lv_iconst (v := 0) hx hb dX12_isLeaf_113 (by decide) ?_
      have hf := Option.some.inj hf
      subst hf
      exact W.zret (v := (0 : Int32)) (ty := .boolean) hx hb hr rfl (fun t ht hW => ⟨rfl, ht⟩) (fun _ h => nomatch h) dX12_isLeaf_114
    · have hf := (if_neg hb22).symm.trans hf
      refine lv_iconst (v := 1) hx hb dX12_isLeaf_109 (by decide) ?_
      refine lv_goto (tgt := 114) hx hb dX12_isLeaf_110 (by decide) ?_
      have hf := Option.some.inj hf
      subst hf
      exact W.zret (v := (1 : Int32)) (ty := .boolean) hx hb hr rfl (fun t ht hW => ⟨rfl, ht⟩) (fun _ h => nomatch h) dX12_isLeaf_114
  have hf := (if_neg hs23).symm.trans hf
  have hsw : a1.toInt < 0 ∨ 4 < a1.toInt := by
    have qhs9 : a1.toInt ≠ 0 := fun q => hs9 (Int32.toInt_inj.mp (q.trans (by decide)))
    have qhs11 : a1.toInt ≠ 1 := fun q => hs11 (Int32.toInt_inj.mp (q.trans (by decide)))
    have qhs15 : a1.toInt ≠ 2 := fun q => hs15 (Int32.toInt_inj.mp (q.trans (by decide)))
    have qhs19 : a1.toInt ≠ 3 := fun q => hs19 (Int32.toInt_inj.mp (q.trans (by decide)))
    have qhs23 : a1.toInt ≠ 4 := fun q => hs23 (Int32.toInt_inj.mp (q.trans (by decide)))
    omega
  refine lv_tableOut (tgt := 115) hx hb dX12_isLeaf_1 hsw (by decide) ?_
  refine lv_iload_n hx hb dX12_isLeaf_115 rfl (lv_at hl 2 rfl) ?_
  refine lv_iconst (v := 5) hx hb dX12_isLeaf_116 (by decide) ?_
  refine lv_icmp_ne (tgt := 132) hx hb dX12_isLeaf_117 (by decide) (fun hb29 => ?_) (fun hb29 => ?_)
  · have hf := (if_neg hb29).symm.trans hf
    refine lv_iload_n hx hb dX12_isLeaf_132 rfl (lv_at hl 2 rfl) ?_
    refine lv_bipush (v := 6) hx hb dX12_isLeaf_133 (by decide) ?_
    refine lv_icmp_ne (tgt := 150) hx hb dX12_isLeaf_135 (by decide) (fun hb26 => ?_) (fun hb26 => ?_)
    · have hf := (if_neg hb26).symm.trans hf
      refine lv_iload_n hx hb dX12_isLeaf_150 rfl (lv_at hl 1 rfl) ?_
      exact h_151 a2 a3 a0 ls (lv_sub hl [3, 4] rfl) hf
    · have hf := (if_pos hb26).symm.trans hf
      refine lv_aload_n hx hb dX12_isLeaf_138 rfl (lv_at hl 0 rfl) ?_
      refine km_get hx hb hts hin hown hK hP 6 (by decide) (v := .ref (ra 6)) k_fieldLink_RX12_33__KeyLettersModel___s____I_ rfl dX12_isLeaf_139 ?_
      refine lv_bipush (v := 50) hx hb dX12_isLeaf_142 (by decide) ?_
      refine lv_iload_n hx hb dX12_isLeaf_144 rfl (lv_at hl 1 rfl) ?_
      refine lv_iadd hx hb dX12_isLeaf_145 ?_
      obtain ⟨v24, ev24, hf⟩ := bd1_e hf
      refine kt_i ev24 ?_
      obtain ⟨hc25, hf⟩ := ck_e hf
      refine va_iald hx hb hK hP 2 1 rfl rfl hc25 dX12_isLeaf_146 ?_
      refine lv_goto (tgt := 151) hx hb dX12_isLeaf_147 (by decide) ?_
      exact h_151 a2 a3 (M.1 6 v24.toNatClampNeg) ls (lv_sub hl [3, 4] rfl) hf
  · have hf := (if_pos hb29).symm.trans hf
    refine lv_aload_n hx hb dX12_isLeaf_120 rfl (lv_at hl 0 rfl) ?_
    refine km_get hx hb hts hin hown hK hP 6 (by decide) (v := .ref (ra 6)) k_fieldLink_RX12_33__KeyLettersModel___s____I_ rfl dX12_isLeaf_121 ?_
    refine lv_bipush (v := 44) hx hb dX12_isLeaf_124 (by decide) ?_
    refine lv_iload_n hx hb dX12_isLeaf_126 rfl (lv_at hl 1 rfl) ?_
    refine lv_iadd hx hb dX12_isLeaf_127 ?_
    obtain ⟨v27, ev27, hf⟩ := bd1_e hf
    refine kt_i ev27 ?_
    obtain ⟨hc28, hf⟩ := ck_e hf
    refine va_iald hx hb hK hP 2 1 rfl rfl hc28 dX12_isLeaf_128 ?_
    refine lv_goto (tgt := 151) hx hb dX12_isLeaf_129 (by decide) ?_
    exact h_151 a2 a3 (M.1 6 v27.toNatClampNeg) ls (lv_sub hl [3, 4] rfl) hf

abbrev rm_X12_isSaid : Room := { frames := 5, cells := 0, slots := 0, locals := 113 }
set_option maxHeartbeats 4000000 in
set_option maxRecDepth 100000 in
theorem c_X12_isSaid (l : Launch) (dC : Nat → ClassId) (dI : Nat → Nat → Nat) (cB cI cJ cZ : ClassId) (ra : Nat → Nat) (sz : Nat) (M : kD) (a0 : Int32) (r : (Int32 × kD)) (hf : f_X12_isSaid a0 M = some r) : Met l yX12_isSaid wsX12_isSaid rm_X12_isSaid (va_Pc [.ref (ra 0), .int a0] (mPw dC dI cB cI cJ cZ ra sz M)) (mQi dC dI cB cI cJ cZ ra sz r) 0 0 (mA ra sz) := by
  refine Met.ofW (cc := cX12_isSaid) (maxL := 5) (ret := (some .boolean)) (by decide) rfl ?_
  intro p e s m args below meth c s₁ B hml hv
  obtain ⟨hav, hsz, hP, hK, hD0⟩ := hv
  have hx := B.exec
  have hb := B.bytes
  have hr := B.returns
  have hts := atoms_spec (ws := wsX12_isSaid) B.pre
  have hown : s.vm.findClass RX12 = some m.cls := findClass_of_methodNamed B.named
  have hlocks := B.notSynchronized
  subst hsz
  have hA : ∀ q, s.heap.size ≤ q → mA ra s.heap.size q := fun q h => Or.inr h
  have hD : va_D (mA ra s.heap.size) (mw cB cI cJ cZ ra M) := hD0.weaken (fun k q h _ => mA_in h)
  have hS : va_S (mA ra s.heap.size) s.heap s.heap [] := va_S.rf
  have hin : ∀ w ∈ wsX120, w ∈ wsX12_isSaid := fun w h => List.mem_cons_of_mem _ (List.mem_append_right _ h)
  have k_fieldLink_RX12_33__KeyLettersModel___s____I_ := hts (.fieldLink RX12 33 "KeyLettersModel" "s" "[I") (by decide +kernel)
  have k_fieldLink_RX12_86__KeyLettersModel___truths____Z_ := hts (.fieldLink RX12 86 "KeyLettersModel" "truths" "[Z") (by decide +kernel)
  have hl := lv_entry ([.ref (ra 0), .int a0]) (n := 5) (Nat.le_of_ble_eq_true rfl)
  rw [show entryFrame m args 5 = entryFrame m ([.ref (ra 0), .int a0] : List Value).toArray 5 from by rw [hav], lg_entry_eq]
  generalize (lg_sl ([.ref (ra 0), .int a0]) ++ List.replicate (5 - (lg_sl ([.ref (ra 0), .int a0])).length) Slot.unset).toArray = ls at hl ⊢
  have hl : lv_has ls 5 [(0, .ref (ra 0)), (1, .int a0)] := hl
  unfold f_X12_isSaid at hf
  have h_210 : ∀ (M_210 : kD) (ls : Array Slot) (H : Heap) (locs : List Loc), lv_has ls 5 [(0, .ref (ra 0))] → va_P (dC, dI) vwCl (mw cB cI cJ cZ ra M_210) H → va_D (mA ra s.heap.size) (mw cB cI cJ cZ ra M_210) → va_S (mA ra s.heap.size) s.heap H locs → g_X12_isSaid_210  M_210 = some r → W p l e (headSpec wsX12_isSaid rm_X12_isSaid).room s m args below meth c H locs 0 0 (MQ below (mQi dC dI cB cI cJ cZ ra s.heap.size r) args s 0 0 (mA ra s.heap.size)) (F0 m 210 ls []) := by
    intro  M_210 ls H locs hl hP hD hS hf
    unfold g_X12_isSaid_210 at hf
    refine lv_aload_n hx hb dX12_isSaid_210 rfl (lv_at hl 0 rfl) ?_
    refine km_get hx hb hts hin hown hK hP 45 (by decide) (v := .ref (ra 45)) k_fieldLink_RX12_86__KeyLettersModel___truths____Z_ rfl dX12_isSaid_211 ?_
    refine lv_iconst (v := 0) hx hb dX12_isSaid_214 (by decide) ?_
    refine va_zald hx hb hK hP 17 3 rfl rfl (show ¬ ((0 : Int32) < 0 ∨ 45 ≤ (0 : Int32).toNatClampNeg) by decide +kernel) dX12_isSaid_215 ?_
    obtain ⟨hz1, hf⟩ := ck_e hf
    have hf := Option.some.inj hf
    subst hf
    exact m_zret hx hb hr (kt_z (Decidable.not_not.mp hz1)) hlocks hP hK hD hS dX12_isSaid_216
  have h_4 := lp_ind (z := (fun _ _ _ _ => none)) (b := (g_X12_isSaid_4)) (fun (rc_4 : Int32 → Int32 → Int32 → kD → Option (Int32 × kD)) => ∀ (x1_4 : Int32) (x2_4 : Int32) (x3_4 : Int32) (M_4 : kD) (ls : Array Slot) (H : Heap) (locs : List Loc), lv_has ls 5 [(0, .ref (ra 0)), (1, .int x1_4), (2, .int x2_4), (3, .int x3_4)] → va_P (dC, dI) vwCl (mw cB cI cJ cZ ra M_4) H → va_D (mA ra s.heap.size) (mw cB cI cJ cZ ra M_4) → va_S (mA ra s.heap.size) s.heap H locs → rc_4 x1_4 x2_4 x3_4 M_4 = some r → W p l e (headSpec wsX12_isSaid rm_X12_isSaid).room s m args below meth c H locs 0 0 (MQ below (mQi dC dI cB cI cJ cZ ra s.heap.size r) args s 0 0 (mA ra s.heap.size)) (F0 m 4 ls [])) (by
      intro x1_4 x2_4 x3_4 M_4 ls H locs hl hP hD hS hf
      cases hf) (by
      intro rc_4 ih_4 x1_4 x2_4 x3_4 M_4 ls H locs hl hP hD hS hf
      unfold g_X12_isSaid_4 at hf
      have h_204 : ∀ (x1_204 : Int32) (x2_204 : Int32) (x3_204 : Int32) (M_204 : kD) (ls : Array Slot) (H : Heap) (locs : List Loc), lv_has ls 5 [(0, .ref (ra 0)), (1, .int x1_204), (2, .int x2_204), (3, .int x3_204)] → va_P (dC, dI) vwCl (mw cB cI cJ cZ ra M_204) H → va_D (mA ra s.heap.size) (mw cB cI cJ cZ ra M_204) → va_S (mA ra s.heap.size) s.heap H locs → g_X12_isSaid_204 rc_4 x1_204 x2_204 x3_204 M_204 = some r → W p l e (headSpec wsX12_isSaid rm_X12_isSaid).room s m args below meth c H locs 0 0 (MQ below (mQi dC dI cB cI cJ cZ ra s.heap.size r) args s 0 0 (mA ra s.heap.size)) (F0 m 204 ls []) := by
        intro x1_204 x2_204 x3_204 M_204 ls H locs hl hP hD hS hf
        unfold g_X12_isSaid_204 at hf
        obtain ⟨v2, ev2, hf⟩ := bd1_e hf
        refine lv_iinc (k := 3) (x := x3_204) (v := v2) (nL := 5) (lv' := [(3, .int v2), (0, .ref (ra 0)), (1, .int x1_204), (2, .int x2_204)]) hx hb dX12_isSaid_204 hl rfl (kt_inc (w := 1) (by decide) ev2) (by decide) rfl (fun ls hl => ?_)
        refine lv_goto (tgt := 4) hx hb dX12_isSaid_207 (by decide) ?_
        exact ih_4 x1_204 x2_204 v2 M_204 ls _ _ (lv_sub hl [1, 2, 3, 0] rfl) hP hD hS hf
      have h_86 : ∀ (x1_86 : Int32) (x2_86 : Int32) (x3_86 : Int32) (x4_86 : Int32) (M_86 : kD) (ls : Array Slot) (H : Heap) (locs : List Loc), lv_has ls 5 [(0, .ref (ra 0)), (1, .int x1_86), (2, .int x2_86), (3, .int x3_86), (4, .int x4_86)] → va_P (dC, dI) vwCl (mw cB cI cJ cZ ra M_86) H → va_D (mA ra s.heap.size) (mw cB cI cJ cZ ra M_86) → va_S (mA ra s.heap.size) s.heap H locs → g_X12_isSaid_86 rc_4 x1_86 x2_86 x3_86 x4_86 M_86 = some r → W p l e (headSpec wsX12_isSaid rm_X12_isSaid).room s m args below meth c H locs 0 0 (MQ below (mQi dC dI cB cI cJ cZ ra s.heap.size r) args s 0 0 (mA ra s.heap.size)) (F0 m 86 ls []) := by
        intro x1_86 x2_86 x3_86 x4_86 M_86 ls H locs hl hP hD hS hf
        unfold g_X12_isSaid_86 at hf
        have h_161 : ∀ (x1_161 : Int32) (x2_161 : Int32) (x3_161 : Int32) (t1_161 : Int32) (t2_161 : Int32) (M_161 : kD) (ls : Array Slot) (H : Heap) (locs : List Loc), lv_has ls 5 [(0, .ref (ra 0)), (1, .int x1_161), (2, .int x2_161), (3, .int x3_161)] → va_P (dC, dI) vwCl (mw cB cI cJ cZ ra M_161) H → va_D (mA ra s.heap.size) (mw cB cI cJ cZ ra M_161) → va_S (mA ra s.heap.size) s.heap H locs → g_X12_isSaid_161 rc_4 x1_161 x2_161 x3_161 t1_161 t2_161 M_161 = some r → W p l e (headSpec wsX12_isSaid rm_X12_isSaid).room s m args below meth c H locs 0 0 (MQ below (mQi dC dI cB cI cJ cZ ra s.heap.size r) args s 0 0 (mA ra s.heap.size)) (F0 m 161 ls [.int t2_161, .int t1_161, .ref (ra 45)]) := by
          intro x1_161 x2_161 x3_161 t1_161 t2_161 M_161 ls H locs hl hP hD hS hf
          unfold g_X12_isSaid_161 at hf
          obtain ⟨hc3, hf⟩ := ck_e hf
          obtain ⟨M4, eM4, hf⟩ := bd1_e hf
          refine va_zast hx hb hK hP hD hS 17 3 rfl rfl hc3 dX12_isSaid_161 (fun H locs hP hD hS => ?_)
          have hP : va_P (dC, dI) vwCl (mw cB cI cJ cZ ra M4) H := by rw [eM4, ← ma_45 cB cI cJ cZ ra M_161 t1_161.toNatClampNeg (vp_nar .boolean t2_161)]; exact hP
          have hD : va_D (mA ra s.heap.size) (mw cB cI cJ cZ ra M4) := by rw [eM4, ← ma_45 cB cI cJ cZ ra M_161 t1_161.toNatClampNeg (vp_nar .boolean t2_161)]; exact hD
          refine lv_goto (tgt := 204) hx hb dX12_isSaid_162 (by decide) ?_
          exact h_204 x1_161 x2_161 x3_161 M4 ls _ _ hl hP hD hS hf
        have h_156 : ∀ (x1_156 : Int32) (x2_156 : Int32) (x3_156 : Int32) (t1_156 : Int32) (M_156 : kD) (ls : Array Slot) (H : Heap) (locs : List Loc), lv_has ls 5 [(0, .ref (ra 0)), (1, .int x1_156), (2, .int x2_156), (3, .int x3_156)] → va_P (dC, dI) vwCl (mw cB cI cJ cZ ra M_156) H → va_D (mA ra s.heap.size) (mw cB cI cJ cZ ra M_156) → va_S (mA ra s.heap.size) s.heap H locs → g_X12_isSaid_156 rc_4 x1_156 x2_156 x3_156 t1_156 M_156 = some r → W p l e (headSpec wsX12_isSaid rm_X12_isSaid).room s m args below meth c H locs 0 0 (MQ below (mQi dC dI cB cI cJ cZ ra s.heap.size r) args s 0 0 (mA ra s.heap.size)) (F0 m 156 ls [.int t1_156, .ref (ra 45)]) := by
          intro x1_156 x2_156 x3_156 t1_156 M_156 ls H locs hl hP hD hS hf
          unfold g_X12_isSaid_156 at hf
          refine lv_iconst (v := 1) hx hb dX12_isSaid_156 (by decide) ?_
          refine lv_goto (tgt := 161) hx hb dX12_isSaid_157 (by decide) ?_
          exact h_161 x1_156 x2_156 x3_156 t1_156 (1 : Int32) M_156 ls _ _ hl hP hD hS hf
        have h_132 : ∀ (x1_132 : Int32) (x2_132 : Int32) (x3_132 : Int32) (t1_132 : Int32) (M_132 : kD) (ls : Array Slot) (H : Heap) (locs : List Loc), lv_has ls 5 [(0, .ref (ra 0)), (1, .int x1_132), (2, .int x2_132), (3, .int x3_132)] → va_P (dC, dI) vwCl (mw cB cI cJ cZ ra M_132) H → va_D (mA ra s.heap.size) (mw cB cI cJ cZ ra M_132) → va_S (mA ra s.heap.size) s.heap H locs → g_X12_isSaid_132 rc_4 x1_132 x2_132 x3_132 t1_132 M_132 = some r → W p l e (headSpec wsX12_isSaid rm_X12_isSaid).room s m args below meth c H locs 0 0 (MQ below (mQi dC dI cB cI cJ cZ ra s.heap.size r) args s 0 0 (mA ra s.heap.size)) (F0 m 132 ls [.int t1_132, .ref (ra 45)]) := by
          intro x1_132 x2_132 x3_132 t1_132 M_132 ls H locs hl hP hD hS hf
          unfold g_X12_isSaid_132 at hf
          refine lv_iconst (v := 0) hx hb dX12_isSaid_132 (by decide) ?_
          refine lv_goto (tgt := 161) hx hb dX12_isSaid_133 (by decide) ?_
          exact h_161 x1_132 x2_132 x3_132 t1_132 (0 : Int32) M_132 ls _ _ hl hP hD hS hf
        obtain ⟨v5, ev5, hf⟩ := bd1_e hf
        refine lv_iinc (k := 2) (x := x2_86) (v := v5) (nL := 5) (lv' := [(2, .int v5), (0, .ref (ra 0)), (1, .int x1_86), (3, .int x3_86), (4, .int x4_86)]) hx hb dX12_isSaid_86 hl rfl (kt_inc (w := (-1)) (by decide) ev5) (by decide) rfl (fun ls hl => ?_)
        refine lv_aload_n hx hb dX12_isSaid_89 rfl (lv_at hl 1 rfl) ?_
        refine km_get hx hb hts hin hown hK hP 45 (by decide) (v := .ref (ra 45)) k_fieldLink_RX12_86__KeyLettersModel___truths____Z_ rfl dX12_isSaid_90 ?_
        refine lv_iload_n hx hb dX12_isSaid_93 rfl (lv_at hl 0 rfl) ?_
        refine lv_iconst (v := 1) hx hb dX12_isSaid_94 (by decide) ?_
        refine lv_isub hx hb dX12_isSaid_95 ?_
        refine lv_aload_n hx hb dX12_isSaid_96 rfl (lv_at hl 1 rfl) ?_
        refine km_get hx hb hts hin hown hK hP 6 (by decide) (v := .ref (ra 6)) k_fieldLink_RX12_33__KeyLettersModel___s____I_ rfl dX12_isSaid_97 ?_
        refine lv_iload hx hb dX12_isSaid_100 (lv_at hl 4 rfl) ?_
        obtain ⟨hc6, hf⟩ := ck_e hf
        refine va_iald hx hb hK hP 2 1 rfl rfl hc6 dX12_isSaid_102 ?_
        refine lv_bipush (v := 21) hx hb dX12_isSaid_103 (by decide) ?_
        refine lv_icmp_ne (tgt := 136) hx hb dX12_isSaid_105 (by decide) (fun hb17 => ?_) (fun hb17 => ?_)
        · have hf := (if_neg hb17).symm.trans hf
          refine lv_aload_n hx hb dX12_isSaid_136 rfl (lv_at hl 1 rfl) ?_
          refine km_get hx hb hts hin hown hK hP 45 (by decide) (v := .ref (ra 45)) k_fieldLink_RX12_86__KeyLettersModel___truths____Z_ rfl dX12_isSaid_137 ?_
          refine lv_iload_n hx hb dX12_isSaid_140 rfl (lv_at hl 0 rfl) ?_
          refine lv_iconst (v := 1) hx hb dX12_isSaid_141 (by decide) ?_
          refine lv_isub hx hb dX12_isSaid_142 ?_
          obtain ⟨v7, ev7, hf⟩ := bd1_e hf
          refine kt_i ev7 ?_
          obtain ⟨hc8, hf⟩ := ck_e hf
          refine va_zald hx hb hK hP 17 3 rfl rfl hc8 dX12_isSaid_143 ?_
          refine lv_if_ne (tgt := 156) hx hb dX12_isSaid_144 (by decide) (fun hb11 => ?_) (fun hb11 => ?_)
          · have hf := (if_neg hb11).symm.trans hf
            exact h_156 x1_86 v5 x3_86 (v5 - (1 : Int32)) M_86 ls _ _ (lv_sub hl [1, 2, 0, 3] rfl) hP hD hS hf
          · have hf := (if_pos hb11).symm.trans hf
            refine lv_aload_n hx hb dX12_isSaid_147 rfl (lv_at hl 1 rfl) ?_
            refine km_get hx hb hts hin hown hK hP 45 (by decide) (v := .ref (ra 45)) k_fieldLink_RX12_86__KeyLettersModel___truths____Z_ rfl dX12_isSaid_148 ?_
            refine lv_iload_n hx hb dX12_isSaid_151 rfl (lv_at hl 0 rfl) ?_
            obtain ⟨hc9, hf⟩ := ck_e hf
            refine va_zald hx hb hK hP 17 3 rfl rfl hc9 dX12_isSaid_152 ?_
            refine lv_if_eq (tgt := 160) hx hb dX12_isSaid_153 (by decide) (fun hb10 => ?_) (fun hb10 => ?_)
            · have hf := (if_pos hb10).symm.trans hf
              refine lv_iconst (v := 0) hx hb dX12_isSaid_160 (by decide) ?_
              exact h_161 x1_86 v5 x3_86 (v5 - (1 : Int32)) (0 : Int32) M_86 ls _ _ (lv_sub hl [1, 2, 0, 3] rfl) hP hD hS hf
            · have hf := (if_neg hb10).symm.trans hf
              exact h_156 x1_86 v5 x3_86 (v5 - (1 : Int32)) M_86 ls _ _ (lv_sub hl [1, 2, 0, 3] rfl) hP hD hS hf
        · have hf := (if_pos hb17).symm.trans hf
          refine lv_aload_n hx hb dX12_isSaid_108 rfl (lv_at hl 1 rfl) ?_
          refine km_get hx hb hts hin hown hK hP 45 (by decide) (v := .ref (ra 45)) k_fieldLink_RX12_86__KeyLettersModel___truths____Z_ rfl dX12_isSaid_109 ?_
          refine lv_iload_n hx hb dX12_isSaid_112 rfl (lv_at hl 0 rfl) ?_
          refine lv_iconst (v := 1) hx hb dX12_isSaid_113 (by decide) ?_
          refine lv_isub hx hb dX12_isSaid_114 ?_
          obtain ⟨v12, ev12, hf⟩ := bd1_e hf
          refine kt_i ev12 ?_
          obtain ⟨hc13, hf⟩ := ck_e hf
          refine va_zald hx hb hK hP 17 3 rfl rfl hc13 dX12_isSaid_115 ?_
          refine lv_if_eq (tgt := 132) hx hb dX12_isSaid_116 (by decide) (fun hb16 => ?_) (fun hb16 => ?_)
          · have hf := (if_pos hb16).symm.trans hf
            exact h_132 x1_86 v5 x3_86 (v5 - (1 : Int32)) M_86 ls _ _ (lv_sub hl [1, 2, 0, 3] rfl) hP hD hS hf
          · have hf := (if_neg hb16).symm.trans hf
            refine lv_aload_n hx hb dX12_isSaid_119 rfl (lv_at hl 1 rfl) ?_
            refine km_get hx hb hts hin hown hK hP 45 (by decide) (v := .ref (ra 45)) k_fieldLink_RX12_86__KeyLettersModel___truths____Z_ rfl dX12_isSaid_120 ?_
            refine lv_iload_n hx hb dX12_isSaid_123 rfl (lv_at hl 0 rfl) ?_
            obtain ⟨hc14, hf⟩ := ck_e hf
            refine va_zald hx hb hK hP 17 3 rfl rfl hc14 dX12_isSaid_124 ?_
            refine lv_if_eq (tgt := 132) hx hb dX12_isSaid_125 (by decide) (fun hb15 => ?_) (fun hb15 => ?_)
            · have hf := (if_pos hb15).symm.trans hf
              exact h_132 x1_86 v5 x3_86 (v5 - (1 : Int32)) M_86 ls _ _ (lv_sub hl [1, 2, 0, 3] rfl) hP hD hS hf
            · have hf := (if_neg hb15).symm.trans hf
              refine lv_iconst (v := 1) hx hb dX12_isSaid_128 (by decide) ?_
              refine lv_goto (tgt := 161) hx hb dX12_isSaid_129 (by decide) ?_
              exact h_161 x1_86 v5 x3_86 (v5 - (1 : Int32)) (1 : Int32) M_86 ls _ _ (lv_sub hl [1, 2, 0, 3] rfl) hP hD hS hf
      have h_58 : ∀ (x1_58 : Int32) (x2_58 : Int32) (x3_58 : Int32) (t1_58 : Int32) (t2_58 : Int32) (M_58 : kD) (ls : Array Slot) (H : Heap) (locs : List Loc), lv_has ls 5 [(0, .ref (ra 0)), (1, .int x1_58), (2, .int x2_58), (3, .int x3_58)] → va_P (dC, dI) vwCl (mw cB cI cJ cZ ra M_58) H → va_D (mA ra s.heap.size) (mw cB cI cJ cZ ra M_58) → va_S (mA ra s.heap.size) s.heap H locs → g_X12_isSaid_58 rc_4 x1_58 x2_58 x3_58 t1_58 t2_58 M_58 = some r → W p l e (headSpec wsX12_isSaid rm_X12_isSaid).room s m args below meth c H locs 0 0 (MQ below (mQi dC dI cB cI cJ cZ ra s.heap.size r) args s 0 0 (mA ra s.heap.size)) (F0 m 58 ls [.int t2_58, .int t1_58, .ref (ra 45)]) := by
        intro x1_58 x2_58 x3_58 t1_58 t2_58 M_58 ls H locs hl hP hD hS hf
        unfold g_X12_isSaid_58 at hf
        obtain ⟨hc18, hf⟩ := ck_e hf
        obtain ⟨M19, eM19, hf⟩ := bd1_e hf
        refine va_zast hx hb hK hP hD hS 17 3 rfl rfl hc18 dX12_isSaid_58 (fun H locs hP hD hS => ?_)
        have hP : va_P (dC, dI) vwCl (mw cB cI cJ cZ ra M19) H := by rw [eM19, ← ma_45 cB cI cJ cZ ra M_58 t1_58.toNatClampNeg (vp_nar .boolean t2_58)]; exact hP
        have hD : va_D (mA ra s.heap.size) (mw cB cI cJ cZ ra M19) := by rw [eM19, ← ma_45 cB cI cJ cZ ra M_58 t1_58.toNatClampNeg (vp_nar .boolean t2_58)]; exact hD
        refine lv_goto (tgt := 204) hx hb dX12_isSaid_59 (by decide) ?_
        exact h_204 x1_58 x2_58 x3_58 M19 ls _ _ hl hP hD hS hf
      refine lv_iload_n hx hb dX12_isSaid_4 rfl (lv_at hl 3 rfl) ?_
      refine lv_aload_n hx hb dX12_isSaid_5 rfl (lv_at hl 0 rfl) ?_
      refine km_get hx hb hts hin hown hK hP 6 (by decide) (v := .ref (ra 6)) k_fieldLink_RX12_33__KeyLettersModel___s____I_ rfl dX12_isSaid_6 ?_
      refine lv_bipush (v := 98) hx hb dX12_isSaid_9 (by decide) ?_
      refine va_iald hx hb hK hP 2 1 rfl rfl (show ¬ ((98 : Int32) < 0 ∨ 279 ≤ (98 : Int32).toNatClampNeg) by decide +kernel) dX12_isSaid_11 ?_
      refine lv_icmp_ge (tgt := 210) hx hb dX12_isSaid_12 (by decide) (fun hb40 => ?_) (fun hb40 => ?_)
      · have hf := (if_pos hb40).symm.trans hf
        exact h_210  M_4 ls _ _ (lv_sub hl [0] rfl) hP hD hS hf
      · have hf := (if_neg hb40).symm.trans hf
        refine lv_bipush (v := 99) hx hb dX12_isSaid_15 (by decide) ?_
        refine lv_iconst (v := 3) hx hb dX12_isSaid_17 (by decide) ?_
        refine lv_iload_n hx hb dX12_isSaid_18 rfl (lv_at hl 3 rfl) ?_
        refine lv_imul hx hb dX12_isSaid_19 ?_
        refine lv_iadd hx hb dX12_isSaid_20 ?_
        obtain ⟨v20, ev20, hf⟩ := bd1_e hf
        refine kt_i ev20 ?_
        refine lv_istore (nL := 5) (lv' := [(4, .int v20), (0, .ref (ra 0)), (1, .int x1_4), (2, .int x2_4), (3, .int x3_4)]) hx hb dX12_isSaid_21 hl (by decide) rfl (fun ls hl => ?_)
        refine lv_aload_n hx hb dX12_isSaid_23 rfl (lv_at hl 1 rfl) ?_
        refine km_get hx hb hts hin hown hK hP 6 (by decide) (v := .ref (ra 6)) k_fieldLink_RX12_33__KeyLettersModel___s____I_ rfl dX12_isSaid_24 ?_
        refine lv_iload hx hb dX12_isSaid_27 (lv_at hl 0 rfl) ?_
        obtain ⟨hc21, hf⟩ := ck_e hf
        refine va_iald hx hb hK hP 2 1 rfl rfl hc21 dX12_isSaid_29 ?_
        refine lv_bipush (v := 20) hx hb dX12_isSaid_30 (by decide) ?_
        refine lv_icmp_ne (tgt := 62) hx hb dX12_isSaid_32 (by decide) (fun hb39 => ?_) (fun hb39 => ?_)
        · have hf := (if_neg hb39).symm.trans hf
          refine lv_aload_n hx hb dX12_isSaid_62 rfl (lv_at hl 1 rfl) ?_
          refine km_get hx hb hts hin hown hK hP 6 (by decide) (v := .ref (ra 6)) k_fieldLink_RX12_33__KeyLettersModel___s____I_ rfl dX12_isSaid_63 ?_
          refine lv_iload hx hb dX12_isSaid_66 (lv_at hl 0 rfl) ?_
          obtain ⟨hc22, hf⟩ := ck_e hf
          refine va_iald hx hb hK hP 2 1 rfl rfl hc22 dX12_isSaid_68 ?_
          refine lv_bipush (v := 21) hx hb dX12_isSaid_69 (by decide) ?_
          refine lv_icmp_eq (tgt := 86) hx hb dX12_isSaid_71 (by decide) (fun hb35 => ?_) (fun hb35 => ?_)
          · have hf := (if_pos hb35).symm.trans hf
            exact h_86 x1_4 x2_4 x3_4 v20 M_4 ls _ _ (lv_sub hl [1, 2, 3, 4, 0] rfl) hP hD hS hf
          · have hf := (if_neg hb35).symm.trans hf
            refine lv_aload_n hx hb dX12_isSaid_74 rfl (lv_at hl 1 rfl) ?_
            refine km_get hx hb hts hin hown hK hP 6 (by decide) (v := .ref (ra 6)) k_fieldLink_RX12_33__KeyLettersModel___s____I_ rfl dX12_isSaid_75 ?_
            refine lv_iload hx hb dX12_isSaid_78 (lv_at hl 0 rfl) ?_
            obtain ⟨hc23, hf⟩ := ck_e hf
            refine va_iald hx hb hK hP 2 1 rfl rfl hc23 dX12_isSaid_80 ?_
            refine lv_bipush (v := 22) hx hb dX12_isSaid_81 (by decide) ?_
            refine lv_icmp_ne (tgt := 165) hx hb dX12_isSaid_83 (by decide) (fun hb34 => ?_) (fun hb34 => ?_)
            · have hf := (if_neg hb34).symm.trans hf
              refine lv_aload_n hx hb dX12_isSaid_165 rfl (lv_at hl 1 rfl) ?_
              refine km_get hx hb hts hin hown hK hP 45 (by decide) (v := .ref (ra 45)) k_fieldLink_RX12_86__KeyLettersModel___truths____Z_ rfl dX12_isSaid_166 ?_
              refine lv_iload_n hx hb dX12_isSaid_169 rfl (lv_at hl 3 rfl) ?_
              refine lv_aload_n hx hb dX12_isSaid_170 rfl (lv_at hl 1 rfl) ?_
              refine lv_iload_n hx hb dX12_isSaid_171 rfl (lv_at hl 2 rfl) ?_
              refine lv_aload_n hx hb dX12_isSaid_172 rfl (lv_at hl 1 rfl) ?_
              refine km_get hx hb hts hin hown hK hP 6 (by decide) (v := .ref (ra 6)) k_fieldLink_RX12_33__KeyLettersModel___s____I_ rfl dX12_isSaid_173 ?_
              refine lv_iload hx hb dX12_isSaid_176 (lv_at hl 0 rfl) ?_
              obtain ⟨hc24, hf⟩ := ck_e hf
              refine va_iald hx hb hK hP 2 1 rfl rfl hc24 dX12_isSaid_178 ?_
              refine lv_aload_n hx hb dX12_isSaid_179 rfl (lv_at hl 1 rfl) ?_
              refine km_get hx hb hts hin hown hK hP 6 (by decide) (v := .ref (ra 6)) k_fieldLink_RX12_33__KeyLettersModel___s____I_ rfl dX12_isSaid_180 ?_
              refine lv_iload hx hb dX12_isSaid_183 (lv_at hl 0 rfl) ?_
              refine lv_iconst (v := 1) hx hb dX12_isSaid_185 (by decide) ?_
              refine lv_iadd hx hb dX12_isSaid_186 ?_
              obtain ⟨v25, ev25, hf⟩ := bd1_e hf
              refine kt_i ev25 ?_
              obtain ⟨hc26, hf⟩ := ck_e hf
              refine va_iald hx hb hK hP 2 1 rfl rfl hc26 dX12_isSaid_187 ?_
              refine lv_aload_n hx hb dX12_isSaid_188 rfl (lv_at hl 1 rfl) ?_
              refine km_get hx hb hts hin hown hK hP 6 (by decide) (v := .ref (ra 6)) k_fieldLink_RX12_33__KeyLettersModel___s____I_ rfl dX12_isSaid_189 ?_
              refine lv_iload hx hb dX12_isSaid_192 (lv_at hl 0 rfl) ?_
              refine lv_iconst (v := 2) hx hb dX12_isSaid_194 (by decide) ?_
              refine lv_iadd hx hb dX12_isSaid_195 ?_
              obtain ⟨v27, ev27, hf⟩ := bd1_e hf
              refine kt_i ev27 ?_
              obtain ⟨hc28, hf⟩ := ck_e hf
              refine va_iald hx hb hK hP 2 1 rfl rfl hc28 dX12_isSaid_196 ?_
              obtain ⟨v29, hq30, hf⟩ := bo_e hf
              refine ko_call (v := some (.int v29)) (km_run (As := [.int x1_4, .int (M_4.1 6 v20.toNatClampNeg), .int (M_4.1 6 v25.toNatClampNeg), .int (M_4.1 6 v27.toNatClampNeg)]) (rest := [.int x2_4, .ref (ra 45)]) ⟨hx, hb, hml, hown, hts⟩ (c_X12_isLeaf l dC dI cB cI cJ cZ ra M_4 x1_4 (M_4.1 6 v20.toNatClampNeg) (M_4.1 6 v25.toNatClampNeg) (M_4.1 6 v27.toNatClampNeg) v29 hq30) (cwV 4 hts gX12_isSaid_X12_isLeaf rfl rfl rfl (by decide +kernel) ⟨Nat.le_of_ble_eq_true rfl, Nat.le_of_ble_eq_true rfl⟩) hK hP (fun _ _ _ _ => mPr_bl) (fun U hU hW => ⟨by rw [hU]; exact hP, va_K.moved hW.alike hK⟩) rfl rfl hl.1 rfl (lv_room (Nat.le_of_ble_eq_true rfl)) dX12_isSaid_197 ⟨Nat.le_refl _, Nat.le_refl _⟩) ?_
              obtain ⟨hc31, hf⟩ := ck_e hf
              obtain ⟨M32, eM32, hf⟩ := bd1_e hf
              refine va_zast hx hb hK hP hD hS 17 3 rfl rfl hc31 dX12_isSaid_200 (fun H locs hP hD hS => ?_)
              have hP : va_P (dC, dI) vwCl (mw cB cI cJ cZ ra M32) H := by rw [eM32, ← ma_45 cB cI cJ cZ ra M_4 x2_4.toNatClampNeg (vp_nar .boolean v29)]; exact hP
              have hD : va_D (mA ra s.heap.size) (mw cB cI cJ cZ ra M32) := by rw [eM32, ← ma_45 cB cI cJ cZ ra M_4 x2_4.toNatClampNeg (vp_nar .boolean v29)]; exact hD
              obtain ⟨v33, ev33, hf⟩ := bd1_e hf
              refine lv_iinc (k := 3) (x := x2_4) (v := v33) (nL := 5) (lv' := [(2, .int v33), (4, .int v20), (0, .ref (ra 0)), (1, .int x1_4), (3, .int x3_4)]) hx hb dX12_isSaid_201 hl rfl (kt_inc (w := 1) (by decide) ev33) (by decide) rfl (fun ls hl => ?_)
              exact h_204 x1_4 v33 x3_4 M32 ls _ _ (lv_sub hl [2, 3, 0, 4] rfl) hP hD hS hf
            · have hf := (if_pos hb34).symm.trans hf
              exact h_86 x1_4 x2_4 x3_4 v20 M_4 ls _ _ (lv_sub hl [1, 2, 3, 4, 0] rfl) hP hD hS hf
        · have hf := (if_pos hb39).symm.trans hf
          refine lv_aload_n hx hb dX12_isSaid_35 rfl (lv_at hl 1 rfl) ?_
          refine km_get hx hb hts hin hown hK hP 45 (by decide) (v := .ref (ra 45)) k_fieldLink_RX12_86__KeyLettersModel___truths____Z_ rfl dX12_isSaid_36 ?_
          refine lv_iload_n hx hb dX12_isSaid_39 rfl (lv_at hl 3 rfl) ?_
          refine lv_iconst (v := 1) hx hb dX12_isSaid_40 (by decide) ?_
          refine lv_isub hx hb dX12_isSaid_41 ?_
          refine lv_aload_n hx hb dX12_isSaid_42 rfl (lv_at hl 1 rfl) ?_
          refine km_get hx hb hts hin hown hK hP 45 (by decide) (v := .ref (ra 45)) k_fieldLink_RX12_86__KeyLettersModel___truths____Z_ rfl dX12_isSaid_43 ?_
          refine lv_iload_n hx hb dX12_isSaid_46 rfl (lv_at hl 3 rfl) ?_
          refine lv_iconst (v := 1) hx hb dX12_isSaid_47 (by decide) ?_
          refine lv_isub hx hb dX12_isSaid_48 ?_
          obtain ⟨v36, ev36, hf⟩ := bd1_e hf
          refine kt_i ev36 ?_
          obtain ⟨hc37, hf⟩ := ck_e hf
          refine va_zald hx hb hK hP 17 3 rfl rfl hc37 dX12_isSaid_49 ?_
          refine lv_if_ne (tgt := 57) hx hb dX12_isSaid_50 (by decide) (fun hb38 => ?_) (fun hb38 => ?_)
          · have hf := (if_neg hb38).symm.trans hf
            refine lv_iconst (v := 0) hx hb dX12_isSaid_57 (by decide) ?_
            exact h_58 x1_4 x2_4 x3_4 (x2_4 - (1 : Int32)) (0 : Int32) M_4 ls _ _ (lv_sub hl [1, 2, 3, 4] rfl) hP hD hS hf
          · have hf := (if_pos hb38).symm.trans hf
            refine lv_iconst (v := 1) hx hb dX12_isSaid_53 (by decide) ?_
            refine lv_goto (tgt := 58) hx hb dX12_isSaid_54 (by decide) ?_
            exact h_58 x1_4 x2_4 x3_4 (x2_4 - (1 : Int32)) (1 : Int32) M_4 ls _ _ (lv_sub hl [1, 2, 3, 4] rfl) hP hD hS hf) 2000
  refine lv_iconst (v := 0) hx hb dX12_isSaid_0 (by decide) ?_
  refine lv_istore_n (nL := 5) (lv' := [(2, .int (0 : Int32)), (0, .ref (ra 0)), (1, .int a0)]) hx hb dX12_isSaid_1 rfl hl (by decide) rfl (fun ls hl => ?_)
  refine lv_iconst (v := 0) hx hb dX12_isSaid_2 (by decide) ?_
  refine lv_istore_n (nL := 5) (lv' := [(3, .int (0 : Int32)), (2, .int (0 : Int32)), (0, .ref (ra 0)), (1, .int a0)]) hx hb dX12_isSaid_3 rfl hl (by decide) rfl (fun ls hl => ?_)
  exact h_4 a0 (0 : Int32) (0 : Int32) M ls _ _ (lv_sub hl [2, 3, 1, 0] rfl) hP hD hS hf

abbrev rm_X12_said : Room := { frames := 6, cells := 0, slots := 0, locals := 137 }
set_option maxHeartbeats 4000000 in
set_option maxRecDepth 100000 in
theorem c_X12_said (l : Launch) (dC : Nat → ClassId) (dI : Nat → Nat → Nat) (cB cI cJ cZ : ClassId) (ra : Nat → Nat) (sz : Nat) (M : kD) (a0 : Int32) (r : (Int32 × kD)) (hf : f_X12_said a0 M = some r) : Met l yX12_said wsX12_said rm_X12_said (va_Pc [.ref (ra 0), .int a0] (mPw dC dI cB cI cJ cZ ra sz M)) (mQi dC dI cB cI cJ cZ ra sz r) 0 0 (mA ra sz) := by
  refine Met.ofW (cc := cX12_said) (maxL := 4) (ret := (some .int)) (by decide) rfl ?_
  intro p e s m args below meth c s₁ B hml hv
  obtain ⟨hav, hsz, hP, hK, hD0⟩ := hv
  have hx := B.exec
  have hb := B.bytes
  have hr := B.returns
  have hts := atoms_spec (ws := wsX12_said) B.pre
  have hown : s.vm.findClass RX12 = some m.cls := findClass_of_methodNamed B.named
  have hlocks := B.notSynchronized
  subst hsz
  have hA : ∀ q, s.heap.size ≤ q → mA ra s.heap.size q := fun q h => Or.inr h
  have hD : va_D (mA ra s.heap.size) (mw cB cI cJ cZ ra M) := hD0.weaken (fun k q h _ => mA_in h)
  have hS : va_S (mA ra s.heap.size) s.heap s.heap [] := va_S.rf
  have hin : ∀ w ∈ wsX120, w ∈ wsX12_said := fun w h => List.mem_cons_of_mem _ (List.mem_append_right _ h)
  have k_fieldLink_RX12_1__KeyLettersModel___thrown___I_ := hts (.fieldLink RX12 1 "KeyLettersModel" "thrown" "I") (by decide +kernel)
  have k_fieldLink_RX12_33__KeyLettersModel___s____I_ := hts (.fieldLink RX12 33 "KeyLettersModel" "s" "[I") (by decide +kernel)
  have hl := lv_entry ([.ref (ra 0), .int a0]) (n := 4) (Nat.le_of_ble_eq_true rfl)
  rw [show entryFrame m args 4 = entryFrame m ([.ref (ra 0), .int a0] : List Value).toArray 4 from by rw [hav], lg_entry_eq]
  generalize (lg_sl ([.ref (ra 0), .int a0]) ++ List.replicate (4 - (lg_sl ([.ref (ra 0), .int a0])).length) Slot.unset).toArray = ls at hl ⊢
  have hl : lv_has ls 4 [(0, .ref (ra 0)), (1, .int a0)] := hl
  unfold f_X12_said at hf
  have h_63 : ∀ (x1_63 : Int32) (x2_63 : Int32) (M_63 : kD) (ls : Array Slot) (H : Heap) (locs : List Loc), lv_has ls 4 [(1, .int x1_63), (2, .int x2_63)] → va_P (dC, dI) vwCl (mw cB cI cJ cZ ra M_63) H → va_D (mA ra s.heap.size) (mw cB cI cJ cZ ra M_63) → va_S (mA ra s.heap.size) s.heap H locs → g_X12_said_63 x1_63 x2_63 M_63 = some r → W p l e (headSpec wsX12_said rm_X12_said).room s m args below meth c H locs 0 0 (MQ below (mQi dC dI cB cI cJ cZ ra s.heap.size r) args s 0 0 (mA ra s.heap.size)) (F0 m 63 ls []) := by
    intro x1_63 x2_63 M_63 ls H locs hl hP hD hS hf
    unfold g_X12_said_63 at hf
    refine lv_iload_n hx hb dX12_said_63 rfl (lv_at hl 0 rfl) ?_
    refine lv_iconst (v := -1) hx hb dX12_said_64 (by decide) ?_
    refine lv_icmp_ne (tgt := 72) hx hb dX12_said_65 (by decide) (fun hb1 => ?_) (fun hb1 => ?_)
    · have hf := (if_neg hb1).symm.trans hf
      refine lv_iconst (v := -1) hx hb dX12_said_72 (by decide) ?_
      have hf := Option.some.inj hf
      subst hf
      exact m_iret hx hb hr hlocks hP hK hD hS dX12_said_73
    · have hf := (if_pos hb1).symm.trans hf
      refine lv_iload_n hx hb dX12_said_68 rfl (lv_at hl 1 rfl) ?_
      refine lv_goto (tgt := 73) hx hb dX12_said_69 (by decide) ?_
      have hf := Option.some.inj hf
      subst hf
      exact m_iret hx hb hr hlocks hP hK hD hS dX12_said_73
  have h_26 := lp_ind (z := (fun _ _ _ _ => none)) (b := (g_X12_said_26)) (fun (rc_26 : Int32 → Int32 → Int32 → kD → Option (Int32 × kD)) => ∀ (x1_26 : Int32) (x2_26 : Int32) (x3_26 : Int32) (M_26 : kD) (ls : Array Slot) (H : Heap) (locs : List Loc), lv_has ls 4 [(0, .ref (ra 0)), (1, .int x1_26), (2, .int x2_26), (3, .int x3_26)] → va_P (dC, dI) vwCl (mw cB cI cJ cZ ra M_26) H → va_D (mA ra s.heap.size) (mw cB cI cJ cZ ra M_26) → va_S (mA ra s.heap.size) s.heap H locs → rc_26 x1_26 x2_26 x3_26 M_26 = some r → W p l e (headSpec wsX12_said rm_X12_said).room s m args below meth c H locs 0 0 (MQ below (mQi dC dI cB cI cJ cZ ra s.heap.size r) args s 0 0 (mA ra s.heap.size)) (F0 m 26 ls [])) (by
      intro x1_26 x2_26 x3_26 M_26 ls H locs hl hP hD hS hf
      cases hf) (by
      intro rc_26 ih_26 x1_26 x2_26 x3_26 M_26 ls H locs hl hP hD hS hf
      unfold g_X12_said_26 at hf
      have h_57 : ∀ (x1_57 : Int32) (x2_57 : Int32) (x3_57 : Int32) (M_57 : kD) (ls : Array Slot) (H : Heap) (locs : List Loc), lv_has ls 4 [(0, .ref (ra 0)), (1, .int x1_57), (2, .int x2_57), (3, .int x3_57)] → va_P (dC, dI) vwCl (mw cB cI cJ cZ ra M_57) H → va_D (mA ra s.heap.size) (mw cB cI cJ cZ ra M_57) → va_S (mA ra s.heap.size) s.heap H locs → g_X12_said_57 rc_26 x1_57 x2_57 x3_57 M_57 = some r → W p l e (headSpec wsX12_said rm_X12_said).room s m args below meth c H locs 0 0 (MQ below (mQi dC dI cB cI cJ cZ ra s.heap.size r) args s 0 0 (mA ra s.heap.size)) (F0 m 57 ls []) := by
        intro x1_57 x2_57 x3_57 M_57 ls H locs hl hP hD hS hf
        unfold g_X12_said_57 at hf
        obtain ⟨v2, ev2, hf⟩ := bd1_e hf
        refine lv_iinc (k := 3) (x := x3_57) (v := v2) (nL := 4) (lv' := [(3, .int v2), (0, .ref (ra 0)), (1, .int x1_57), (2, .int x2_57)]) hx hb dX12_said_57 hl rfl (kt_inc (w := 1) (by decide) ev2) (by decide) rfl (fun ls hl => ?_)
        refine lv_goto (tgt := 26) hx hb dX12_said_60 (by decide) ?_
        exact ih_26 x1_57 x2_57 v2 M_57 ls _ _ (lv_sub hl [1, 2, 3, 0] rfl) hP hD hS hf
      refine lv_iload_n hx hb dX12_said_26 rfl (lv_at hl 3 rfl) ?_
      refine lv_aload_n hx hb dX12_said_27 rfl (lv_at hl 0 rfl) ?_
      refine km_get hx hb hts hin hown hK hP 6 (by decide) (v := .ref (ra 6)) k_fieldLink_RX12_33__KeyLettersModel___s____I_ rfl dX12_said_28 ?_
      refine lv_iconst (v := 0) hx hb dX12_said_31 (by decide) ?_
      refine va_iald hx hb hK hP 2 1 rfl rfl (show ¬ ((0 : Int32) < 0 ∨ 279 ≤ (0 : Int32).toNatClampNeg) by decide +kernel) dX12_said_32 ?_
      refine lv_icmp_ge (tgt := 63) hx hb dX12_said_33 (by decide) (fun hb9 => ?_) (fun hb9 => ?_)
      · have hf := (if_pos hb9).symm.trans hf
        exact h_63 x1_26 x2_26 M_26 ls _ _ (lv_sub hl [1, 2] rfl) hP hD hS hf
      · have hf := (if_neg hb9).symm.trans hf
        refine lv_aload_n hx hb dX12_said_36 rfl (lv_at hl 0 rfl) ?_
        refine lv_iload_n hx hb dX12_said_37 rfl (lv_at hl 3 rfl) ?_
        obtain ⟨v4, M3, hq5, hf⟩ := bo2_e hf
        refine km_callw (v := v4) (M1 := M3) rfl (km_run (As := [.int x3_26]) (rest := []) ⟨hx, hb, hml, hown, hts⟩ (c_X12_isSaid l dC dI cB cI cJ cZ ra _ M_26 x3_26 (v4, M3) hq5) (cwV 1 hts gX12_said_X12_isSaid rfl rfl rfl (by decide +kernel) ⟨Nat.le_of_ble_eq_true rfl, Nat.le_of_ble_eq_true rfl⟩) hK hP (fun _ _ _ _ => mPw_bl) (fun U hU hW => ⟨by rw [hU], by rw [hU]; exact hP, va_K.moved hW.alike hK, hD.weaken (fun _ _ _ _ => trivial)⟩) rfl rfl hl.1 rfl (lv_room (Nat.le_of_ble_eq_true rfl)) dX12_said_38 ⟨Nat.le_refl _, Nat.le_refl _⟩) hD hS hA (fun H locs hP hD hS => ?_)
        refine lv_if_ne (tgt := 47) hx hb dX12_said_41 (by decide) (fun hb8 => ?_) (fun hb8 => ?_)
        · have hf := (if_neg hb8).symm.trans hf
          refine lv_iload_n hx hb dX12_said_47 rfl (lv_at hl 2 rfl) ?_
          refine lv_iload_n hx hb dX12_said_48 rfl (lv_at hl 1 rfl) ?_
          refine lv_icmp_ne (tgt := 54) hx hb dX12_said_49 (by decide) (fun hb7 => ?_) (fun hb7 => ?_)
          · have hf := (if_neg hb7).symm.trans hf
            obtain ⟨v6, ev6, hf⟩ := bd1_e hf
            refine lv_iinc (k := 2) (x := x2_26) (v := v6) (nL := 4) (lv' := [(2, .int v6), (0, .ref (ra 0)), (1, .int x1_26), (3, .int x3_26)]) hx hb dX12_said_54 hl rfl (kt_inc (w := 1) (by decide) ev6) (by decide) rfl (fun ls hl => ?_)
            exact h_57 x1_26 v6 x3_26 M3 ls _ _ (lv_sub hl [1, 2, 0, 3] rfl) hP hD hS hf
          · have hf := (if_pos hb7).symm.trans hf
            refine lv_iload_n hx hb dX12_said_52 rfl (lv_at hl 3 rfl) ?_
            have hf := Option.some.inj hf
            subst hf
            exact m_iret hx hb hr hlocks hP hK hD hS dX12_said_53
        · have hf := (if_pos hb8).symm.trans hf
          refine lv_goto (tgt := 57) hx hb dX12_said_44 (by decide) ?_
          exact h_57 x1_26 x2_26 x3_26 M3 ls _ _ hl hP hD hS hf) 2000
  refine lv_aload_n hx hb dX12_said_0 rfl (lv_at hl 0 rfl) ?_
  refine lv_iconst (v := 0) hx hb dX12_said_1 (by decide) ?_
  obtain ⟨M10, eM10, hf⟩ := bd1_e hf
  refine km_put hx hb hts hin hown hK hP hD hS 0 (by decide) k_fieldLink_RX12_1__KeyLettersModel___thrown___I_ rfl (ty := .int) (v := .int (0 : Int32)) (by decide +kernel) rfl rfl (M1 := M10) (by rw [eM10]; exact mo_0 cB cI cJ cZ ra M (0 : Int32)) dX12_said_2 (fun H locs hP hD hS => ?_)
  refine lv_aload_n hx hb dX12_said_5 rfl (lv_at hl 0 rfl) ?_
  refine km_get hx hb hts hin hown hK hP 6 (by decide) (v := .ref (ra 6)) k_fieldLink_RX12_33__KeyLettersModel___s____I_ rfl dX12_said_6 ?_
  refine lv_bipush (v := 98) hx hb dX12_said_9 (by decide) ?_
  refine va_iald hx hb hK hP 2 1 rfl rfl (show ¬ ((98 : Int32) < 0 ∨ 279 ≤ (98 : Int32).toNatClampNeg) by decide +kernel) dX12_said_11 ?_
  refine lv_if_eq (tgt := 20) hx hb dX12_said_12 (by decide) (fun hb12 => ?_) (fun hb12 => ?_)
  · have hf := (if_pos hb12).symm.trans hf
    refine lv_iconst (v := -1) hx hb dX12_said_20 (by decide) ?_
    have hf := Option.some.inj hf
    subst hf
    exact m_iret hx hb hr hlocks hP hK hD hS dX12_said_21
  · have hf := (if_neg hb12).symm.trans hf
    refine lv_iload_n hx hb dX12_said_15 rfl (lv_at hl 1 rfl) ?_
    refine lv_iconst (v := -1) hx hb dX12_said_16 (by decide) ?_
    refine lv_icmp_ge (tgt := 22) hx hb dX12_said_17 (by decide) (fun hb11 => ?_) (fun hb11 => ?_)
    · have hf := (if_pos hb11).symm.trans hf
      refine lv_iconst (v := 0) hx hb dX12_said_22 (by decide) ?_
      refine lv_istore_n (nL := 4) (lv' := [(2, .int (0 : Int32)), (0, .ref (ra 0)), (1, .int a0)]) hx hb dX12_said_23 rfl hl (by decide) rfl (fun ls hl => ?_)
      refine lv_iconst (v := 0) hx hb dX12_said_24 (by decide) ?_
      refine lv_istore_n (nL := 4) (lv' := [(3, .int (0 : Int32)), (2, .int (0 : Int32)), (0, .ref (ra 0)), (1, .int a0)]) hx hb dX12_said_25 rfl hl (by decide) rfl (fun ls hl => ?_)
      exact h_26 a0 (0 : Int32) (0 : Int32) M10 ls _ _ (lv_sub hl [2, 3, 1, 0] rfl) hP hD hS hf
    · have hf := (if_neg hb11).symm.trans hf
      refine lv_iconst (v := -1) hx hb dX12_said_20 (by decide) ?_
      have hf := Option.some.inj hf
      subst hf
      exact m_iret hx hb hr hlocks hP hK hD hS dX12_said_21

abbrev rm_X12_image : Room := { frames := 1, cells := 0, slots := 0, locals := 22 }
set_option maxHeartbeats 4000000 in
set_option maxRecDepth 100000 in
theorem c_X12_image (l : Launch) (dC : Nat → ClassId) (dI : Nat → Nat → Nat) (cB cI cJ cZ : ClassId) (ra : Nat → Nat) (sz : Nat) (M : kD) (a0 : Int32) (r : (Int32 × kD)) (hf : f_X12_image a0 M = some r) : Met l yX12_image wsX12_image rm_X12_image (va_Pc [.ref (ra 0), .int a0] (mPw dC dI cB cI cJ cZ ra sz M)) (mQi dC dI cB cI cJ cZ ra sz r) 0 0 (mA ra sz) := by
  refine Met.ofW (cc := cX12_image) (maxL := 3) (ret := (some .boolean)) (by decide) rfl ?_
  intro p e s m args below meth c s₁ B hml hv
  obtain ⟨hav, hsz, hP, hK, hD0⟩ := hv
  have hx := B.exec
  have hb := B.bytes
  have hr := B.returns
  have hts := atoms_spec (ws := wsX12_image) B.pre
  have hown : s.vm.findClass RX12 = some m.cls := findClass_of_methodNamed B.named
  have hlocks := B.notSynchronized
  subst hsz
  have hA : ∀ q, s.heap.size ≤ q → mA ra s.heap.size q := fun q h => Or.inr h
  have hD : va_D (mA ra s.heap.size) (mw cB cI cJ cZ ra M) := hD0.weaken (fun k q h _ => mA_in h)
  have hS : va_S (mA ra s.heap.size) s.heap s.heap [] := va_S.rf
  have hin : ∀ w ∈ wsX120, w ∈ wsX12_image := fun w h => List.mem_cons_of_mem _ (List.mem_append_right _ h)
  have k_fieldLink_RX12_1__KeyLettersModel___thrown___I_ := hts (.fieldLink RX12 1 "KeyLettersModel" "thrown" "I") (by decide +kernel)
  have k_fieldLink_RX12_33__KeyLettersModel___s____I_ := hts (.fieldLink RX12 33 "KeyLettersModel" "s" "[I") (by decide +kernel)
  have k_fieldLink_RX12_43__KeyLettersModel___names____J_ := hts (.fieldLink RX12 43 "KeyLettersModel" "names" "[J") (by decide +kernel)
  have k_fieldLink_RX12_90__KeyLettersModel___imaged____I_ := hts (.fieldLink RX12 90 "KeyLettersModel" "imaged" "[I") (by decide +kernel)
  have k_fieldLink_RX12_93__KeyLettersModel___namesKept____J_ := hts (.fieldLink RX12 93 "KeyLettersModel" "namesKept" "[J") (by decide +kernel)
  have k_fieldLink_RX12_96__KeyLettersModel___areKept____Z_ := hts (.fieldLink RX12 96 "KeyLettersModel" "areKept" "[Z") (by decide +kernel)
  have hl := lv_entry ([.ref (ra 0), .int a0]) (n := 3) (Nat.le_of_ble_eq_true rfl)
  rw [show entryFrame m args 3 = entryFrame m ([.ref (ra 0), .int a0] : List Value).toArray 3 from by rw [hav], lg_entry_eq]
  generalize (lg_sl ([.ref (ra 0), .int a0]) ++ List.replicate (3 - (lg_sl ([.ref (ra 0), .int a0])).length) Slot.unset).toArray = ls at hl ⊢
  have hl : lv_has ls 3 [(0, .ref (ra 0)), (1, .int a0)] := hl
  unfold f_X12_image at hf
  have h_49 : ∀ (x1_49 : Int32) (M_49 : kD) (ls : Array Slot) (H : Heap) (locs : List Loc), lv_has ls 3 [(0, .ref (ra 0)), (1, .int x1_49)] → va_P (dC, dI) vwCl (mw cB cI cJ cZ ra M_49) H → va_D (mA ra s.heap.size) (mw cB cI cJ cZ ra M_49) → va_S (mA ra s.heap.size) s.heap H locs → g_X12_image_49 x1_49 M_49 = some r → W p l e (headSpec wsX12_image rm_X12_image).room s m args below meth c H locs 0 0 (MQ below (mQi dC dI cB cI cJ cZ ra s.heap.size r) args s 0 0 (mA ra s.heap.size)) (F0 m 49 ls []) := by
    intro x1_49 M_49 ls H locs hl hP hD hS hf
    unfold g_X12_image_49 at hf
    have h_80 : ∀ (x1_80 : Int32) (M_80 : kD) (ls : Array Slot) (H : Heap) (locs : List Loc), lv_has ls 3 [(0, .ref (ra 0)), (1, .int x1_80)] → va_P (dC, dI) vwCl (mw cB cI cJ cZ ra M_80) H → va_D (mA ra s.heap.size) (mw cB cI cJ cZ ra M_80) → va_S (mA ra s.heap.size) s.heap H locs → g_X12_image_80 x1_80 M_80 = some r → W p l e (headSpec wsX12_image rm_X12_image).room s m args below meth c H locs 0 0 (MQ below (mQi dC dI cB cI cJ cZ ra s.heap.size r) args s 0 0 (mA ra s.heap.size)) (F0 m 80 ls []) := by
      intro x1_80 M_80 ls H locs hl hP hD hS hf
      unfold g_X12_image_80 at hf
      refine lv_aload_n hx hb dX12_image_80 rfl (lv_at hl 0 rfl) ?_
      refine km_get hx hb hts hin hown hK hP 48 (by decide) (v := .ref (ra 48)) k_fieldLink_RX12_96__KeyLettersModel___areKept____Z_ rfl dX12_image_81 ?_
      refine lv_iload_n hx hb dX12_image_84 rfl (lv_at hl 1 rfl) ?_
      refine lv_iconst (v := 1) hx hb dX12_image_85 (by decide) ?_
      obtain ⟨hc1, hf⟩ := ck_e hf
      obtain ⟨M2, eM2, hf⟩ := bd1_e hf
      refine va_zast hx hb hK hP hD hS 20 3 rfl rfl hc1 dX12_image_86 (fun H locs hP hD hS => ?_)
      have hP : va_P (dC, dI) vwCl (mw cB cI cJ cZ ra M2) H := by rw [eM2, ← ma_48 cB cI cJ cZ ra M_80 x1_80.toNatClampNeg (vp_nar .boolean (1 : Int32))]; exact hP
      have hD : va_D (mA ra s.heap.size) (mw cB cI cJ cZ ra M2) := by rw [eM2, ← ma_48 cB cI cJ cZ ra M_80 x1_80.toNatClampNeg (vp_nar .boolean (1 : Int32))]; exact hD
      refine lv_iconst (v := 1) hx hb dX12_image_87 (by decide) ?_
      have hf := Option.some.inj hf
      subst hf
      exact m_zret hx hb hr rfl hlocks hP hK hD hS dX12_image_88
    have h_51 := lp_ind (z := (fun _ _ _ => none)) (b := (g_X12_image_51)) (fun (rc_51 : Int32 → Int32 → kD → Option (Int32 × kD)) => ∀ (x1_51 : Int32) (x2_51 : Int32) (M_51 : kD) (ls : Array Slot) (H : Heap) (locs : List Loc), lv_has ls 3 [(0, .ref (ra 0)), (1, .int x1_51), (2, .int x2_51)] → va_P (dC, dI) vwCl (mw cB cI cJ cZ ra M_51) H → va_D (mA ra s.heap.size) (mw cB cI cJ cZ ra M_51) → va_S (mA ra s.heap.size) s.heap H locs → rc_51 x1_51 x2_51 M_51 = some r → W p l e (headSpec wsX12_image rm_X12_image).room s m args below meth c H locs 0 0 (MQ below (mQi dC dI cB cI cJ cZ ra s.heap.size r) args s 0 0 (mA ra s.heap.size)) (F0 m 51 ls [])) (by
        intro x1_51 x2_51 M_51 ls H locs hl hP hD hS hf
        cases hf) (by
        intro rc_51 ih_51 x1_51 x2_51 M_51 ls H locs hl hP hD hS hf
        unfold g_X12_image_51 at hf
        refine lv_iload_n hx hb dX12_image_51 rfl (lv_at hl 2 rfl) ?_
        refine lv_bipush (v := 14) hx hb dX12_image_52 (by decide) ?_
        refine lv_icmp_ge (tgt := 80) hx hb dX12_image_54 (by decide) (fun hb7 => ?_) (fun hb7 => ?_)
        · have hf := (if_pos hb7).symm.trans hf
          exact h_80 x1_51 M_51 ls _ _ (lv_sub hl [0, 1] rfl) hP hD hS hf
        · have hf := (if_neg hb7).symm.trans hf
          refine lv_aload_n hx hb dX12_image_57 rfl (lv_at hl 0 rfl) ?_
          refine km_get hx hb hts hin hown hK hP 47 (by decide) (v := .ref (ra 47)) k_fieldLink_RX12_93__KeyLettersModel___namesKept____J_ rfl dX12_image_58 ?_
          refine lv_bipush (v := 14) hx hb dX12_image_61 (by decide) ?_
          refine lv_iload_n hx hb dX12_image_63 rfl (lv_at hl 1 rfl) ?_
          refine lv_imul hx hb dX12_image_64 ?_
          refine lv_iload_n hx hb dX12_image_65 rfl (lv_at hl 2 rfl) ?_
          refine lv_iadd hx hb dX12_image_66 ?_
          refine lv_aload_n hx hb dX12_image_67 rfl (lv_at hl 0 rfl) ?_
          refine km_get hx hb hts hin hown hK hP 9 (by decide) (v := .ref (ra 9)) k_fieldLink_RX12_43__KeyLettersModel___names____J_ rfl dX12_image_68 ?_
          refine lv_iload_n hx hb dX12_image_71 rfl (lv_at hl 2 rfl) ?_
          obtain ⟨hc3, hf⟩ := ck_e hf
          refine va_lald hx hb hK hP 5 2 rfl rfl hc3 dX12_image_72 ?_
          obtain ⟨hc4, hf⟩ := ck_e hf
          obtain ⟨M5, eM5, hf⟩ := bd1_e hf
          refine va_last hx hb hK hP hD hS 19 2 rfl rfl hc4 dX12_image_73 (fun H locs hP hD hS => ?_)
          have hP : va_P (dC, dI) vwCl (mw cB cI cJ cZ ra M5) H := by rw [eM5, ← ma_47 cB cI cJ cZ ra M_51 (((14 : Int32) * x1_51) + x2_51).toNatClampNeg (M_51.2 9 x2_51.toNatClampNeg)]; exact hP
          have hD : va_D (mA ra s.heap.size) (mw cB cI cJ cZ ra M5) := by rw [eM5, ← ma_47 cB cI cJ cZ ra M_51 (((14 : Int32) * x1_51) + x2_51).toNatClampNeg (M_51.2 9 x2_51.toNatClampNeg)]; exact hD
          obtain ⟨v6, ev6, hf⟩ := bd1_e hf
          refine lv_iinc (k := 2) (x := x2_51) (v := v6) (nL := 3) (lv' := [(2, .int v6), (0, .ref (ra 0)), (1, .int x1_51)]) hx hb dX12_image_74 hl rfl (kt_inc (w := 1) (by decide) ev6) (by decide) rfl (fun ls hl => ?_)
          refine lv_goto (tgt := 51) hx hb dX12_image_77 (by decide) ?_
          exact ih_51 x1_51 v6 M5 ls _ _ (lv_sub hl [1, 2, 0] rfl) hP hD hS hf) 2000
    refine lv_iconst (v := 0) hx hb dX12_image_49 (by decide) ?_
    refine lv_istore_n (nL := 3) (lv' := [(2, .int (0 : Int32)), (0, .ref (ra 0)), (1, .int x1_49)]) hx hb dX12_image_50 rfl hl (by decide) rfl (fun ls hl => ?_)
    exact h_51 x1_49 (0 : Int32) M_49 ls _ _ (lv_sub hl [1, 2, 0] rfl) hP hD hS hf
  have h_18 := lp_ind (z := (fun _ _ _ => none)) (b := (g_X12_image_18)) (fun (rc_18 : Int32 → Int32 → kD → Option (Int32 × kD)) => ∀ (x1_18 : Int32) (x2_18 : Int32) (M_18 : kD) (ls : Array Slot) (H : Heap) (locs : List Loc), lv_has ls 3 [(0, .ref (ra 0)), (1, .int x1_18), (2, .int x2_18)] → va_P (dC, dI) vwCl (mw cB cI cJ cZ ra M_18) H → va_D (mA ra s.heap.size) (mw cB cI cJ cZ ra M_18) → va_S (mA ra s.heap.size) s.heap H locs → rc_18 x1_18 x2_18 M_18 = some r → W p l e (headSpec wsX12_image rm_X12_image).room s m args below meth c H locs 0 0 (MQ below (mQi dC dI cB cI cJ cZ ra s.heap.size r) args s 0 0 (mA ra s.heap.size)) (F0 m 18 ls [])) (by
      intro x1_18 x2_18 M_18 ls H locs hl hP hD hS hf
      cases hf) (by
      intro rc_18 ih_18 x1_18 x2_18 M_18 ls H locs hl hP hD hS hf
      unfold g_X12_image_18 at hf
      refine lv_iload_n hx hb dX12_image_18 rfl (lv_at hl 2 rfl) ?_
      refine lv_sipush (v := 279) hx hb dX12_image_19 (by decide) ?_
      refine lv_icmp_ge (tgt := 49) hx hb dX12_image_22 (by decide) (fun hb12 => ?_) (fun hb12 => ?_)
      · have hf := (if_pos hb12).symm.trans hf
        exact h_49 x1_18 M_18 ls _ _ (lv_sub hl [0, 1] rfl) hP hD hS hf
      · have hf := (if_neg hb12).symm.trans hf
        refine lv_aload_n hx hb dX12_image_25 rfl (lv_at hl 0 rfl) ?_
        refine km_get hx hb hts hin hown hK hP 46 (by decide) (v := .ref (ra 46)) k_fieldLink_RX12_90__KeyLettersModel___imaged____I_ rfl dX12_image_26 ?_
        refine lv_sipush (v := 279) hx hb dX12_image_29 (by decide) ?_
        refine lv_iload_n hx hb dX12_image_32 rfl (lv_at hl 1 rfl) ?_
        refine lv_imul hx hb dX12_image_33 ?_
        refine lv_iload_n hx hb dX12_image_34 rfl (lv_at hl 2 rfl) ?_
        refine lv_iadd hx hb dX12_image_35 ?_
        refine lv_aload_n hx hb dX12_image_36 rfl (lv_at hl 0 rfl) ?_
        refine km_get hx hb hts hin hown hK hP 6 (by decide) (v := .ref (ra 6)) k_fieldLink_RX12_33__KeyLettersModel___s____I_ rfl dX12_image_37 ?_
        refine lv_iload_n hx hb dX12_image_40 rfl (lv_at hl 2 rfl) ?_
        obtain ⟨hc8, hf⟩ := ck_e hf
        refine va_iald hx hb hK hP 2 1 rfl rfl hc8 dX12_image_41 ?_
        obtain ⟨hc9, hf⟩ := ck_e hf
        obtain ⟨M10, eM10, hf⟩ := bd1_e hf
        refine va_iast hx hb hK hP hD hS 18 1 rfl rfl hc9 dX12_image_42 (fun H locs hP hD hS => ?_)
        have hP : va_P (dC, dI) vwCl (mw cB cI cJ cZ ra M10) H := by rw [eM10, ← ma_46 cB cI cJ cZ ra M_18 (((279 : Int32) * x1_18) + x2_18).toNatClampNeg (M_18.1 6 x2_18.toNatClampNeg)]; exact hP
        have hD : va_D (mA ra s.heap.size) (mw cB cI cJ cZ ra M10) := by rw [eM10, ← ma_46 cB cI cJ cZ ra M_18 (((279 : Int32) * x1_18) + x2_18).toNatClampNeg (M_18.1 6 x2_18.toNatClampNeg)]; exact hD
        obtain ⟨v11, ev11, hf⟩ := bd1_e hf
        refine lv_iinc (k := 2) (x := x2_18) (v := v11) (nL := 3) (lv' := [(2, .int v11), (0, .ref (ra 0)), (1, .int x1_18)]) hx hb dX12_image_43 hl rfl (kt_inc (w := 1) (by decide) ev11) (by decide) rfl (fun ls hl => ?_)
        refine lv_goto (tgt := 18) hx hb dX12_image_46 (by decide) ?_
        exact ih_18 x1_18 v11 M10 ls _ _ (lv_sub hl [1, 2, 0] rfl) hP hD hS hf) 2000
  refine lv_aload_n hx hb dX12_image_0 rfl (lv_at hl 0 rfl) ?_
  refine lv_iconst (v := 0) hx hb dX12_image_1 (by decide) ?_
  obtain ⟨M13, eM13, hf⟩ := bd1_e hf
  refine km_put hx hb hts hin hown hK hP hD hS 0 (by decide) k_fieldLink_RX12_1__KeyLettersModel___thrown___I_ rfl (ty := .int) (v := .int (0 : Int32)) (by decide +kernel) rfl rfl (M1 := M13) (by rw [eM13]; exact mo_0 cB cI cJ cZ ra M (0 : Int32)) dX12_image_2 (fun H locs hP hD hS => ?_)
  refine lv_iload_n hx hb dX12_image_5 rfl (lv_at hl 1 rfl) ?_
  refine lv_iconst (v := 0) hx hb dX12_image_6 (by decide) ?_
  refine lv_iconst (v := 1) hx hb dX12_image_7 (by decide) ?_
  refine ko_call (v := some (.int (f_X12_isIn a0 (0 : Int32) (1 : Int32)))) (va_runS (As := [.int a0, .int (0 : Int32), .int (1 : Int32)]) (rest := []) ⟨hx, hb, hml, hown, hts⟩ (c_X12_isIn l a0 (0 : Int32) (1 : Int32) _ rfl) (va_cwS 3 hts gX12_image_X12_isIn rfl rfl rfl (by decide +kernel) ⟨Nat.le_of_ble_eq_true rfl, Nat.le_of_ble_eq_true rfl⟩) ⟨fun a U g mk q => q, fun U hU hW => ⟨rfl, trivial⟩⟩ rfl rfl hl.1 rfl (lv_room (Nat.le_of_ble_eq_true rfl)) dX12_image_8 ⟨Nat.le_refl _, Nat.le_refl _⟩) ?_
  refine lv_if_ne (tgt := 16) hx hb dX12_image_11 (by decide) (fun hb14 => ?_) (fun hb14 => ?_)
  · have hf := (if_neg hb14).symm.trans hf
    refine lv_iconst (v := 0) hx hb dX12_image_16 (by decide) ?_
    refine lv_istore_n (nL := 3) (lv' := [(2, .int (0 : Int32)), (0, .ref (ra 0)), (1, .int a0)]) hx hb dX12_image_17 rfl hl (by decide) rfl (fun ls hl => ?_)
    exact h_18 a0 (0 : Int32) M13 ls _ _ (lv_sub hl [1, 2, 0] rfl) hP hD hS hf
  · have hf := (if_pos hb14).symm.trans hf
    refine lv_iconst (v := 0) hx hb dX12_image_14 (by decide) ?_
    have hf := Option.some.inj hf
    subst hf
    exact m_zret hx hb hr rfl hlocks hP hK hD hS dX12_image_15

abbrev rm_X12_restore : Room := { frames := 1, cells := 0, slots := 0, locals := 22 }
set_option maxHeartbeats 4000000 in
set_option maxRecDepth 100000 in
theorem c_X12_restore (l : Launch) (dC : Nat → ClassId) (dI : Nat → Nat → Nat) (cB cI cJ cZ : ClassId) (ra : Nat → Nat) (sz : Nat) (M : kD) (a0 : Int32) (r : (Int32 × kD)) (hf : f_X12_restore a0 M = some r) : Met l yX12_restore wsX12_restore rm_X12_restore (va_Pc [.ref (ra 0), .int a0] (mPw dC dI cB cI cJ cZ ra sz M)) (mQi dC dI cB cI cJ cZ ra sz r) 0 0 (mA ra sz) := by
  refine Met.ofW (cc := cX12_restore) (maxL := 3) (ret := (some .boolean)) (by decide) rfl ?_
  intro p e s m args below meth c s₁ B hml hv
  obtain ⟨hav, hsz, hP, hK, hD0⟩ := hv
  have hx := B.exec
  have hb := B.bytes
  have hr := B.returns
  have hts := atoms_spec (ws := wsX12_restore) B.pre
  have hown : s.vm.findClass RX12 = some m.cls := findClass_of_methodNamed B.named
  have hlocks := B.notSynchronized
  subst hsz
  have hA : ∀ q, s.heap.size ≤ q → mA ra s.heap.size q := fun q h => Or.inr h
  have hD : va_D (mA ra s.heap.size) (mw cB cI cJ cZ ra M) := hD0.weaken (fun k q h _ => mA_in h)
  have hS : va_S (mA ra s.heap.size) s.heap s.heap [] := va_S.rf
  have hin : ∀ w ∈ wsX120, w ∈ wsX12_restore := fun w h => List.mem_cons_of_mem _ (List.mem_append_right _ h)
  have k_fieldLink_RX12_1__KeyLettersModel___thrown___I_ := hts (.fieldLink RX12 1 "KeyLettersModel" "thrown" "I") (by decide +kernel)
  have k_fieldLink_RX12_248__KeyLettersModel___undoMany___I_ := hts (.fieldLink RX12 248 "KeyLettersModel" "undoMany" "I") (by decide +kernel)
  have k_fieldLink_RX12_33__KeyLettersModel___s____I_ := hts (.fieldLink RX12 33 "KeyLettersModel" "s" "[I") (by decide +kernel)
  have k_fieldLink_RX12_43__KeyLettersModel___names____J_ := hts (.fieldLink RX12 43 "KeyLettersModel" "names" "[J") (by decide +kernel)
  have k_fieldLink_RX12_90__KeyLettersModel___imaged____I_ := hts (.fieldLink RX12 90 "KeyLettersModel" "imaged" "[I") (by decide +kernel)
  have k_fieldLink_RX12_93__KeyLettersModel___namesKept____J_ := hts (.fieldLink RX12 93 "KeyLettersModel" "namesKept" "[J") (by decide +kernel)
  have k_fieldLink_RX12_96__KeyLettersModel___areKept____Z_ := hts (.fieldLink RX12 96 "KeyLettersModel" "areKept" "[Z") (by decide +kernel)
  have hl := lv_entry ([.ref (ra 0), .int a0]) (n := 3) (Nat.le_of_ble_eq_true rfl)
  rw [show entryFrame m args 3 = entryFrame m ([.ref (ra 0), .int a0] : List Value).toArray 3 from by rw [hav], lg_entry_eq]
  generalize (lg_sl ([.ref (ra 0), .int a0]) ++ List.replicate (3 - (lg_sl ([.ref (ra 0), .int a0])).length) Slot.unset).toArray = ls at hl ⊢
  have hl : lv_has ls 3 [(0, .ref (ra 0)), (1, .int a0)] := hl
  unfold f_X12_restore at hf
  have h_58 : ∀ (x1_58 : Int32) (M_58 : kD) (ls : Array Slot) (H : Heap) (locs : List Loc), lv_has ls 3 [(0, .ref (ra 0)), (1, .int x1_58)] → va_P (dC, dI) vwCl (mw cB cI cJ cZ ra M_58) H → va_D (mA ra s.heap.size) (mw cB cI cJ cZ ra M_58) → va_S (mA ra s.heap.size) s.heap H locs → g_X12_restore_58 x1_58 M_58 = some r → W p l e (headSpec wsX12_restore rm_X12_restore).room s m args below meth c H locs 0 0 (MQ below (mQi dC dI cB cI cJ cZ ra s.heap.size r) args s 0 0 (mA ra s.heap.size)) (F0 m 58 ls []) := by
    intro x1_58 M_58 ls H locs hl hP hD hS hf
    unfold g_X12_restore_58 at hf
    have h_60 := lp_ind (z := (fun _ _ _ => none)) (b := (g_X12_restore_60)) (fun (rc_60 : Int32 → Int32 → kD → Option (Int32 × kD)) => ∀ (x1_60 : Int32) (x2_60 : Int32) (M_60 : kD) (ls : Array Slot) (H : Heap) (locs : List Loc), lv_has ls 3 [(0, .ref (ra 0)), (1, .int x1_60), (2, .int x2_60)] → va_P (dC, dI) vwCl (mw cB cI cJ cZ ra M_60) H → va_D (mA ra s.heap.size) (mw cB cI cJ cZ ra M_60) → va_S (mA ra s.heap.size) s.heap H locs → rc_60 x1_60 x2_60 M_60 = some r → W p l e (headSpec wsX12_restore rm_X12_restore).room s m args below meth c H locs 0 0 (MQ below (mQi dC dI cB cI cJ cZ ra s.heap.size r) args s 0 0 (mA ra s.heap.size)) (F0 m 60 ls [])) (by
        intro x1_60 x2_60 M_60 ls H locs hl hP hD hS hf
        cases hf) (by
        intro rc_60 ih_60 x1_60 x2_60 M_60 ls H locs hl hP hD hS hf
        unfold g_X12_restore_60 at hf
        refine lv_iload_n hx hb dX12_restore_60 rfl (lv_at hl 2 rfl) ?_
        refine lv_bipush (v := 14) hx hb dX12_restore_61 (by decide) ?_
        refine lv_icmp_ge (tgt := 89) hx hb dX12_restore_63 (by decide) (fun hb7 => ?_) (fun hb7 => ?_)
        · have hf := (if_pos hb7).symm.trans hf
          refine lv_aload_n hx hb dX12_restore_89 rfl (lv_at hl 0 rfl) ?_
          refine lv_iconst (v := 0) hx hb dX12_restore_90 (by decide) ?_
          obtain ⟨M1, eM1, hf⟩ := bd1_e hf
          refine km_put hx hb hts hin hown hK hP hD hS 22 (by decide) k_fieldLink_RX12_248__KeyLettersModel___undoMany___I_ rfl (ty := .int) (v := .int (0 : Int32)) (by decide +kernel) rfl rfl (M1 := M1) (by rw [eM1]; exact mo_22 cB cI cJ cZ ra M_60 (0 : Int32)) dX12_restore_91 (fun H locs hP hD hS => ?_)
          refine lv_iconst (v := 1) hx hb dX12_restore_94 (by decide) ?_
          have hf := Option.some.inj hf
          subst hf
          exact m_zret hx hb hr rfl hlocks hP hK hD hS dX12_restore_95
        · have hf := (if_neg hb7).symm.trans hf
          refine lv_aload_n hx hb dX12_restore_66 rfl (lv_at hl 0 rfl) ?_
          refine km_get hx hb hts hin hown hK hP 9 (by decide) (v := .ref (ra 9)) k_fieldLink_RX12_43__KeyLettersModel___names____J_ rfl dX12_restore_67 ?_
          refine lv_iload_n hx hb dX12_restore_70 rfl (lv_at hl 2 rfl) ?_
          refine lv_aload_n hx hb dX12_restore_71 rfl (lv_at hl 0 rfl) ?_
          refine km_get hx hb hts hin hown hK hP 47 (by decide) (v := .ref (ra 47)) k_fieldLink_RX12_93__KeyLettersModel___namesKept____J_ rfl dX12_restore_72 ?_
          refine lv_bipush (v := 14) hx hb dX12_restore_75 (by decide) ?_
          refine lv_iload_n hx hb dX12_restore_77 rfl (lv_at hl 1 rfl) ?_
          refine lv_imul hx hb dX12_restore_78 ?_
          refine lv_iload_n hx hb dX12_restore_79 rfl (lv_at hl 2 rfl) ?_
          refine lv_iadd hx hb dX12_restore_80 ?_
          obtain ⟨v2, ev2, hf⟩ := bd1_e hf
          refine kt_i ev2 ?_
          obtain ⟨hc3, hf⟩ := ck_e hf
          refine va_lald hx hb hK hP 19 2 rfl rfl hc3 dX12_restore_81 ?_
          obtain ⟨hc4, hf⟩ := ck_e hf
          obtain ⟨M5, eM5, hf⟩ := bd1_e hf
          refine va_last hx hb hK hP hD hS 5 2 rfl rfl hc4 dX12_restore_82 (fun H locs hP hD hS => ?_)
          have hP : va_P (dC, dI) vwCl (mw cB cI cJ cZ ra M5) H := by rw [eM5, ← ma_9 cB cI cJ cZ ra M_60 x2_60.toNatClampNeg (M_60.2 47 v2.toNatClampNeg)]; exact hP
          have hD : va_D (mA ra s.heap.size) (mw cB cI cJ cZ ra M5) := by rw [eM5, ← ma_9 cB cI cJ cZ ra M_60 x2_60.toNatClampNeg (M_60.2 47 v2.toNatClampNeg)]; exact hD
          obtain ⟨v6, ev6, hf⟩ := bd1_e hf
          refine lv_iinc (k := 2) (x := x2_60) (v := v6) (nL := 3) (lv' := [(2, .int v6), (0, .ref (ra 0)), (1, .int x1_60)]) hx hb dX12_restore_83 hl rfl (kt_inc (w := 1) (by decide) ev6) (by decide) rfl (fun ls hl => ?_)
          refine lv_goto (tgt := 60) hx hb dX12_restore_86 (by decide) ?_
          exact ih_60 x1_60 v6 M5 ls _ _ (lv_sub hl [1, 2, 0] rfl) hP hD hS hf) 2000
    refine lv_iconst (v := 0) hx hb dX12_restore_58 (by decide) ?_
    refine lv_istore_n (nL := 3) (lv' := [(2, .int (0 : Int32)), (0, .ref (ra 0)), (1, .int x1_58)]) hx hb dX12_restore_59 rfl hl (by decide) rfl (fun ls hl => ?_)
    exact h_60 x1_58 (0 : Int32) M_58 ls _ _ (lv_sub hl [1, 2, 0] rfl) hP hD hS hf
  have h_27 := lp_ind (z := (fun _ _ _ => none)) (b := (g_X12_restore_27)) (fun (rc_27 : Int32 → Int32 → kD → Option (Int32 × kD)) => ∀ (x1_27 : Int32) (x2_27 : Int32) (M_27 : kD) (ls : Array Slot) (H : Heap) (locs : List Loc), lv_has ls 3 [(0, .ref (ra 0)), (1, .int x1_27), (2, .int x2_27)] → va_P (dC, dI) vwCl (mw cB cI cJ cZ ra M_27) H → va_D (mA ra s.heap.size) (mw cB cI cJ cZ ra M_27) → va_S (mA ra s.heap.size) s.heap H locs → rc_27 x1_27 x2_27 M_27 = some r → W p l e (headSpec wsX12_restore rm_X12_restore).room s m args below meth c H locs 0 0 (MQ below (mQi dC dI cB cI cJ cZ ra s.heap.size r) args s 0 0 (mA ra s.heap.size)) (F0 m 27 ls [])) (by
      intro x1_27 x2_27 M_27 ls H locs hl hP hD hS hf
      cases hf) (by
      intro rc_27 ih_27 x1_27 x2_27 M_27 ls H locs hl hP hD hS hf
      unfold g_X12_restore_27 at hf
      refine lv_iload_n hx hb dX12_restore_27 rfl (lv_at hl 2 rfl) ?_
      refine lv_sipush (v := 279) hx hb dX12_restore_28 (by decide) ?_
      refine lv_icmp_ge (tgt := 58) hx hb dX12_restore_31 (by decide) (fun hb13 => ?_) (fun hb13 => ?_)
      · have hf := (if_pos hb13).symm.trans hf
        exact h_58 x1_27 M_27 ls _ _ (lv_sub hl [0, 1] rfl) hP hD hS hf
      · have hf := (if_neg hb13).symm.trans hf
        refine lv_aload_n hx hb dX12_restore_34 rfl (lv_at hl 0 rfl) ?_
        refine km_get hx hb hts hin hown hK hP 6 (by decide) (v := .ref (ra 6)) k_fieldLink_RX12_33__KeyLettersModel___s____I_ rfl dX12_restore_35 ?_
        refine lv_iload_n hx hb dX12_restore_38 rfl (lv_at hl 2 rfl) ?_
        refine lv_aload_n hx hb dX12_restore_39 rfl (lv_at hl 0 rfl) ?_
        refine km_get hx hb hts hin hown hK hP 46 (by decide) (v := .ref (ra 46)) k_fieldLink_RX12_90__KeyLettersModel___imaged____I_ rfl dX12_restore_40 ?_
        refine lv_sipush (v := 279) hx hb dX12_restore_43 (by decide) ?_
        refine lv_iload_n hx hb dX12_restore_46 rfl (lv_at hl 1 rfl) ?_
        refine lv_imul hx hb dX12_restore_47 ?_
        refine lv_iload_n hx hb dX12_restore_48 rfl (lv_at hl 2 rfl) ?_
        refine lv_iadd hx hb dX12_restore_49 ?_
        obtain ⟨v8, ev8, hf⟩ := bd1_e hf
        refine kt_i ev8 ?_
        obtain ⟨hc9, hf⟩ := ck_e hf
        refine va_iald hx hb hK hP 18 1 rfl rfl hc9 dX12_restore_50 ?_
        obtain ⟨hc10, hf⟩ := ck_e hf
        obtain ⟨M11, eM11, hf⟩ := bd1_e hf
        refine va_iast hx hb hK hP hD hS 2 1 rfl rfl hc10 dX12_restore_51 (fun H locs hP hD hS => ?_)
        have hP : va_P (dC, dI) vwCl (mw cB cI cJ cZ ra M11) H := by rw [eM11, ← ma_6 cB cI cJ cZ ra M_27 x2_27.toNatClampNeg (M_27.1 46 v8.toNatClampNeg)]; exact hP
        have hD : va_D (mA ra s.heap.size) (mw cB cI cJ cZ ra M11) := by rw [eM11, ← ma_6 cB cI cJ cZ ra M_27 x2_27.toNatClampNeg (M_27.1 46 v8.toNatClampNeg)]; exact hD
        obtain ⟨v12, ev12, hf⟩ := bd1_e hf
        refine lv_iinc (k := 2) (x := x2_27) (v := v12) (nL := 3) (lv' := [(2, .int v12), (0, .ref (ra 0)), (1, .int x1_27)]) hx hb dX12_restore_52 hl rfl (kt_inc (w := 1) (by decide) ev12) (by decide) rfl (fun ls hl => ?_)
        refine lv_goto (tgt := 27) hx hb dX12_restore_55 (by decide) ?_
        exact ih_27 x1_27 v12 M11 ls _ _ (lv_sub hl [1, 2, 0] rfl) hP hD hS hf) 2000
  refine lv_aload_n hx hb dX12_restore_0 rfl (lv_at hl 0 rfl) ?_
  refine lv_iconst (v := 0) hx hb dX12_restore_1 (by decide) ?_
  obtain ⟨M14, eM14, hf⟩ := bd1_e hf
  refine km_put hx hb hts hin hown hK hP hD hS 0 (by decide) k_fieldLink_RX12_1__KeyLettersModel___thrown___I_ rfl (ty := .int) (v := .int (0 : Int32)) (by decide +kernel) rfl rfl (M1 := M14) (by rw [eM14]; exact mo_0 cB cI cJ cZ ra M (0 : Int32)) dX12_restore_2 (fun H locs hP hD hS => ?_)
  refine lv_iload_n hx hb dX12_restore_5 rfl (lv_at hl 1 rfl) ?_
  refine lv_iconst (v := 0) hx hb dX12_restore_6 (by decide) ?_
  refine lv_iconst (v := 1) hx hb dX12_restore_7 (by decide) ?_
  refine ko_call (v := some (.int (f_X12_isIn a0 (0 : Int32) (1 : Int32)))) (va_runS (As := [.int a0, .int (0 : Int32), .int (1 : Int32)]) (rest := []) ⟨hx, hb, hml, hown, hts⟩ (c_X12_isIn l a0 (0 : Int32) (1 : Int32) _ rfl) (va_cwS 3 hts gX12_restore_X12_isIn rfl rfl rfl (by decide +kernel) ⟨Nat.le_of_ble_eq_true rfl, Nat.le_of_ble_eq_true rfl⟩) ⟨fun a U g mk q => q, fun U hU hW => ⟨rfl, trivial⟩⟩ rfl rfl hl.1 rfl (lv_room (Nat.le_of_ble_eq_true rfl)) dX12_restore_8 ⟨Nat.le_refl _, Nat.le_refl _⟩) ?_
  refine lv_if_eq (tgt := 23) hx hb dX12_restore_11 (by decide) (fun hb17 => ?_) (fun hb17 => ?_)
  · have hf := (if_pos hb17).symm.trans hf
    refine lv_iconst (v := 0) hx hb dX12_restore_23 (by decide) ?_
    have hf := Option.some.inj hf
    subst hf
    exact m_zret hx hb hr rfl hlocks hP hK hD hS dX12_restore_24
  · have hf := (if_neg hb17).symm.trans hf
    refine lv_aload_n hx hb dX12_restore_14 rfl (lv_at hl 0 rfl) ?_
    refine km_get hx hb hts hin hown hK hP 48 (by decide) (v := .ref (ra 48)) k_fieldLink_RX12_96__KeyLettersModel___areKept____Z_ rfl dX12_restore_15 ?_
    refine lv_iload_n hx hb dX12_restore_18 rfl (lv_at hl 1 rfl) ?_
    obtain ⟨hc15, hf⟩ := ck_e hf
    refine va_zald hx hb hK hP 20 3 rfl rfl hc15 dX12_restore_19 ?_
    refine lv_if_ne (tgt := 25) hx hb dX12_restore_20 (by decide) (fun hb16 => ?_) (fun hb16 => ?_)
    · have hf := (if_neg hb16).symm.trans hf
      refine lv_iconst (v := 0) hx hb dX12_restore_25 (by decide) ?_
      refine lv_istore_n (nL := 3) (lv' := [(2, .int (0 : Int32)), (0, .ref (ra 0)), (1, .int a0)]) hx hb dX12_restore_26 rfl hl (by decide) rfl (fun ls hl => ?_)
      exact h_27 a0 (0 : Int32) M14 ls _ _ (lv_sub hl [1, 2, 0] rfl) hP hD hS hf
    · have hf := (if_pos hb16).symm.trans hf
      refine lv_iconst (v := 0) hx hb dX12_restore_23 (by decide) ?_
      have hf := Option.some.inj hf
      subst hf
      exact m_zret hx hb hr rfl hlocks hP hK hD hS dX12_restore_24

abbrev rm_X12_count : Room := { frames := 1, cells := 0, slots := 0, locals := 22 }
set_option maxHeartbeats 4000000 in
set_option maxRecDepth 100000 in
theorem c_X12_count (l : Launch) (dC : Nat → ClassId) (dI : Nat → Nat → Nat) (cB cI cJ cZ : ClassId) (ra : Nat → Nat) (sz : Nat) (M : kD) (a0 : Int32) (r : (Int32 × kD)) (hf : f_X12_count a0 M = some r) : Met l yX12_count wsX12_count rm_X12_count (va_Pc [.ref (ra 0), .int a0] (mPw dC dI cB cI cJ cZ ra sz M)) (mQi dC dI cB cI cJ cZ ra sz r) 0 0 (mA ra sz) := by
  refine Met.ofW (cc := cX12_count) (maxL := 2) (ret := (some .int)) (by decide) rfl ?_
  intro p e s m args below meth c s₁ B hml hv
  obtain ⟨hav, hsz, hP, hK, hD0⟩ := hv
  have hx := B.exec
  have hb := B.bytes
  have hr := B.returns
  have hts := atoms_spec (ws := wsX12_count) B.pre
  have hown : s.vm.findClass RX12 = some m.cls := findClass_of_methodNamed B.named
  have hlocks := B.notSynchronized
  subst hsz
  have hA : ∀ q, s.heap.size ≤ q → mA ra s.heap.size q := fun q h => Or.inr h
  have hD : va_D (mA ra s.heap.size) (mw cB cI cJ cZ ra M) := hD0.weaken (fun k q h _ => mA_in h)
  have hS : va_S (mA ra s.heap.size) s.heap s.heap [] := va_S.rf
  have hin : ∀ w ∈ wsX120, w ∈ wsX12_count := fun w h => List.mem_cons_of_mem _ (List.mem_append_right _ h)
  have k_fieldLink_RX12_1__KeyLettersModel___thrown___I_ := hts (.fieldLink RX12 1 "KeyLettersModel" "thrown" "I") (by decide +kernel)
  have k_fieldLink_RX12_33__KeyLettersModel___s____I_ := hts (.fieldLink RX12 33 "KeyLettersModel" "s" "[I") (by decide +kernel)
  have k_fieldLink_RX12_7__KeyLettersModel___length___I_ := hts (.fieldLink RX12 7 "KeyLettersModel" "length" "I") (by decide +kernel)
  have hl := lv_entry ([.ref (ra 0), .int a0]) (n := 2) (Nat.le_of_ble_eq_true rfl)
  rw [show entryFrame m args 2 = entryFrame m ([.ref (ra 0), .int a0] : List Value).toArray 2 from by rw [hav], lg_entry_eq]
  generalize (lg_sl ([.ref (ra 0), .int a0]) ++ List.replicate (2 - (lg_sl ([.ref (ra 0), .int a0])).length) Slot.unset).toArray = ls at hl ⊢
  have hl : lv_has ls 2 [(0, .ref (ra 0)), (1, .int a0)] := hl
  unfold f_X12_count at hf
  refine lv_aload_n hx hb dX12_count_0 rfl (lv_at hl 0 rfl) ?_
  refine lv_iconst (v := 0) hx hb dX12_count_1 (by decide) ?_
  obtain ⟨M1, eM1, hf⟩ := bd1_e hf
  refine km_put hx hb hts hin hown hK hP hD hS 0 (by decide) k_fieldLink_RX12_1__KeyLettersModel___thrown___I_ rfl (ty := .int) (v := .int (0 : Int32)) (by decide +kernel) rfl rfl (M1 := M1) (by rw [eM1]; exact mo_0 cB cI cJ cZ ra M (0 : Int32)) dX12_count_2 (fun H locs hP hD hS => ?_)
  refine lv_iload_n hx hb dX12_count_5 rfl (lv_at hl 1 rfl) ?_
  refine lv_iconst (v := 3) hx hb dX12_count_6 (by decide) ?_
  refine lv_icmp_ne (tgt := 17) hx hb dX12_count_7 (by decide) (fun hb4 => ?_) (fun hb4 => ?_)
  · have hf := (if_neg hb4).symm.trans hf
    refine lv_iload_n hx hb dX12_count_17 rfl (lv_at hl 1 rfl) ?_
    refine lv_iconst (v := 0) hx hb dX12_count_18 (by decide) ?_
    refine lv_iconst (v := 2) hx hb dX12_count_19 (by decide) ?_
    refine ko_call (v := some (.int (f_X12_isIn a0 (0 : Int32) (2 : Int32)))) (va_runS (As := [.int a0, .int (0 : Int32), .int (2 : Int32)]) (rest := []) ⟨hx, hb, hml, hown, hts⟩ (c_X12_isIn l a0 (0 : Int32) (2 : Int32) _ rfl) (va_cwS 3 hts gX12_count_X12_isIn rfl rfl rfl (by decide +kernel) ⟨Nat.le_of_ble_eq_true rfl, Nat.le_of_ble_eq_true rfl⟩) ⟨fun a U g mk q => q, fun U hU hW => ⟨rfl, trivial⟩⟩ rfl rfl hl.1 rfl (lv_room (Nat.le_of_ble_eq_true rfl)) dX12_count_20 ⟨Nat.le_refl _, Nat.le_refl _⟩) ?_
    refine lv_if_eq (tgt := 35) hx hb dX12_count_23 (by decide) (fun hb3 => ?_) (fun hb3 => ?_)
    · have hf := (if_pos hb3).symm.trans hf
      refine lv_iconst (v := -1) hx hb dX12_count_35 (by decide) ?_
      have hf := Option.some.inj hf
      subst hf
      exact m_iret hx hb hr hlocks hP hK hD hS dX12_count_36
    · have hf := (if_neg hb3).symm.trans hf
      refine lv_aload_n hx hb dX12_count_26 rfl (lv_at hl 0 rfl) ?_
      refine km_get hx hb hts hin hown hK hP 6 (by decide) (v := .ref (ra 6)) k_fieldLink_RX12_33__KeyLettersModel___s____I_ rfl dX12_count_27 ?_
      refine lv_iload_n hx hb dX12_count_30 rfl (lv_at hl 1 rfl) ?_
      obtain ⟨hc2, hf⟩ := ck_e hf
      refine va_iald hx hb hK hP 2 1 rfl rfl hc2 dX12_count_31 ?_
      refine lv_goto (tgt := 36) hx hb dX12_count_32 (by decide) ?_
      have hf := Option.some.inj hf
      subst hf
      exact m_iret hx hb hr hlocks hP hK hD hS dX12_count_36
  · have hf := (if_pos hb4).symm.trans hf
    refine lv_aload_n hx hb dX12_count_10 rfl (lv_at hl 0 rfl) ?_
    refine km_get hx hb hts hin hown hK hP 2 (by decide) (v := .int (M1.1 0 2)) k_fieldLink_RX12_7__KeyLettersModel___length___I_ rfl dX12_count_11 ?_
    refine lv_goto (tgt := 36) hx hb dX12_count_14 (by decide) ?_
    have hf := Option.some.inj hf
    subst hf
    exact m_iret hx hb hr hlocks hP hK hD hS dX12_count_36

