abbrev rm_X12_days : Room := { frames := 6, cells := 0, slots := 0, locals := 136 }
set_option maxHeartbeats 4000000 in
set_option maxRecDepth 100000 in
theorem c_X12_days (l : Launch) (dC : Nat → ClassId) (dI : Nat → Nat → Nat) (cB cI cJ cZ : ClassId) (ra : Nat → Nat) (sz : Nat) (M : kD) (a0 : Int32) (r : (Int32 × kD)) (hf : f_X12_days a0 M = some r) : Met l yX12_days wsX12_days rm_X12_days (va_Pc [.ref (ra 0), .int a0] (mPw dC dI cB cI cJ cZ ra sz M)) (mQi dC dI cB cI cJ cZ ra sz r) 0 0 (mA ra sz) := by
  refine Met.ofW (cc := cX12_days) (maxL := 2) (ret := (some .int)) (by decide) rfl ?_
  intro p e s m args below meth c s₁ B hml hv
  obtain ⟨hav, hsz, hP, hK, hD0⟩ := hv
  have hx := B.exec
  have hb := B.bytes
  have hr := B.returns
  have hts := atoms_spec (ws := wsX12_days) B.pre
  have hown : s.vm.findClass RX12 = some m.cls := findClass_of_methodNamed B.named
  have hlocks := B.notSynchronized
  subst hsz
  have hA : ∀ q, s.heap.size ≤ q → mA ra s.heap.size q := fun q h => Or.inr h
  have hD : va_D (mA ra s.heap.size) (mw cB cI cJ cZ ra M) := hD0.weaken (fun k q h _ => mA_in h)
  have hS : va_S (mA ra s.heap.size) s.heap s.heap [] := va_S.rf
  have hin : ∀ w ∈ wsX120, w ∈ wsX12_days := fun w h => List.mem_cons_of_mem _ (List.mem_append_right _ h)
  have k_fieldLink_RX12_1__KeyLettersModel___thrown___I_ := hts (.fieldLink RX12 1 "KeyLettersModel" "thrown" "I") (by decide +kernel)
  have k_fieldLink_RX12_33__KeyLettersModel___s____I_ := hts (.fieldLink RX12 33 "KeyLettersModel" "s" "[I") (by decide +kernel)
  have hl := lv_entry ([.ref (ra 0), .int a0]) (n := 2) (Nat.le_of_ble_eq_true rfl)
  rw [show entryFrame m args 2 = entryFrame m ([.ref (ra 0), .int a0] : List Value).toArray 2 from by rw [hav], lg_entry_eq]
  generalize (lg_sl ([.ref (ra 0), .int a0]) ++ List.replicate (2 - (lg_sl ([.ref (ra 0), .int a0])).length) Slot.unset).toArray = ls at hl ⊢
  have hl : lv_has ls 2 [(0, .ref (ra 0)), (1, .int a0)] := hl
  unfold f_X12_days at hf
  refine lv_aload_n hx hb dX12_days_0 rfl (lv_at hl 0 rfl) ?_
  refine lv_iconst (v := 0) hx hb dX12_days_1 (by decide) ?_
  obtain ⟨M1, eM1, hf⟩ := bd1_e hf
  refine km_put hx hb hts hin hown hK hP hD hS 0 (by decide) k_fieldLink_RX12_1__KeyLettersModel___thrown___I_ rfl (ty := .int) (v := .int (0 : Int32)) (by decide +kernel) rfl rfl (M1 := M1) (by rw [eM1]; exact mo_0 cB cI cJ cZ ra M (0 : Int32)) dX12_days_2 (fun H locs hP hD hS => ?_)
  refine lv_iload_n hx hb dX12_days_5 rfl (lv_at hl 1 rfl) ?_
  refine lv_iconst (v := 1) hx hb dX12_days_6 (by decide) ?_
  refine lv_bipush (v := 60) hx hb dX12_days_7 (by decide) ?_
  refine ko_call (v := some (.int (f_X12_isIn a0 (1 : Int32) (60 : Int32)))) (va_runS (As := [.int a0, .int (1 : Int32), .int (60 : Int32)]) (rest := []) ⟨hx, hb, hml, hown, hts⟩ (c_X12_isIn l a0 (1 : Int32) (60 : Int32) _ rfl) (va_cwS 3 hts gX12_days_X12_isIn rfl rfl rfl (by decide +kernel) ⟨Nat.le_of_ble_eq_true rfl, Nat.le_of_ble_eq_true rfl⟩) ⟨fun a U g mk q => q, fun U hU hW => ⟨rfl, trivial⟩⟩ rfl rfl hl.1 rfl (lv_room (Nat.le_of_ble_eq_true rfl)) dX12_days_9 ⟨Nat.le_refl _, Nat.le_refl _⟩) ?_
  refine lv_if_ne (tgt := 17) hx hb dX12_days_12 (by decide) (fun hb8 => ?_) (fun hb8 => ?_)
  · have hf := (if_neg hb8).symm.trans hf
    refine lv_aload_n hx hb dX12_days_17 rfl (lv_at hl 0 rfl) ?_
    refine km_get hx hb hts hin hown hK hP 6 (by decide) (v := .ref (ra 6)) k_fieldLink_RX12_33__KeyLettersModel___s____I_ rfl dX12_days_18 ?_
    refine lv_bipush (v := 39) hx hb dX12_days_21 (by decide) ?_
    refine va_iald hx hb hK hP 2 1 rfl rfl (show ¬ ((39 : Int32) < 0 ∨ 279 ≤ (39 : Int32).toNatClampNeg) by decide +kernel) dX12_days_23 ?_
    refine lv_sipush (v := 400) hx hb dX12_days_24 (by decide) ?_
    refine lv_icmp_ne (tgt := 32) hx hb dX12_days_27 (by decide) (fun hb7 => ?_) (fun hb7 => ?_)
    · have hf := (if_neg hb7).symm.trans hf
      refine lv_aload_n hx hb dX12_days_32 rfl (lv_at hl 0 rfl) ?_
      obtain ⟨M2, hq3, hf⟩ := bo_e hf
      refine km_callwv (M1 := M2) (km_run (As := []) (rest := []) ⟨hx, hb, hml, hown, hts⟩ (c_X12_keep l dC dI cB cI cJ cZ ra _ M1  M2 hq3) (cwV 0 hts gX12_days_X12_keep rfl rfl rfl (by decide +kernel) ⟨Nat.le_of_ble_eq_true rfl, Nat.le_of_ble_eq_true rfl⟩) hK hP (fun _ _ _ _ => mPw_bl) (fun U hU hW => ⟨by rw [hU], by rw [hU]; exact hP, va_K.moved hW.alike hK, hD.weaken (fun _ _ _ _ => trivial)⟩) rfl rfl hl.1 rfl (lv_room (Nat.le_of_ble_eq_true rfl)) dX12_days_33 ⟨Nat.le_refl _, Nat.le_refl _⟩) hD hS hA (fun H locs hP hD hS => ?_)
      refine lv_aload_n hx hb dX12_days_36 rfl (lv_at hl 0 rfl) ?_
      refine lv_iload_n hx hb dX12_days_37 rfl (lv_at hl 1 rfl) ?_
      obtain ⟨v5, M4, hq6, hf⟩ := bo2_e hf
      refine km_callw (v := v5) (M1 := M4) rfl (km_run (As := [.int a0]) (rest := []) ⟨hx, hb, hml, hown, hts⟩ (c_X12_goesOn l dC dI cB cI cJ cZ ra _ M2 a0 (v5, M4) hq6) (cwV 1 hts gX12_days_X12_goesOn rfl rfl rfl (by decide +kernel) ⟨Nat.le_of_ble_eq_true rfl, Nat.le_of_ble_eq_true rfl⟩) hK hP (fun _ _ _ _ => mPw_bl) (fun U hU hW => ⟨by rw [hU], by rw [hU]; exact hP, va_K.moved hW.alike hK, hD.weaken (fun _ _ _ _ => trivial)⟩) rfl rfl hl.1 rfl (lv_room (Nat.le_of_ble_eq_true rfl)) dX12_days_38 ⟨Nat.le_refl _, Nat.le_refl _⟩) hD hS hA (fun H locs hP hD hS => ?_)
      have hf := Option.some.inj hf
      subst hf
      exact m_iret hx hb hr hlocks hP hK hD hS dX12_days_41
    · have hf := (if_pos hb7).symm.trans hf
      refine lv_iconst (v := 0) hx hb dX12_days_30 (by decide) ?_
      have hf := Option.some.inj hf
      subst hf
      exact m_iret hx hb hr hlocks hP hK hD hS dX12_days_31
  · have hf := (if_pos hb8).symm.trans hf
    refine lv_iconst (v := -1) hx hb dX12_days_15 (by decide) ?_
    have hf := Option.some.inj hf
    subst hf
    exact m_iret hx hb hr hlocks hP hK hD hS dX12_days_16

abbrev rm_X12_undo : Room := { frames := 0, cells := 0, slots := 0, locals := 0 }
set_option maxHeartbeats 4000000 in
set_option maxRecDepth 100000 in
theorem c_X12_undo (l : Launch) (dC : Nat → ClassId) (dI : Nat → Nat → Nat) (cB cI cJ cZ : ClassId) (ra : Nat → Nat) (sz : Nat) (M : kD)  (r : (Int32 × kD)) (hf : f_X12_undo  M = some r) : Met l yX12_undo wsX12_undo rm_X12_undo (va_Pc [.ref (ra 0)] (mPw dC dI cB cI cJ cZ ra sz M)) (mQi dC dI cB cI cJ cZ ra sz r) 0 0 (mA ra sz) := by
  refine Met.ofW (cc := cX12_undo) (maxL := 2) (ret := (some .int)) (by decide) rfl ?_
  intro p e s m args below meth c s₁ B hml hv
  obtain ⟨hav, hsz, hP, hK, hD0⟩ := hv
  have hx := B.exec
  have hb := B.bytes
  have hr := B.returns
  have hts := atoms_spec (ws := wsX12_undo) B.pre
  have hown : s.vm.findClass RX12 = some m.cls := findClass_of_methodNamed B.named
  have hlocks := B.notSynchronized
  subst hsz
  have hA : ∀ q, s.heap.size ≤ q → mA ra s.heap.size q := fun q h => Or.inr h
  have hD : va_D (mA ra s.heap.size) (mw cB cI cJ cZ ra M) := hD0.weaken (fun k q h _ => mA_in h)
  have hS : va_S (mA ra s.heap.size) s.heap s.heap [] := va_S.rf
  have hin : ∀ w ∈ wsX120, w ∈ wsX12_undo := fun w h => List.mem_cons_of_mem _ (List.mem_append_right _ h)
  have k_fieldLink_RX12_1__KeyLettersModel___thrown___I_ := hts (.fieldLink RX12 1 "KeyLettersModel" "thrown" "I") (by decide +kernel)
  have k_fieldLink_RX12_248__KeyLettersModel___undoMany___I_ := hts (.fieldLink RX12 248 "KeyLettersModel" "undoMany" "I") (by decide +kernel)
  have k_fieldLink_RX12_33__KeyLettersModel___s____I_ := hts (.fieldLink RX12 33 "KeyLettersModel" "s" "[I") (by decide +kernel)
  have k_fieldLink_RX12_50__KeyLettersModel___undone____I_ := hts (.fieldLink RX12 50 "KeyLettersModel" "undone" "[I") (by decide +kernel)
  have hl := lv_entry ([.ref (ra 0)]) (n := 2) (Nat.le_of_ble_eq_true rfl)
  rw [show entryFrame m args 2 = entryFrame m ([.ref (ra 0)] : List Value).toArray 2 from by rw [hav], lg_entry_eq]
  generalize (lg_sl ([.ref (ra 0)]) ++ List.replicate (2 - (lg_sl ([.ref (ra 0)])).length) Slot.unset).toArray = ls at hl ⊢
  have hl : lv_has ls 2 [(0, .ref (ra 0))] := hl
  unfold f_X12_undo at hf
  have h_26 := lp_ind (z := (fun _ _ => none)) (b := (g_X12_undo_26)) (fun (rc_26 : Int32 → kD → Option (Int32 × kD)) => ∀ (x1_26 : Int32) (M_26 : kD) (ls : Array Slot) (H : Heap) (locs : List Loc), lv_has ls 2 [(0, .ref (ra 0)), (1, .int x1_26)] → va_P (dC, dI) vwCl (mw cB cI cJ cZ ra M_26) H → va_D (mA ra s.heap.size) (mw cB cI cJ cZ ra M_26) → va_S (mA ra s.heap.size) s.heap H locs → rc_26 x1_26 M_26 = some r → W p l e (headSpec wsX12_undo rm_X12_undo).room s m args below meth c H locs 0 0 (MQ below (mQi dC dI cB cI cJ cZ ra s.heap.size r) args s 0 0 (mA ra s.heap.size)) (F0 m 26 ls [])) (by
      intro x1_26 M_26 ls H locs hl hP hD hS hf
      cases hf) (by
      intro rc_26 ih_26 x1_26 M_26 ls H locs hl hP hD hS hf
      unfold g_X12_undo_26 at hf
      refine lv_iload_n hx hb dX12_undo_26 rfl (lv_at hl 1 rfl) ?_
      refine lv_bipush (v := 59) hx hb dX12_undo_27 (by decide) ?_
      refine lv_icmp_ge (tgt := 61) hx hb dX12_undo_29 (by decide) (fun hb6 => ?_) (fun hb6 => ?_)
      · have hf := (if_pos hb6).symm.trans hf
        refine lv_aload_n hx hb dX12_undo_61 rfl (lv_at hl 0 rfl) ?_
        refine km_get hx hb hts hin hown hK hP 22 (by decide) (v := .int (M_26.1 0 22)) k_fieldLink_RX12_248__KeyLettersModel___undoMany___I_ rfl dX12_undo_62 ?_
        have hf := Option.some.inj hf
        subst hf
        exact m_iret hx hb hr hlocks hP hK hD hS dX12_undo_65
      · have hf := (if_neg hb6).symm.trans hf
        refine lv_aload_n hx hb dX12_undo_32 rfl (lv_at hl 0 rfl) ?_
        refine km_get hx hb hts hin hown hK hP 6 (by decide) (v := .ref (ra 6)) k_fieldLink_RX12_33__KeyLettersModel___s____I_ rfl dX12_undo_33 ?_
        refine lv_bipush (v := 39) hx hb dX12_undo_36 (by decide) ?_
        refine lv_iload_n hx hb dX12_undo_38 rfl (lv_at hl 1 rfl) ?_
        refine lv_iadd hx hb dX12_undo_39 ?_
        refine lv_aload_n hx hb dX12_undo_40 rfl (lv_at hl 0 rfl) ?_
        refine km_get hx hb hts hin hown hK hP 20 (by decide) (v := .ref (ra 20)) k_fieldLink_RX12_50__KeyLettersModel___undone____I_ rfl dX12_undo_41 ?_
        refine lv_bipush (v := 59) hx hb dX12_undo_44 (by decide) ?_
        refine lv_aload_n hx hb dX12_undo_46 rfl (lv_at hl 0 rfl) ?_
        refine km_get hx hb hts hin hown hK hP 22 (by decide) (v := .int (M_26.1 0 22)) k_fieldLink_RX12_248__KeyLettersModel___undoMany___I_ rfl dX12_undo_47 ?_
        refine lv_imul hx hb dX12_undo_50 ?_
        refine lv_iload_n hx hb dX12_undo_51 rfl (lv_at hl 1 rfl) ?_
        refine lv_iadd hx hb dX12_undo_52 ?_
        obtain ⟨v1, ev1, hf⟩ := bd1_e hf
        refine kt_i ev1 ?_
        obtain ⟨hc2, hf⟩ := ck_e hf
        refine va_iald hx hb hK hP 7 1 rfl rfl hc2 dX12_undo_53 ?_
        obtain ⟨hc3, hf⟩ := ck_e hf
        obtain ⟨M4, eM4, hf⟩ := bd1_e hf
        refine va_iast hx hb hK hP hD hS 2 1 rfl rfl hc3 dX12_undo_54 (fun H locs hP hD hS => ?_)
        have hP : va_P (dC, dI) vwCl (mw cB cI cJ cZ ra M4) H := by rw [eM4, ← ma_6 cB cI cJ cZ ra M_26 ((39 : Int32) + x1_26).toNatClampNeg (M_26.1 20 v1.toNatClampNeg)]; exact hP
        have hD : va_D (mA ra s.heap.size) (mw cB cI cJ cZ ra M4) := by rw [eM4, ← ma_6 cB cI cJ cZ ra M_26 ((39 : Int32) + x1_26).toNatClampNeg (M_26.1 20 v1.toNatClampNeg)]; exact hD
        obtain ⟨v5, ev5, hf⟩ := bd1_e hf
        refine lv_iinc (k := 1) (x := x1_26) (v := v5) (nL := 2) (lv' := [(1, .int v5), (0, .ref (ra 0))]) hx hb dX12_undo_55 hl rfl (kt_inc (w := 1) (by decide) ev5) (by decide) rfl (fun ls hl => ?_)
        refine lv_goto (tgt := 26) hx hb dX12_undo_58 (by decide) ?_
        exact ih_26 v5 M4 ls _ _ (lv_sub hl [1, 0] rfl) hP hD hS hf) 2000
  refine lv_aload_n hx hb dX12_undo_0 rfl (lv_at hl 0 rfl) ?_
  refine lv_iconst (v := 0) hx hb dX12_undo_1 (by decide) ?_
  obtain ⟨M7, eM7, hf⟩ := bd1_e hf
  refine km_put hx hb hts hin hown hK hP hD hS 0 (by decide) k_fieldLink_RX12_1__KeyLettersModel___thrown___I_ rfl (ty := .int) (v := .int (0 : Int32)) (by decide +kernel) rfl rfl (M1 := M7) (by rw [eM7]; exact mo_0 cB cI cJ cZ ra M (0 : Int32)) dX12_undo_2 (fun H locs hP hD hS => ?_)
  refine lv_aload_n hx hb dX12_undo_5 rfl (lv_at hl 0 rfl) ?_
  refine km_get hx hb hts hin hown hK hP 22 (by decide) (v := .int (M7.1 0 22)) k_fieldLink_RX12_248__KeyLettersModel___undoMany___I_ rfl dX12_undo_6 ?_
  refine lv_if_ne (tgt := 14) hx hb dX12_undo_9 (by decide) (fun hb9 => ?_) (fun hb9 => ?_)
  · have hf := (if_neg hb9).symm.trans hf
    refine lv_aload_n hx hb dX12_undo_14 rfl (lv_at hl 0 rfl) ?_
    refine lv_dup hx hb dX12_undo_15 rfl ?_
    refine km_get hx hb hts hin hown hK hP 22 (by decide) (v := .int (M7.1 0 22)) k_fieldLink_RX12_248__KeyLettersModel___undoMany___I_ rfl dX12_undo_16 ?_
    refine lv_iconst (v := 1) hx hb dX12_undo_19 (by decide) ?_
    refine lv_isub hx hb dX12_undo_20 ?_
    obtain ⟨M8, eM8, hf⟩ := bd1_e hf
    refine km_put hx hb hts hin hown hK hP hD hS 22 (by decide) k_fieldLink_RX12_248__KeyLettersModel___undoMany___I_ rfl (ty := .int) (v := .int ((M7.1 0 22) - (1 : Int32))) (by decide +kernel) rfl rfl (M1 := M8) (by rw [eM8]; exact mo_22 cB cI cJ cZ ra M7 ((M7.1 0 22) - (1 : Int32))) dX12_undo_21 (fun H locs hP hD hS => ?_)
    refine lv_iconst (v := 0) hx hb dX12_undo_24 (by decide) ?_
    refine lv_istore_n (nL := 2) (lv' := [(1, .int (0 : Int32)), (0, .ref (ra 0))]) hx hb dX12_undo_25 rfl hl (by decide) rfl (fun ls hl => ?_)
    exact h_26 (0 : Int32) M8 ls _ _ (lv_sub hl [1, 0] rfl) hP hD hS hf
  · have hf := (if_pos hb9).symm.trans hf
    refine lv_iconst (v := -1) hx hb dX12_undo_12 (by decide) ?_
    have hf := Option.some.inj hf
    subst hf
    exact m_iret hx hb hr hlocks hP hK hD hS dX12_undo_13

abbrev rm_X12_tries : Room := { frames := 0, cells := 0, slots := 0, locals := 0 }
set_option maxHeartbeats 4000000 in
set_option maxRecDepth 100000 in
theorem c_X12_tries (l : Launch) (dC : Nat → ClassId) (dI : Nat → Nat → Nat) (cB cI cJ cZ : ClassId) (ra : Nat → Nat) (sz : Nat) (M : kD)  (r : kD) (hf : f_X12_tries  M = some r) : Met l yX12_tries wsX12_tries rm_X12_tries (va_Pc [.ref (ra 0)] (mPw dC dI cB cI cJ cZ ra sz M)) (mQv dC dI cB cI cJ cZ ra sz r) 0 0 (mA ra sz) := by
  refine Met.ofW (cc := cX12_tries) (maxL := 2) (ret := none) (by decide) rfl ?_
  intro p e s m args below meth c s₁ B hml hv
  obtain ⟨hav, hsz, hP, hK, hD0⟩ := hv
  have hx := B.exec
  have hb := B.bytes
  have hr := B.returns
  have hts := atoms_spec (ws := wsX12_tries) B.pre
  have hown : s.vm.findClass RX12 = some m.cls := findClass_of_methodNamed B.named
  have hlocks := B.notSynchronized
  subst hsz
  have hA : ∀ q, s.heap.size ≤ q → mA ra s.heap.size q := fun q h => Or.inr h
  have hD : va_D (mA ra s.heap.size) (mw cB cI cJ cZ ra M) := hD0.weaken (fun k q h _ => mA_in h)
  have hS : va_S (mA ra s.heap.size) s.heap s.heap [] := va_S.rf
  have hin : ∀ w ∈ wsX120, w ∈ wsX12_tries := fun w h => List.mem_cons_of_mem _ (List.mem_append_right _ h)
  have k_fieldLink_RX12_33__KeyLettersModel___s____I_ := hts (.fieldLink RX12 33 "KeyLettersModel" "s" "[I") (by decide +kernel)
  have k_fieldLink_RX12_53__KeyLettersModel___before____I_ := hts (.fieldLink RX12 53 "KeyLettersModel" "before" "[I") (by decide +kernel)
  have hl := lv_entry ([.ref (ra 0)]) (n := 2) (Nat.le_of_ble_eq_true rfl)
  rw [show entryFrame m args 2 = entryFrame m ([.ref (ra 0)] : List Value).toArray 2 from by rw [hav], lg_entry_eq]
  generalize (lg_sl ([.ref (ra 0)]) ++ List.replicate (2 - (lg_sl ([.ref (ra 0)])).length) Slot.unset).toArray = ls at hl ⊢
  have hl : lv_has ls 2 [(0, .ref (ra 0))] := hl
  unfold f_X12_tries at hf
  have h_2 := lp_ind (z := (fun _ _ => none)) (b := (g_X12_tries_2)) (fun (rc_2 : Int32 → kD → Option kD) => ∀ (x1_2 : Int32) (M_2 : kD) (ls : Array Slot) (H : Heap) (locs : List Loc), lv_has ls 2 [(0, .ref (ra 0)), (1, .int x1_2)] → va_P (dC, dI) vwCl (mw cB cI cJ cZ ra M_2) H → va_D (mA ra s.heap.size) (mw cB cI cJ cZ ra M_2) → va_S (mA ra s.heap.size) s.heap H locs → rc_2 x1_2 M_2 = some r → W p l e (headSpec wsX12_tries rm_X12_tries).room s m args below meth c H locs 0 0 (MQ below (mQv dC dI cB cI cJ cZ ra s.heap.size r) args s 0 0 (mA ra s.heap.size)) (F0 m 2 ls [])) (by
      intro x1_2 M_2 ls H locs hl hP hD hS hf
      cases hf) (by
      intro rc_2 ih_2 x1_2 M_2 ls H locs hl hP hD hS hf
      unfold g_X12_tries_2 at hf
      refine lv_iload_n hx hb dX12_tries_2 rfl (lv_at hl 1 rfl) ?_
      refine lv_bipush (v := 59) hx hb dX12_tries_3 (by decide) ?_
      refine lv_icmp_ge (tgt := 29) hx hb dX12_tries_5 (by decide) (fun hb6 => ?_) (fun hb6 => ?_)
      · have hf := (if_pos hb6).symm.trans hf
        have hf := Option.some.inj hf
        subst hf
        exact m_vret hx hb hr hlocks hP hK hD hS dX12_tries_29
      · have hf := (if_neg hb6).symm.trans hf
        refine lv_aload_n hx hb dX12_tries_8 rfl (lv_at hl 0 rfl) ?_
        refine km_get hx hb hts hin hown hK hP 21 (by decide) (v := .ref (ra 21)) k_fieldLink_RX12_53__KeyLettersModel___before____I_ rfl dX12_tries_9 ?_
        refine lv_iload_n hx hb dX12_tries_12 rfl (lv_at hl 1 rfl) ?_
        refine lv_aload_n hx hb dX12_tries_13 rfl (lv_at hl 0 rfl) ?_
        refine km_get hx hb hts hin hown hK hP 6 (by decide) (v := .ref (ra 6)) k_fieldLink_RX12_33__KeyLettersModel___s____I_ rfl dX12_tries_14 ?_
        refine lv_bipush (v := 39) hx hb dX12_tries_17 (by decide) ?_
        refine lv_iload_n hx hb dX12_tries_19 rfl (lv_at hl 1 rfl) ?_
        refine lv_iadd hx hb dX12_tries_20 ?_
        obtain ⟨v1, ev1, hf⟩ := bd1_e hf
        refine kt_i ev1 ?_
        obtain ⟨hc2, hf⟩ := ck_e hf
        refine va_iald hx hb hK hP 2 1 rfl rfl hc2 dX12_tries_21 ?_
        obtain ⟨hc3, hf⟩ := ck_e hf
        obtain ⟨M4, eM4, hf⟩ := bd1_e hf
        refine va_iast hx hb hK hP hD hS 8 1 rfl rfl hc3 dX12_tries_22 (fun H locs hP hD hS => ?_)
        have hP : va_P (dC, dI) vwCl (mw cB cI cJ cZ ra M4) H := by rw [eM4, ← ma_21 cB cI cJ cZ ra M_2 x1_2.toNatClampNeg (M_2.1 6 v1.toNatClampNeg)]; exact hP
        have hD : va_D (mA ra s.heap.size) (mw cB cI cJ cZ ra M4) := by rw [eM4, ← ma_21 cB cI cJ cZ ra M_2 x1_2.toNatClampNeg (M_2.1 6 v1.toNatClampNeg)]; exact hD
        obtain ⟨v5, ev5, hf⟩ := bd1_e hf
        refine lv_iinc (k := 1) (x := x1_2) (v := v5) (nL := 2) (lv' := [(1, .int v5), (0, .ref (ra 0))]) hx hb dX12_tries_23 hl rfl (kt_inc (w := 1) (by decide) ev5) (by decide) rfl (fun ls hl => ?_)
        refine lv_goto (tgt := 2) hx hb dX12_tries_26 (by decide) ?_
        exact ih_2 v5 M4 ls _ _ (lv_sub hl [1, 0] rfl) hP hD hS hf) 2000
  refine lv_iconst (v := 0) hx hb dX12_tries_0 (by decide) ?_
  refine lv_istore_n (nL := 2) (lv' := [(1, .int (0 : Int32)), (0, .ref (ra 0))]) hx hb dX12_tries_1 rfl hl (by decide) rfl (fun ls hl => ?_)
  exact h_2 (0 : Int32) M ls _ _ (lv_sub hl [1, 0] rfl) hP hD hS hf

abbrev rm_X12_back : Room := { frames := 0, cells := 0, slots := 0, locals := 0 }
set_option maxHeartbeats 4000000 in
set_option maxRecDepth 100000 in
theorem c_X12_back (l : Launch) (dC : Nat → ClassId) (dI : Nat → Nat → Nat) (cB cI cJ cZ : ClassId) (ra : Nat → Nat) (sz : Nat) (M : kD)  (r : kD) (hf : f_X12_back  M = some r) : Met l yX12_back wsX12_back rm_X12_back (va_Pc [.ref (ra 0)] (mPw dC dI cB cI cJ cZ ra sz M)) (mQv dC dI cB cI cJ cZ ra sz r) 0 0 (mA ra sz) := by
  refine Met.ofW (cc := cX12_back) (maxL := 2) (ret := none) (by decide) rfl ?_
  intro p e s m args below meth c s₁ B hml hv
  obtain ⟨hav, hsz, hP, hK, hD0⟩ := hv
  have hx := B.exec
  have hb := B.bytes
  have hr := B.returns
  have hts := atoms_spec (ws := wsX12_back) B.pre
  have hown : s.vm.findClass RX12 = some m.cls := findClass_of_methodNamed B.named
  have hlocks := B.notSynchronized
  subst hsz
  have hA : ∀ q, s.heap.size ≤ q → mA ra s.heap.size q := fun q h => Or.inr h
  have hD : va_D (mA ra s.heap.size) (mw cB cI cJ cZ ra M) := hD0.weaken (fun k q h _ => mA_in h)
  have hS : va_S (mA ra s.heap.size) s.heap s.heap [] := va_S.rf
  have hin : ∀ w ∈ wsX120, w ∈ wsX12_back := fun w h => List.mem_cons_of_mem _ (List.mem_append_right _ h)
  have k_fieldLink_RX12_33__KeyLettersModel___s____I_ := hts (.fieldLink RX12 33 "KeyLettersModel" "s" "[I") (by decide +kernel)
  have k_fieldLink_RX12_53__KeyLettersModel___before____I_ := hts (.fieldLink RX12 53 "KeyLettersModel" "before" "[I") (by decide +kernel)
  have hl := lv_entry ([.ref (ra 0)]) (n := 2) (Nat.le_of_ble_eq_true rfl)
  rw [show entryFrame m args 2 = entryFrame m ([.ref (ra 0)] : List Value).toArray 2 from by rw [hav], lg_entry_eq]
  generalize (lg_sl ([.ref (ra 0)]) ++ List.replicate (2 - (lg_sl ([.ref (ra 0)])).length) Slot.unset).toArray = ls at hl ⊢
  have hl : lv_has ls 2 [(0, .ref (ra 0))] := hl
  unfold f_X12_back at hf
  have h_2 := lp_ind (z := (fun _ _ => none)) (b := (g_X12_back_2)) (fun (rc_2 : Int32 → kD → Option kD) => ∀ (x1_2 : Int32) (M_2 : kD) (ls : Array Slot) (H : Heap) (locs : List Loc), lv_has ls 2 [(0, .ref (ra 0)), (1, .int x1_2)] → va_P (dC, dI) vwCl (mw cB cI cJ cZ ra M_2) H → va_D (mA ra s.heap.size) (mw cB cI cJ cZ ra M_2) → va_S (mA ra s.heap.size) s.heap H locs → rc_2 x1_2 M_2 = some r → W p l e (headSpec wsX12_back rm_X12_back).room s m args below meth c H locs 0 0 (MQ below (mQv dC dI cB cI cJ cZ ra s.heap.size r) args s 0 0 (mA ra s.heap.size)) (F0 m 2 ls [])) (by
      intro x1_2 M_2 ls H locs hl hP hD hS hf
      cases hf) (by
      intro rc_2 ih_2 x1_2 M_2 ls H locs hl hP hD hS hf
      unfold g_X12_back_2 at hf
      refine lv_iload_n hx hb dX12_back_2 rfl (lv_at hl 1 rfl) ?_
      refine lv_bipush (v := 59) hx hb dX12_back_3 (by decide) ?_
      refine lv_icmp_ge (tgt := 29) hx hb dX12_back_5 (by decide) (fun hb5 => ?_) (fun hb5 => ?_)
      · have hf := (if_pos hb5).symm.trans hf
        have hf := Option.some.inj hf
        subst hf
        exact m_vret hx hb hr hlocks hP hK hD hS dX12_back_29
      · have hf := (if_neg hb5).symm.trans hf
        refine lv_aload_n hx hb dX12_back_8 rfl (lv_at hl 0 rfl) ?_
        refine km_get hx hb hts hin hown hK hP 6 (by decide) (v := .ref (ra 6)) k_fieldLink_RX12_33__KeyLettersModel___s____I_ rfl dX12_back_9 ?_
        refine lv_bipush (v := 39) hx hb dX12_back_12 (by decide) ?_
        refine lv_iload_n hx hb dX12_back_14 rfl (lv_at hl 1 rfl) ?_
        refine lv_iadd hx hb dX12_back_15 ?_
        refine lv_aload_n hx hb dX12_back_16 rfl (lv_at hl 0 rfl) ?_
        refine km_get hx hb hts hin hown hK hP 21 (by decide) (v := .ref (ra 21)) k_fieldLink_RX12_53__KeyLettersModel___before____I_ rfl dX12_back_17 ?_
        refine lv_iload_n hx hb dX12_back_20 rfl (lv_at hl 1 rfl) ?_
        obtain ⟨hc1, hf⟩ := ck_e hf
        refine va_iald hx hb hK hP 8 1 rfl rfl hc1 dX12_back_21 ?_
        obtain ⟨hc2, hf⟩ := ck_e hf
        obtain ⟨M3, eM3, hf⟩ := bd1_e hf
        refine va_iast hx hb hK hP hD hS 2 1 rfl rfl hc2 dX12_back_22 (fun H locs hP hD hS => ?_)
        have hP : va_P (dC, dI) vwCl (mw cB cI cJ cZ ra M3) H := by rw [eM3, ← ma_6 cB cI cJ cZ ra M_2 ((39 : Int32) + x1_2).toNatClampNeg (M_2.1 21 x1_2.toNatClampNeg)]; exact hP
        have hD : va_D (mA ra s.heap.size) (mw cB cI cJ cZ ra M3) := by rw [eM3, ← ma_6 cB cI cJ cZ ra M_2 ((39 : Int32) + x1_2).toNatClampNeg (M_2.1 21 x1_2.toNatClampNeg)]; exact hD
        obtain ⟨v4, ev4, hf⟩ := bd1_e hf
        refine lv_iinc (k := 1) (x := x1_2) (v := v4) (nL := 2) (lv' := [(1, .int v4), (0, .ref (ra 0))]) hx hb dX12_back_23 hl rfl (kt_inc (w := 1) (by decide) ev4) (by decide) rfl (fun ls hl => ?_)
        refine lv_goto (tgt := 2) hx hb dX12_back_26 (by decide) ?_
        exact ih_2 v4 M3 ls _ _ (lv_sub hl [1, 0] rfl) hP hD hS hf) 2000
  refine lv_iconst (v := 0) hx hb dX12_back_0 (by decide) ?_
  refine lv_istore_n (nL := 2) (lv' := [(1, .int (0 : Int32)), (0, .ref (ra 0))]) hx hb dX12_back_1 rfl hl (by decide) rfl (fun ls hl => ?_)
  exact h_2 (0 : Int32) M ls _ _ (lv_sub hl [1, 0] rfl) hP hD hS hf

abbrev rm_X12_canFollow : Room := { frames := 2, cells := 0, slots := 0, locals := 43 }
set_option maxHeartbeats 4000000 in
set_option maxRecDepth 100000 in
theorem c_X12_canFollow (l : Launch) (dC : Nat → ClassId) (dI : Nat → Nat → Nat) (cB cI cJ cZ : ClassId) (ra : Nat → Nat) (M : kD) (a0 : Int32) (a1 : Int32) (a2 : Int32) (a3 : Int32) (r : Int32) (hf : f_X12_canFollow a0 a1 a2 a3 M = some r) : Met l yX12_canFollow wsX12_canFollow rm_X12_canFollow (va_Pc [.ref (ra 0), .int a0, .int a1, .int a2, .int a3] (mPr dC dI cB cI cJ cZ ra M)) (kQ (some (.int r))) 0 0 (kF) := by
  refine Met.ofW (cc := cX12_canFollow) (maxL := 5) (ret := (some .boolean)) (by decide) rfl ?_
  intro p e s m args below meth c s₁ B hml hv
  obtain ⟨hav, hP, hK⟩ := hv
  have hx := B.exec
  have hb := B.bytes
  have hr := B.returns
  have hts := atoms_spec (ws := wsX12_canFollow) B.pre
  have hown : s.vm.findClass RX12 = some m.cls := findClass_of_methodNamed B.named
  have hlocks := B.notSynchronized
  have hin : ∀ w ∈ wsX120, w ∈ wsX12_canFollow := fun w h => List.mem_cons_of_mem _ (List.mem_append_right _ h)
  have k_fieldLink_RX12_33__KeyLettersModel___s____I_ := hts (.fieldLink RX12 33 "KeyLettersModel" "s" "[I") (by decide +kernel)
  have hl := lv_entry ([.ref (ra 0), .int a0, .int a1, .int a2, .int a3]) (n := 5) (Nat.le_of_ble_eq_true rfl)
  rw [show entryFrame m args 5 = entryFrame m ([.ref (ra 0), .int a0, .int a1, .int a2, .int a3] : List Value).toArray 5 from by rw [hav], lg_entry_eq]
  generalize (lg_sl ([.ref (ra 0), .int a0, .int a1, .int a2, .int a3]) ++ List.replicate (5 - (lg_sl ([.ref (ra 0), .int a0, .int a1, .int a2, .int a3])).length) Slot.unset).toArray = ls at hl ⊢
  have hl : lv_has ls 5 [(0, .ref (ra 0)), (1, .int a0), (2, .int a1), (3, .int a2), (4, .int a3)] := hl
  unfold f_X12_canFollow at hf
  refine lv_aload_n hx hb dX12_canFollow_0 rfl (lv_at hl 0 rfl) ?_
  refine lv_iload_n hx hb dX12_canFollow_1 rfl (lv_at hl 1 rfl) ?_
  obtain ⟨v1, hq2, hf⟩ := bo_e hf
  refine ko_call (v := some (.int v1)) (km_run (As := [.int a0]) (rest := []) ⟨hx, hb, hml, hown, hts⟩ (c_X12_isHeld l dC dI cB cI cJ cZ ra M a0 v1 hq2) (cwV 1 hts gX12_canFollow_X12_isHeld rfl rfl rfl (by decide +kernel) ⟨Nat.le_of_ble_eq_true rfl, Nat.le_of_ble_eq_true rfl⟩) hK hP (fun _ _ _ _ => mPr_bl) (fun U hU hW => ⟨by rw [hU]; exact hP, va_K.moved hW.alike hK⟩) rfl rfl hl.1 rfl (lv_room (Nat.le_of_ble_eq_true rfl)) dX12_canFollow_2 ⟨Nat.le_refl _, Nat.le_refl _⟩) ?_
  refine lv_if_ne (tgt := 48) hx hb dX12_canFollow_5 (by decide) (fun hb11 => ?_) (fun hb11 => ?_)
  · have hf := (if_neg hb11).symm.trans hf
    refine lv_iconst (v := 0) hx hb dX12_canFollow_48 (by decide) ?_
    have hf := Option.some.inj hf
    subst hf
    exact W.zret (v := (0 : Int32)) (ty := .boolean) hx hb hr rfl (fun t ht hW => ⟨rfl, ht⟩) (fun _ h => nomatch h) dX12_canFollow_49
  · have hf := (if_pos hb11).symm.trans hf
    refine lv_iload_n hx hb dX12_canFollow_8 rfl (lv_at hl 1 rfl) ?_
    refine lv_iload_n hx hb dX12_canFollow_9 rfl (lv_at hl 3 rfl) ?_
    refine lv_icmp_eq (tgt := 48) hx hb dX12_canFollow_10 (by decide) (fun hb10 => ?_) (fun hb10 => ?_)
    · have hf := (if_pos hb10).symm.trans hf
      refine lv_iconst (v := 0) hx hb dX12_canFollow_48 (by decide) ?_
      have hf := Option.some.inj hf
      subst hf
      exact W.zret (v := (0 : Int32)) (ty := .boolean) hx hb hr rfl (fun t ht hW => ⟨rfl, ht⟩) (fun _ h => nomatch h) dX12_canFollow_49
    · have hf := (if_neg hb10).symm.trans hf
      refine lv_aload_n hx hb dX12_canFollow_13 rfl (lv_at hl 0 rfl) ?_
      refine km_get hx hb hts hin hown hK hP 6 (by decide) (v := .ref (ra 6)) k_fieldLink_RX12_33__KeyLettersModel___s____I_ rfl dX12_canFollow_14 ?_
      refine lv_bipush (v := 9) hx hb dX12_canFollow_17 (by decide) ?_
      refine lv_iload_n hx hb dX12_canFollow_19 rfl (lv_at hl 1 rfl) ?_
      refine lv_iadd hx hb dX12_canFollow_20 ?_
      obtain ⟨v3, ev3, hf⟩ := bd1_e hf
      refine kt_i ev3 ?_
      obtain ⟨hc4, hf⟩ := ck_e hf
      refine va_iald hx hb hK hP 2 1 rfl rfl hc4 dX12_canFollow_21 ?_
      refine lv_iload_n hx hb dX12_canFollow_22 rfl (lv_at hl 2 rfl) ?_
      refine ko_call (v := some (.int (f_X12_bitOf (M.1 6 v3.toNatClampNeg) a1))) (va_runS (As := [.int (M.1 6 v3.toNatClampNeg), .int a1]) (rest := []) ⟨hx, hb, hml, hown, hts⟩ (c_X12_bitOf l (M.1 6 v3.toNatClampNeg) a1 _ rfl) (va_cwS 2 hts gX12_canFollow_X12_bitOf rfl rfl rfl (by decide +kernel) ⟨Nat.le_of_ble_eq_true rfl, Nat.le_of_ble_eq_true rfl⟩) ⟨fun a U g mk q => q, fun U hU hW => ⟨rfl, trivial⟩⟩ rfl rfl hl.1 rfl (lv_room (Nat.le_of_ble_eq_true rfl)) dX12_canFollow_23 ⟨Nat.le_refl _, Nat.le_refl _⟩) ?_
      refine lv_if_eq (tgt := 48) hx hb dX12_canFollow_26 (by decide) (fun hb9 => ?_) (fun hb9 => ?_)
      · have hf := (if_pos hb9).symm.trans hf
        refine lv_iconst (v := 0) hx hb dX12_canFollow_48 (by decide) ?_
        have hf := Option.some.inj hf
        subst hf
        exact W.zret (v := (0 : Int32)) (ty := .boolean) hx hb hr rfl (fun t ht hW => ⟨rfl, ht⟩) (fun _ h => nomatch h) dX12_canFollow_49
      · have hf := (if_neg hb9).symm.trans hf
        refine lv_iload hx hb dX12_canFollow_29 (lv_at hl 4 rfl) ?_
        refine lv_if_lt (tgt := 44) hx hb dX12_canFollow_31 (by decide) (fun hb8 => ?_) (fun hb8 => ?_)
        · have hf := (if_pos hb8).symm.trans hf
          refine lv_iconst (v := 1) hx hb dX12_canFollow_44 (by decide) ?_
          refine lv_goto (tgt := 49) hx hb dX12_canFollow_45 (by decide) ?_
          have hf := Option.some.inj hf
          subst hf
          exact W.zret (v := (1 : Int32)) (ty := .boolean) hx hb hr rfl (fun t ht hW => ⟨rfl, ht⟩) (fun _ h => nomatch h) dX12_canFollow_49
        · have hf := (if_neg hb8).symm.trans hf
          refine lv_aload_n hx hb dX12_canFollow_34 rfl (lv_at hl 0 rfl) ?_
          refine lv_iload_n hx hb dX12_canFollow_35 rfl (lv_at hl 2 rfl) ?_
          refine lv_iload hx hb dX12_canFollow_36 (lv_at hl 4 rfl) ?_
          obtain ⟨v5, hq6, hf⟩ := bo_e hf
          refine ko_call (v := some (.int v5)) (km_run (As := [.int a1, .int a3]) (rest := []) ⟨hx, hb, hml, hown, hts⟩ (c_X12_isAnswer l dC dI cB cI cJ cZ ra M a1 a3 v5 hq6) (cwV 2 hts gX12_canFollow_X12_isAnswer rfl rfl rfl (by decide +kernel) ⟨Nat.le_of_ble_eq_true rfl, Nat.le_of_ble_eq_true rfl⟩) hK hP (fun _ _ _ _ => mPr_bl) (fun U hU hW => ⟨by rw [hU]; exact hP, va_K.moved hW.alike hK⟩) rfl rfl hl.1 rfl (lv_room (Nat.le_of_ble_eq_true rfl)) dX12_canFollow_38 ⟨Nat.le_refl _, Nat.le_refl _⟩) ?_
          refine lv_if_eq (tgt := 48) hx hb dX12_canFollow_41 (by decide) (fun hb7 => ?_) (fun hb7 => ?_)
          · have hf := (if_pos hb7).symm.trans hf
            refine lv_iconst (v := 0) hx hb dX12_canFollow_48 (by decide) ?_
            have hf := Option.some.inj hf
            subst hf
            exact W.zret (v := (0 : Int32)) (ty := .boolean) hx hb hr rfl (fun t ht hW => ⟨rfl, ht⟩) (fun _ h => nomatch h) dX12_canFollow_49
          · have hf := (if_neg hb7).symm.trans hf
            refine lv_iconst (v := 1) hx hb dX12_canFollow_44 (by decide) ?_
            refine lv_goto (tgt := 49) hx hb dX12_canFollow_45 (by decide) ?_
            have hf := Option.some.inj hf
            subst hf
            exact W.zret (v := (1 : Int32)) (ty := .boolean) hx hb hr rfl (fun t ht hW => ⟨rfl, ht⟩) (fun _ h => nomatch h) dX12_canFollow_49

abbrev rm_X12_laysWants : Room := { frames := 3, cells := 0, slots := 0, locals := 67 }
set_option maxHeartbeats 4000000 in
set_option maxRecDepth 100000 in
theorem c_X12_laysWants (l : Launch) (dC : Nat → ClassId) (dI : Nat → Nat → Nat) (cB cI cJ cZ : ClassId) (ra : Nat → Nat) (sz : Nat) (M : kD) (a0 : Int32) (r : kD) (hf : f_X12_laysWants a0 M = some r) : Met l yX12_laysWants wsX12_laysWants rm_X12_laysWants (va_Pc [.ref (ra 0), .int a0] (mPw dC dI cB cI cJ cZ ra sz M)) (mQv dC dI cB cI cJ cZ ra sz r) 0 0 (mA ra sz) := by
  refine Met.ofW (cc := cX12_laysWants) (maxL := 5) (ret := none) (by decide) rfl ?_
  intro p e s m args below meth c s₁ B hml hv
  obtain ⟨hav, hsz, hP, hK, hD0⟩ := hv
  have hx := B.exec
  have hb := B.bytes
  have hr := B.returns
  have hts := atoms_spec (ws := wsX12_laysWants) B.pre
  have hown : s.vm.findClass RX12 = some m.cls := findClass_of_methodNamed B.named
  have hlocks := B.notSynchronized
  subst hsz
  have hA : ∀ q, s.heap.size ≤ q → mA ra s.heap.size q := fun q h => Or.inr h
  have hD : va_D (mA ra s.heap.size) (mw cB cI cJ cZ ra M) := hD0.weaken (fun k q h _ => mA_in h)
  have hS : va_S (mA ra s.heap.size) s.heap s.heap [] := va_S.rf
  have hin : ∀ w ∈ wsX120, w ∈ wsX12_laysWants := fun w h => List.mem_cons_of_mem _ (List.mem_append_right _ h)
  have k_constant_RX12_309_1000000 := hts (.constant RX12 309 1000000) (by decide +kernel)
  have k_fieldLink_RX12_33__KeyLettersModel___s____I_ := hts (.fieldLink RX12 33 "KeyLettersModel" "s" "[I") (by decide +kernel)
  have k_fieldLink_RX12_56__KeyLettersModel___wants____I_ := hts (.fieldLink RX12 56 "KeyLettersModel" "wants" "[I") (by decide +kernel)
  have hl := lv_entry ([.ref (ra 0), .int a0]) (n := 5) (Nat.le_of_ble_eq_true rfl)
  rw [show entryFrame m args 5 = entryFrame m ([.ref (ra 0), .int a0] : List Value).toArray 5 from by rw [hav], lg_entry_eq]
  generalize (lg_sl ([.ref (ra 0), .int a0]) ++ List.replicate (5 - (lg_sl ([.ref (ra 0), .int a0])).length) Slot.unset).toArray = ls at hl ⊢
  have hl : lv_has ls 5 [(0, .ref (ra 0)), (1, .int a0)] := hl
  unfold f_X12_laysWants at hf
  have h_35 : ∀ (M_35 : kD) (ls : Array Slot) (H : Heap) (locs : List Loc), lv_has ls 5 [(0, .ref (ra 0))] → va_P (dC, dI) vwCl (mw cB cI cJ cZ ra M_35) H → va_D (mA ra s.heap.size) (mw cB cI cJ cZ ra M_35) → va_S (mA ra s.heap.size) s.heap H locs → g_X12_laysWants_35  M_35 = some r → W p l e (headSpec wsX12_laysWants rm_X12_laysWants).room s m args below meth c H locs 0 0 (MQ below (mQv dC dI cB cI cJ cZ ra s.heap.size r) args s 0 0 (mA ra s.heap.size)) (F0 m 35 ls []) := by
    intro  M_35 ls H locs hl hP hD hS hf
    unfold g_X12_laysWants_35 at hf
    have h_37 := lp_ind (z := (fun _ _ => none)) (b := (g_X12_laysWants_37)) (fun (rc_37 : Int32 → kD → Option kD) => ∀ (x2_37 : Int32) (M_37 : kD) (ls : Array Slot) (H : Heap) (locs : List Loc), lv_has ls 5 [(0, .ref (ra 0)), (2, .int x2_37)] → va_P (dC, dI) vwCl (mw cB cI cJ cZ ra M_37) H → va_D (mA ra s.heap.size) (mw cB cI cJ cZ ra M_37) → va_S (mA ra s.heap.size) s.heap H locs → rc_37 x2_37 M_37 = some r → W p l e (headSpec wsX12_laysWants rm_X12_laysWants).room s m args below meth c H locs 0 0 (MQ below (mQv dC dI cB cI cJ cZ ra s.heap.size r) args s 0 0 (mA ra s.heap.size)) (F0 m 37 ls [])) (by
        intro x2_37 M_37 ls H locs hl hP hD hS hf
        cases hf) (by
        intro rc_37 ih_37 x2_37 M_37 ls H locs hl hP hD hS hf
        unfold g_X12_laysWants_37 at hf
        have h_150 : ∀ (x2_150 : Int32) (M_150 : kD) (ls : Array Slot) (H : Heap) (locs : List Loc), lv_has ls 5 [(0, .ref (ra 0)), (2, .int x2_150)] → va_P (dC, dI) vwCl (mw cB cI cJ cZ ra M_150) H → va_D (mA ra s.heap.size) (mw cB cI cJ cZ ra M_150) → va_S (mA ra s.heap.size) s.heap H locs → g_X12_laysWants_150 rc_37 x2_150 M_150 = some r → W p l e (headSpec wsX12_laysWants rm_X12_laysWants).room s m args below meth c H locs 0 0 (MQ below (mQv dC dI cB cI cJ cZ ra s.heap.size r) args s 0 0 (mA ra s.heap.size)) (F0 m 150 ls []) := by
          intro x2_150 M_150 ls H locs hl hP hD hS hf
          unfold g_X12_laysWants_150 at hf
          refine lv_goto (tgt := 37) hx hb dX12_laysWants_150 (by decide) ?_
          exact ih_37 x2_150 M_150 ls _ _ hl hP hD hS hf
        have h_45 := lp_ind (z := (fun _ _ _ => none)) (b := (g_X12_laysWants_45 rc_37)) (fun (rc_45 : Int32 → Int32 → kD → Option kD) => ∀ (x2_45 : Int32) (x3_45 : Int32) (M_45 : kD) (ls : Array Slot) (H : Heap) (locs : List Loc), lv_has ls 5 [(0, .ref (ra 0)), (2, .int x2_45), (3, .int x3_45)] → va_P (dC, dI) vwCl (mw cB cI cJ cZ ra M_45) H → va_D (mA ra s.heap.size) (mw cB cI cJ cZ ra M_45) → va_S (mA ra s.heap.size) s.heap H locs → rc_45 x2_45 x3_45 M_45 = some r → W p l e (headSpec wsX12_laysWants rm_X12_laysWants).room s m args below meth c H locs 0 0 (MQ below (mQv dC dI cB cI cJ cZ ra s.heap.size r) args s 0 0 (mA ra s.heap.size)) (F0 m 45 ls [])) (by
            intro x2_45 x3_45 M_45 ls H locs hl hP hD hS hf
            cases hf) (by
            intro rc_45 ih_45 x2_45 x3_45 M_45 ls H locs hl hP hD hS hf
            unfold g_X12_laysWants_45 at hf
            have h_144 : ∀ (x2_144 : Int32) (x3_144 : Int32) (M_144 : kD) (ls : Array Slot) (H : Heap) (locs : List Loc), lv_has ls 5 [(0, .ref (ra 0)), (2, .int x2_144), (3, .int x3_144)] → va_P (dC, dI) vwCl (mw cB cI cJ cZ ra M_144) H → va_D (mA ra s.heap.size) (mw cB cI cJ cZ ra M_144) → va_S (mA ra s.heap.size) s.heap H locs → g_X12_laysWants_144 rc_37 rc_45 x2_144 x3_144 M_144 = some r → W p l e (headSpec wsX12_laysWants rm_X12_laysWants).room s m args below meth c H locs 0 0 (MQ below (mQv dC dI cB cI cJ cZ ra s.heap.size r) args s 0 0 (mA ra s.heap.size)) (F0 m 144 ls []) := by
              intro x2_144 x3_144 M_144 ls H locs hl hP hD hS hf
              unfold g_X12_laysWants_144 at hf
              obtain ⟨v1, ev1, hf⟩ := bd1_e hf
              refine lv_iinc (k := 2) (x := x3_144) (v := v1) (nL := 5) (lv' := [(3, .int v1), (0, .ref (ra 0)), (2, .int x2_144)]) hx hb dX12_laysWants_144 hl rfl (kt_inc (w := 1) (by decide) ev1) (by decide) rfl (fun ls hl => ?_)
              refine lv_goto (tgt := 45) hx hb dX12_laysWants_147 (by decide) ?_
              exact ih_45 x2_144 v1 M_144 ls _ _ (lv_sub hl [1, 2, 0] rfl) hP hD hS hf
            have h_54 := lp_ind (z := (fun _ _ _ _ => none)) (b := (g_X12_laysWants_54 rc_37 rc_45)) (fun (rc_54 : Int32 → Int32 → Int32 → kD → Option kD) => ∀ (x2_54 : Int32) (x3_54 : Int32) (x4_54 : Int32) (M_54 : kD) (ls : Array Slot) (H : Heap) (locs : List Loc), lv_has ls 5 [(0, .ref (ra 0)), (2, .int x2_54), (3, .int x3_54), (4, .int x4_54)] → va_P (dC, dI) vwCl (mw cB cI cJ cZ ra M_54) H → va_D (mA ra s.heap.size) (mw cB cI cJ cZ ra M_54) → va_S (mA ra s.heap.size) s.heap H locs → rc_54 x2_54 x3_54 x4_54 M_54 = some r → W p l e (headSpec wsX12_laysWants rm_X12_laysWants).room s m args below meth c H locs 0 0 (MQ below (mQv dC dI cB cI cJ cZ ra s.heap.size r) args s 0 0 (mA ra s.heap.size)) (F0 m 54 ls [])) (by
                intro x2_54 x3_54 x4_54 M_54 ls H locs hl hP hD hS hf
                cases hf) (by
                intro rc_54 ih_54 x2_54 x3_54 x4_54 M_54 ls H locs hl hP hD hS hf
                unfold g_X12_laysWants_54 at hf
                have h_138 : ∀ (x2_138 : Int32) (x3_138 : Int32) (x4_138 : Int32) (M_138 : kD) (ls : Array Slot) (H : Heap) (locs : List Loc), lv_has ls 5 [(0, .ref (ra 0)), (2, .int x2_138), (3, .int x3_138), (4, .int x4_138)] → va_P (dC, dI) vwCl (mw cB cI cJ cZ ra M_138) H → va_D (mA ra s.heap.size) (mw cB cI cJ cZ ra M_138) → va_S (mA ra s.heap.size) s.heap H locs → g_X12_laysWants_138 rc_37 rc_45 rc_54 x2_138 x3_138 x4_138 M_138 = some r → W p l e (headSpec wsX12_laysWants rm_X12_laysWants).room s m args below meth c H locs 0 0 (MQ below (mQv dC dI cB cI cJ cZ ra s.heap.size r) args s 0 0 (mA ra s.heap.size)) (F0 m 138 ls []) := by
                  intro x2_138 x3_138 x4_138 M_138 ls H locs hl hP hD hS hf
                  unfold g_X12_laysWants_138 at hf
                  obtain ⟨v2, ev2, hf⟩ := bd1_e hf
                  refine lv_iinc (k := 3) (x := x4_138) (v := v2) (nL := 5) (lv' := [(4, .int v2), (0, .ref (ra 0)), (2, .int x2_138), (3, .int x3_138)]) hx hb dX12_laysWants_138 hl rfl (kt_inc (w := 1) (by decide) ev2) (by decide) rfl (fun ls hl => ?_)
                  refine lv_goto (tgt := 54) hx hb dX12_laysWants_141 (by decide) ?_
                  exact ih_54 x2_138 x3_138 v2 M_138 ls _ _ (lv_sub hl [1, 2, 3, 0] rfl) hP hD hS hf
                refine lv_iload hx hb dX12_laysWants_54 (lv_at hl 3 rfl) ?_
                refine lv_bipush (v := 48) hx hb dX12_laysWants_56 (by decide) ?_
                refine lv_icmp_ge (tgt := 144) hx hb dX12_laysWants_58 (by decide) (fun hb13 => ?_) (fun hb13 => ?_)
                · have hf := (if_pos hb13).symm.trans hf
                  exact h_144 x2_54 x3_54 M_54 ls _ _ (lv_sub hl [0, 1, 2] rfl) hP hD hS hf
                · have hf := (if_neg hb13).symm.trans hf
                  refine lv_aload_n hx hb dX12_laysWants_61 rfl (lv_at hl 0 rfl) ?_
                  refine km_get hx hb hts hin hown hK hP 23 (by decide) (v := .ref (ra 23)) k_fieldLink_RX12_56__KeyLettersModel___wants____I_ rfl dX12_laysWants_62 ?_
                  refine lv_iload hx hb dX12_laysWants_65 (lv_at hl 3 rfl) ?_
                  obtain ⟨hc3, hf⟩ := ck_e hf
                  refine va_iald hx hb hK hP 9 1 rfl rfl hc3 dX12_laysWants_67 ?_
                  refine lv_iconst (v := 1) hx hb dX12_laysWants_68 (by decide) ?_
                  refine lv_iadd hx hb dX12_laysWants_69 ?_
                  refine lv_aload_n hx hb dX12_laysWants_70 rfl (lv_at hl 0 rfl) ?_
                  refine km_get hx hb hts hin hown hK hP 23 (by decide) (v := .ref (ra 23)) k_fieldLink_RX12_56__KeyLettersModel___wants____I_ rfl dX12_laysWants_71 ?_
                  refine lv_iload_n hx hb dX12_laysWants_74 rfl (lv_at hl 2 rfl) ?_
                  obtain ⟨hc4, hf⟩ := ck_e hf
                  refine va_iald hx hb hK hP 9 1 rfl rfl hc4 dX12_laysWants_75 ?_
                  refine lv_icmp_ge (tgt := 138) hx hb dX12_laysWants_76 (by decide) (fun hb12 => ?_) (fun hb12 => ?_)
                  · have hf := (if_pos hb12).symm.trans hf
                    exact h_138 x2_54 x3_54 x4_54 M_54 ls _ _ hl hP hD hS hf
                  · have hf := (if_neg hb12).symm.trans hf
                    refine lv_iload hx hb dX12_laysWants_79 (lv_at hl 3 rfl) ?_
                    refine lv_bipush (v := 8) hx hb dX12_laysWants_81 (by decide) ?_
                    refine lv_idiv hx hb dX12_laysWants_83 (by decide) ?_
                    refine lv_aload_n hx hb dX12_laysWants_84 rfl (lv_at hl 0 rfl) ?_
                    refine km_get hx hb hts hin hown hK hP 6 (by decide) (v := .ref (ra 6)) k_fieldLink_RX12_33__KeyLettersModel___s____I_ rfl dX12_laysWants_85 ?_
                    refine lv_iconst (v := 0) hx hb dX12_laysWants_88 (by decide) ?_
                    refine va_iald hx hb hK hP 2 1 rfl rfl (show ¬ ((0 : Int32) < 0 ∨ 279 ≤ (0 : Int32).toNatClampNeg) by decide +kernel) dX12_laysWants_89 ?_
                    refine lv_icmp_ge (tgt := 138) hx hb dX12_laysWants_90 (by decide) (fun hb11 => ?_) (fun hb11 => ?_)
                    · have hf := (if_pos hb11).symm.trans hf
                      exact h_138 x2_54 x3_54 x4_54 M_54 ls _ _ hl hP hD hS hf
                    · have hf := (if_neg hb11).symm.trans hf
                      refine lv_aload_n hx hb dX12_laysWants_93 rfl (lv_at hl 0 rfl) ?_
                      refine lv_iload hx hb dX12_laysWants_94 (lv_at hl 3 rfl) ?_
                      refine lv_bipush (v := 8) hx hb dX12_laysWants_96 (by decide) ?_
                      refine lv_idiv hx hb dX12_laysWants_98 (by decide) ?_
                      refine lv_iload hx hb dX12_laysWants_99 (lv_at hl 3 rfl) ?_
                      refine lv_bipush (v := 8) hx hb dX12_laysWants_101 (by decide) ?_
                      refine lv_irem hx hb dX12_laysWants_103 (by decide) ?_
                      refine lv_iload_n hx hb dX12_laysWants_104 rfl (lv_at hl 2 rfl) ?_
                      refine lv_bipush (v := 8) hx hb dX12_laysWants_105 (by decide) ?_
                      refine lv_idiv hx hb dX12_laysWants_107 (by decide) ?_
                      refine lv_iload_n hx hb dX12_laysWants_108 rfl (lv_at hl 2 rfl) ?_
                      refine lv_bipush (v := 8) hx hb dX12_laysWants_109 (by decide) ?_
                      refine lv_irem hx hb dX12_laysWants_111 (by decide) ?_
                      obtain ⟨v5, hq6, hf⟩ := bo_e hf
                      refine ko_call (v := some (.int v5)) (km_run (As := [.int (x4_54 / (8 : Int32)), .int (kRem x4_54 (8 : Int32)), .int (x3_54 / (8 : Int32)), .int (kRem x3_54 (8 : Int32))]) (rest := []) ⟨hx, hb, hml, hown, hts⟩ (c_X12_canFollow l dC dI cB cI cJ cZ ra M_54 (x4_54 / (8 : Int32)) (kRem x4_54 (8 : Int32)) (x3_54 / (8 : Int32)) (kRem x3_54 (8 : Int32)) v5 hq6) (cwV 4 hts gX12_laysWants_X12_canFollow rfl rfl rfl (by decide +kernel) ⟨Nat.le_of_ble_eq_true rfl, Nat.le_of_ble_eq_true rfl⟩) hK hP (fun _ _ _ _ => mPr_bl) (fun U hU hW => ⟨by rw [hU]; exact hP, va_K.moved hW.alike hK⟩) rfl rfl hl.1 rfl (lv_room (Nat.le_of_ble_eq_true rfl)) dX12_laysWants_112 ⟨Nat.le_refl _, Nat.le_refl _⟩) ?_
                      refine lv_if_ne (tgt := 121) hx hb dX12_laysWants_115 (by decide) (fun hb10 => ?_) (fun hb10 => ?_)
                      · have hf := (if_neg hb10).symm.trans hf
                        refine lv_aload_n hx hb dX12_laysWants_121 rfl (lv_at hl 0 rfl) ?_
                        refine km_get hx hb hts hin hown hK hP 23 (by decide) (v := .ref (ra 23)) k_fieldLink_RX12_56__KeyLettersModel___wants____I_ rfl dX12_laysWants_122 ?_
                        refine lv_iload_n hx hb dX12_laysWants_125 rfl (lv_at hl 2 rfl) ?_
                        refine lv_aload_n hx hb dX12_laysWants_126 rfl (lv_at hl 0 rfl) ?_
                        refine km_get hx hb hts hin hown hK hP 23 (by decide) (v := .ref (ra 23)) k_fieldLink_RX12_56__KeyLettersModel___wants____I_ rfl dX12_laysWants_127 ?_
                        refine lv_iload hx hb dX12_laysWants_130 (lv_at hl 3 rfl) ?_
                        obtain ⟨hc7, hf⟩ := ck_e hf
                        refine va_iald hx hb hK hP 9 1 rfl rfl hc7 dX12_laysWants_132 ?_
                        refine lv_iconst (v := 1) hx hb dX12_laysWants_133 (by decide) ?_
                        refine lv_iadd hx hb dX12_laysWants_134 ?_
                        obtain ⟨hc8, hf⟩ := ck_e hf
                        obtain ⟨M9, eM9, hf⟩ := bd1_e hf
                        refine va_iast hx hb hK hP hD hS 9 1 rfl rfl hc8 dX12_laysWants_135 (fun H locs hP hD hS => ?_)
                        have hP : va_P (dC, dI) vwCl (mw cB cI cJ cZ ra M9) H := by rw [eM9, ← ma_23 cB cI cJ cZ ra M_54 x3_54.toNatClampNeg ((M_54.1 23 x4_54.toNatClampNeg) + (1 : Int32))]; exact hP
                        have hD : va_D (mA ra s.heap.size) (mw cB cI cJ cZ ra M9) := by rw [eM9, ← ma_23 cB cI cJ cZ ra M_54 x3_54.toNatClampNeg ((M_54.1 23 x4_54.toNatClampNeg) + (1 : Int32))]; exact hD
                        refine lv_iconst (v := 1) hx hb dX12_laysWants_136 (by decide) ?_
                        refine lv_istore_n (nL := 5) (lv' := [(2, .int (1 : Int32)), (0, .ref (ra 0)), (3, .int x3_54), (4, .int x4_54)]) hx hb dX12_laysWants_137 rfl hl (by decide) rfl (fun ls hl => ?_)
                        exact h_138 (1 : Int32) x3_54 x4_54 M9 ls _ _ (lv_sub hl [1, 0, 2, 3] rfl) hP hD hS hf
                      · have hf := (if_pos hb10).symm.trans hf
                        refine lv_goto (tgt := 138) hx hb dX12_laysWants_118 (by decide) ?_
                        exact h_138 x2_54 x3_54 x4_54 M_54 ls _ _ hl hP hD hS hf) 2000
            refine lv_iload_n hx hb dX12_laysWants_45 rfl (lv_at hl 2 rfl) ?_
            refine lv_bipush (v := 48) hx hb dX12_laysWants_46 (by decide) ?_
            refine lv_icmp_ge (tgt := 150) hx hb dX12_laysWants_48 (by decide) (fun hb14 => ?_) (fun hb14 => ?_)
            · have hf := (if_pos hb14).symm.trans hf
              exact h_150 x2_45 M_45 ls _ _ (lv_sub hl [0, 1] rfl) hP hD hS hf
            · have hf := (if_neg hb14).symm.trans hf
              refine lv_iconst (v := 0) hx hb dX12_laysWants_51 (by decide) ?_
              refine lv_istore (nL := 5) (lv' := [(4, .int (0 : Int32)), (0, .ref (ra 0)), (2, .int x2_45), (3, .int x3_45)]) hx hb dX12_laysWants_52 hl (by decide) rfl (fun ls hl => ?_)
              exact h_54 x2_45 x3_45 (0 : Int32) M_45 ls _ _ (lv_sub hl [1, 2, 3, 0] rfl) hP hD hS hf) 2000
        refine lv_iload_n hx hb dX12_laysWants_37 rfl (lv_at hl 1 rfl) ?_
        refine lv_if_eq (tgt := 153) hx hb dX12_laysWants_38 (by decide) (fun hb15 => ?_) (fun hb15 => ?_)
        · have hf := (if_pos hb15).symm.trans hf
          have hf := Option.some.inj hf
          subst hf
          exact m_vret hx hb hr hlocks hP hK hD hS dX12_laysWants_153
        · have hf := (if_neg hb15).symm.trans hf
          refine lv_iconst (v := 0) hx hb dX12_laysWants_41 (by decide) ?_
          refine lv_istore_n (nL := 5) (lv' := [(2, .int (0 : Int32)), (0, .ref (ra 0))]) hx hb dX12_laysWants_42 rfl hl (by decide) rfl (fun ls hl => ?_)
          refine lv_iconst (v := 0) hx hb dX12_laysWants_43 (by decide) ?_
          refine lv_istore_n (nL := 5) (lv' := [(3, .int (0 : Int32)), (2, .int (0 : Int32)), (0, .ref (ra 0))]) hx hb dX12_laysWants_44 rfl hl (by decide) rfl (fun ls hl => ?_)
          exact h_45 (0 : Int32) (0 : Int32) M_37 ls _ _ (lv_sub hl [2, 1, 0] rfl) hP hD hS hf) 2000
    refine lv_iconst (v := 1) hx hb dX12_laysWants_35 (by decide) ?_
    refine lv_istore_n (nL := 5) (lv' := [(2, .int (1 : Int32)), (0, .ref (ra 0))]) hx hb dX12_laysWants_36 rfl hl (by decide) rfl (fun ls hl => ?_)
    exact h_37 (1 : Int32) M_35 ls _ _ (lv_sub hl [1, 0] rfl) hP hD hS hf
  have h_2 := lp_ind (z := (fun _ _ _ => none)) (b := (g_X12_laysWants_2)) (fun (rc_2 : Int32 → Int32 → kD → Option kD) => ∀ (x1_2 : Int32) (x2_2 : Int32) (M_2 : kD) (ls : Array Slot) (H : Heap) (locs : List Loc), lv_has ls 5 [(0, .ref (ra 0)), (1, .int x1_2), (2, .int x2_2)] → va_P (dC, dI) vwCl (mw cB cI cJ cZ ra M_2) H → va_D (mA ra s.heap.size) (mw cB cI cJ cZ ra M_2) → va_S (mA ra s.heap.size) s.heap H locs → rc_2 x1_2 x2_2 M_2 = some r → W p l e (headSpec wsX12_laysWants rm_X12_laysWants).room s m args below meth c H locs 0 0 (MQ below (mQv dC dI cB cI cJ cZ ra s.heap.size r) args s 0 0 (mA ra s.heap.size)) (F0 m 2 ls [])) (by
      intro x1_2 x2_2 M_2 ls H locs hl hP hD hS hf
      cases hf) (by
      intro rc_2 ih_2 x1_2 x2_2 M_2 ls H locs hl hP hD hS hf
      unfold g_X12_laysWants_2 at hf
      have h_28 : ∀ (x1_28 : Int32) (x2_28 : Int32) (t1_28 : Int32) (t2_28 : Int32) (M_28 : kD) (ls : Array Slot) (H : Heap) (locs : List Loc), lv_has ls 5 [(0, .ref (ra 0)), (1, .int x1_28), (2, .int x2_28)] → va_P (dC, dI) vwCl (mw cB cI cJ cZ ra M_28) H → va_D (mA ra s.heap.size) (mw cB cI cJ cZ ra M_28) → va_S (mA ra s.heap.size) s.heap H locs → g_X12_laysWants_28 rc_2 x1_28 x2_28 t1_28 t2_28 M_28 = some r → W p l e (headSpec wsX12_laysWants rm_X12_laysWants).room s m args below meth c H locs 0 0 (MQ below (mQv dC dI cB cI cJ cZ ra s.heap.size r) args s 0 0 (mA ra s.heap.size)) (F0 m 28 ls [.int t2_28, .int t1_28, .ref (ra 23)]) := by
        intro x1_28 x2_28 t1_28 t2_28 M_28 ls H locs hl hP hD hS hf
        unfold g_X12_laysWants_28 at hf
        obtain ⟨hc16, hf⟩ := ck_e hf
        obtain ⟨M17, eM17, hf⟩ := bd1_e hf
        refine va_iast hx hb hK hP hD hS 9 1 rfl rfl hc16 dX12_laysWants_28 (fun H locs hP hD hS => ?_)
        have hP : va_P (dC, dI) vwCl (mw cB cI cJ cZ ra M17) H := by rw [eM17, ← ma_23 cB cI cJ cZ ra M_28 t1_28.toNatClampNeg t2_28]; exact hP
        have hD : va_D (mA ra s.heap.size) (mw cB cI cJ cZ ra M17) := by rw [eM17, ← ma_23 cB cI cJ cZ ra M_28 t1_28.toNatClampNeg t2_28]; exact hD
        obtain ⟨v18, ev18, hf⟩ := bd1_e hf
        refine lv_iinc (k := 2) (x := x2_28) (v := v18) (nL := 5) (lv' := [(2, .int v18), (0, .ref (ra 0)), (1, .int x1_28)]) hx hb dX12_laysWants_29 hl rfl (kt_inc (w := 1) (by decide) ev18) (by decide) rfl (fun ls hl => ?_)
        refine lv_goto (tgt := 2) hx hb dX12_laysWants_32 (by decide) ?_
        exact ih_2 x1_28 v18 M17 ls _ _ (lv_sub hl [1, 2, 0] rfl) hP hD hS hf
      refine lv_iload_n hx hb dX12_laysWants_2 rfl (lv_at hl 2 rfl) ?_
      refine lv_bipush (v := 48) hx hb dX12_laysWants_3 (by decide) ?_
      refine lv_icmp_ge (tgt := 35) hx hb dX12_laysWants_5 (by decide) (fun hb20 => ?_) (fun hb20 => ?_)
      · have hf := (if_pos hb20).symm.trans hf
        exact h_35  M_2 ls _ _ (lv_sub hl [0] rfl) hP hD hS hf
      · have hf := (if_neg hb20).symm.trans hf
        refine lv_aload_n hx hb dX12_laysWants_8 rfl (lv_at hl 0 rfl) ?_
        refine km_get hx hb hts hin hown hK hP 23 (by decide) (v := .ref (ra 23)) k_fieldLink_RX12_56__KeyLettersModel___wants____I_ rfl dX12_laysWants_9 ?_
        refine lv_iload_n hx hb dX12_laysWants_12 rfl (lv_at hl 2 rfl) ?_
        refine lv_iload_n hx hb dX12_laysWants_13 rfl (lv_at hl 2 rfl) ?_
        refine lv_bipush (v := 8) hx hb dX12_laysWants_14 (by decide) ?_
        refine lv_irem hx hb dX12_laysWants_16 (by decide) ?_
        refine lv_iload_n hx hb dX12_laysWants_17 rfl (lv_at hl 1 rfl) ?_
        refine lv_icmp_ne (tgt := 25) hx hb dX12_laysWants_18 (by decide) (fun hb19 => ?_) (fun hb19 => ?_)
        · have hf := (if_neg hb19).symm.trans hf
          refine lv_ldcw (v := 1000000) hx hb hown k_constant_RX12_309_1000000 dX12_laysWants_25 ?_
          exact h_28 x1_2 x2_2 x2_2 (1000000 : Int32) M_2 ls _ _ hl hP hD hS hf
        · have hf := (if_pos hb19).symm.trans hf
          refine lv_iconst (v := 0) hx hb dX12_laysWants_21 (by decide) ?_
          refine lv_goto (tgt := 28) hx hb dX12_laysWants_22 (by decide) ?_
          exact h_28 x1_2 x2_2 x2_2 (0 : Int32) M_2 ls _ _ hl hP hD hS hf) 2000
  refine lv_iconst (v := 0) hx hb dX12_laysWants_0 (by decide) ?_
  refine lv_istore_n (nL := 5) (lv' := [(2, .int (0 : Int32)), (0, .ref (ra 0)), (1, .int a0)]) hx hb dX12_laysWants_1 rfl hl (by decide) rfl (fun ls hl => ?_)
  exact h_2 a0 (0 : Int32) M ls _ _ (lv_sub hl [1, 2, 0] rfl) hP hD hS hf

abbrev rm_X12_followBy : Room := { frames := 3, cells := 0, slots := 0, locals := 67 }
set_option maxHeartbeats 4000000 in
set_option maxRecDepth 100000 in
theorem c_X12_followBy (l : Launch) (dC : Nat → ClassId) (dI : Nat → Nat → Nat) (cB cI cJ cZ : ClassId) (ra : Nat → Nat) (M : kD) (a0 : Int32) (a1 : Int32) (a2 : Int32) (r : Int32) (hf : f_X12_followBy a0 a1 a2 M = some r) : Met l yX12_followBy wsX12_followBy rm_X12_followBy (va_Pc [.ref (ra 0), .int a0, .int a1, .int a2] (mPr dC dI cB cI cJ cZ ra M)) (kQ (some (.int r))) 0 0 (kF) := by
  refine Met.ofW (cc := cX12_followBy) (maxL := 5) (ret := (some .int)) (by decide) rfl ?_
  intro p e s m args below meth c s₁ B hml hv
  obtain ⟨hav, hP, hK⟩ := hv
  have hx := B.exec
  have hb := B.bytes
  have hr := B.returns
  have hts := atoms_spec (ws := wsX12_followBy) B.pre
  have hown : s.vm.findClass RX12 = some m.cls := findClass_of_methodNamed B.named
  have hlocks := B.notSynchronized
  have hin : ∀ w ∈ wsX120, w ∈ wsX12_followBy := fun w h => List.mem_cons_of_mem _ (List.mem_append_right _ h)
  have k_fieldLink_RX12_33__KeyLettersModel___s____I_ := hts (.fieldLink RX12 33 "KeyLettersModel" "s" "[I") (by decide +kernel)
  have k_fieldLink_RX12_56__KeyLettersModel___wants____I_ := hts (.fieldLink RX12 56 "KeyLettersModel" "wants" "[I") (by decide +kernel)
  have hl := lv_entry ([.ref (ra 0), .int a0, .int a1, .int a2]) (n := 5) (Nat.le_of_ble_eq_true rfl)
  rw [show entryFrame m args 5 = entryFrame m ([.ref (ra 0), .int a0, .int a1, .int a2] : List Value).toArray 5 from by rw [hav], lg_entry_eq]
  generalize (lg_sl ([.ref (ra 0), .int a0, .int a1, .int a2]) ++ List.replicate (5 - (lg_sl ([.ref (ra 0), .int a0, .int a1, .int a2])).length) Slot.unset).toArray = ls at hl ⊢
  have hl : lv_has ls 5 [(0, .ref (ra 0)), (1, .int a0), (2, .int a1), (3, .int a2)] := hl
  unfold f_X12_followBy at hf
  have h_3 := lp_ind (z := (fun _ _ _ _ => none)) (b := (g_X12_followBy_3 M)) (fun (rc_3 : Int32 → Int32 → Int32 → Int32 → Option Int32) => ∀ (x1_3 : Int32) (x2_3 : Int32) (x3_3 : Int32) (x4_3 : Int32) (ls : Array Slot), lv_has ls 5 [(0, .ref (ra 0)), (1, .int x1_3), (2, .int x2_3), (3, .int x3_3), (4, .int x4_3)] → rc_3 x1_3 x2_3 x3_3 x4_3 = some r → W p l e (headSpec wsX12_followBy rm_X12_followBy).room s m args below meth c s.heap [] 0 0 (MQ below (kQ (some (.int r))) args s 0 0 (kF)) (F0 m 3 ls [])) (by
      intro x1_3 x2_3 x3_3 x4_3 ls hl hf
      cases hf) (by
      intro rc_3 ih_3 x1_3 x2_3 x3_3 x4_3 ls hl hf
      unfold g_X12_followBy_3 at hf
      have h_57 : ∀ (x1_57 : Int32) (x2_57 : Int32) (x3_57 : Int32) (x4_57 : Int32) (ls : Array Slot), lv_has ls 5 [(0, .ref (ra 0)), (1, .int x1_57), (2, .int x2_57), (3, .int x3_57), (4, .int x4_57)] → g_X12_followBy_57 rc_3 M x1_57 x2_57 x3_57 x4_57 = some r → W p l e (headSpec wsX12_followBy rm_X12_followBy).room s m args below meth c s.heap [] 0 0 (MQ below (kQ (some (.int r))) args s 0 0 (kF)) (F0 m 57 ls []) := by
        intro x1_57 x2_57 x3_57 x4_57 ls hl hf
        unfold g_X12_followBy_57 at hf
        obtain ⟨v1, ev1, hf⟩ := bd1_e hf
        refine lv_iinc (k := 4) (x := x4_57) (v := v1) (nL := 5) (lv' := [(4, .int v1), (0, .ref (ra 0)), (1, .int x1_57), (2, .int x2_57), (3, .int x3_57)]) hx hb dX12_followBy_57 hl rfl (kt_inc (w := 1) (by decide) ev1) (by decide) rfl (fun ls hl => ?_)
        refine lv_goto (tgt := 3) hx hb dX12_followBy_60 (by decide) ?_
        exact ih_3 x1_57 x2_57 x3_57 v1 ls (lv_sub hl [1, 2, 3, 4, 0] rfl) hf
      refine lv_iload hx hb dX12_followBy_3 (lv_at hl 4 rfl) ?_
      refine lv_bipush (v := 48) hx hb dX12_followBy_5 (by decide) ?_
      refine lv_icmp_ge (tgt := 63) hx hb dX12_followBy_7 (by decide) (fun hb8 => ?_) (fun hb8 => ?_)
      · have hf := (if_pos hb8).symm.trans hf
        refine lv_iconst (v := -1) hx hb dX12_followBy_63 (by decide) ?_
        have hf := Option.some.inj hf
        subst hf
        exact W.iret (v := (-1 : Int32)) hx hb hr (fun t ht hW => ⟨rfl, ht⟩) (fun _ h => nomatch h) dX12_followBy_64
      · have hf := (if_neg hb8).symm.trans hf
        refine lv_iload hx hb dX12_followBy_10 (lv_at hl 4 rfl) ?_
        refine lv_bipush (v := 8) hx hb dX12_followBy_12 (by decide) ?_
        refine lv_idiv hx hb dX12_followBy_14 (by decide) ?_
        refine lv_aload_n hx hb dX12_followBy_15 rfl (lv_at hl 0 rfl) ?_
        refine km_get hx hb hts hin hown hK hP 6 (by decide) (v := .ref (ra 6)) k_fieldLink_RX12_33__KeyLettersModel___s____I_ rfl dX12_followBy_16 ?_
        refine lv_iconst (v := 0) hx hb dX12_followBy_19 (by decide) ?_
        refine va_iald hx hb hK hP 2 1 rfl rfl (show ¬ ((0 : Int32) < 0 ∨ 279 ≤ (0 : Int32).toNatClampNeg) by decide +kernel) dX12_followBy_20 ?_
        refine lv_icmp_ge (tgt := 57) hx hb dX12_followBy_21 (by decide) (fun hb7 => ?_) (fun hb7 => ?_)
        · have hf := (if_pos hb7).symm.trans hf
          exact h_57 x1_3 x2_3 x3_3 x4_3 ls hl hf
        · have hf := (if_neg hb7).symm.trans hf
          refine lv_aload_n hx hb dX12_followBy_24 rfl (lv_at hl 0 rfl) ?_
          refine km_get hx hb hts hin hown hK hP 23 (by decide) (v := .ref (ra 23)) k_fieldLink_RX12_56__KeyLettersModel___wants____I_ rfl dX12_followBy_25 ?_
          refine lv_iload hx hb dX12_followBy_28 (lv_at hl 4 rfl) ?_
          obtain ⟨hc2, hf⟩ := ck_e hf
          refine va_iald hx hb hK hP 9 1 rfl rfl hc2 dX12_followBy_30 ?_
          refine lv_iload_n hx hb dX12_followBy_31 rfl (lv_at hl 3 rfl) ?_
          refine lv_icmp_ne (tgt := 57) hx hb dX12_followBy_32 (by decide) (fun hb6 => ?_) (fun hb6 => ?_)
          · have hf := (if_neg hb6).symm.trans hf
            exact h_57 x1_3 x2_3 x3_3 x4_3 ls hl hf
          · have hf := (if_pos hb6).symm.trans hf
            refine lv_aload_n hx hb dX12_followBy_35 rfl (lv_at hl 0 rfl) ?_
            refine lv_iload hx hb dX12_followBy_36 (lv_at hl 4 rfl) ?_
            refine lv_bipush (v := 8) hx hb dX12_followBy_38 (by decide) ?_
            refine lv_idiv hx hb dX12_followBy_40 (by decide) ?_
            refine lv_iload hx hb dX12_followBy_41 (lv_at hl 4 rfl) ?_
            refine lv_bipush (v := 8) hx hb dX12_followBy_43 (by decide) ?_
            refine lv_irem hx hb dX12_followBy_45 (by decide) ?_
            refine lv_iload_n hx hb dX12_followBy_46 rfl (lv_at hl 1 rfl) ?_
            refine lv_iload_n hx hb dX12_followBy_47 rfl (lv_at hl 2 rfl) ?_
            obtain ⟨v3, hq4, hf⟩ := bo_e hf
            refine ko_call (v := some (.int v3)) (km_run (As := [.int (x4_3 / (8 : Int32)), .int (kRem x4_3 (8 : Int32)), .int x1_3, .int x2_3]) (rest := []) ⟨hx, hb, hml, hown, hts⟩ (c_X12_canFollow l dC dI cB cI cJ cZ ra M (x4_3 / (8 : Int32)) (kRem x4_3 (8 : Int32)) x1_3 x2_3 v3 hq4) (cwV 4 hts gX12_followBy_X12_canFollow rfl rfl rfl (by decide +kernel) ⟨Nat.le_of_ble_eq_true rfl, Nat.le_of_ble_eq_true rfl⟩) hK hP (fun _ _ _ _ => mPr_bl) (fun U hU hW => ⟨by rw [hU]; exact hP, va_K.moved hW.alike hK⟩) rfl rfl hl.1 rfl (lv_room (Nat.le_of_ble_eq_true rfl)) dX12_followBy_48 ⟨Nat.le_refl _, Nat.le_refl _⟩) ?_
            refine lv_if_eq (tgt := 57) hx hb dX12_followBy_51 (by decide) (fun hb5 => ?_) (fun hb5 => ?_)
            · have hf := (if_pos hb5).symm.trans hf
              exact h_57 x1_3 x2_3 x3_3 x4_3 ls hl hf
            · have hf := (if_neg hb5).symm.trans hf
              refine lv_iload hx hb dX12_followBy_54 (lv_at hl 4 rfl) ?_
              have hf := Option.some.inj hf
              subst hf
              exact W.iret (v := x4_3) hx hb hr (fun t ht hW => ⟨rfl, ht⟩) (fun _ h => nomatch h) dX12_followBy_56) 2000
  refine lv_iconst (v := 0) hx hb dX12_followBy_0 (by decide) ?_
  refine lv_istore (nL := 5) (lv' := [(4, .int (0 : Int32)), (0, .ref (ra 0)), (1, .int a0), (2, .int a1), (3, .int a2)]) hx hb dX12_followBy_1 hl (by decide) rfl (fun ls hl => ?_)
  exact h_3 a0 a1 a2 (0 : Int32) ls (lv_sub hl [1, 2, 3, 4, 0] rfl) hf

abbrev rm_X12_comes : Room := { frames := 4, cells := 0, slots := 0, locals := 91 }
set_option maxHeartbeats 4000000 in
set_option maxRecDepth 100000 in
theorem c_X12_comes (l : Launch) (dC : Nat → ClassId) (dI : Nat → Nat → Nat) (cB cI cJ cZ : ClassId) (ra : Nat → Nat) (sz : Nat) (M : kD) (a0 : Int32) (r : (Int32 × kD)) (hf : f_X12_comes a0 M = some r) : Met l yX12_comes wsX12_comes rm_X12_comes (va_Pc [.ref (ra 0), .int a0] (mPw dC dI cB cI cJ cZ ra sz M)) (mQi dC dI cB cI cJ cZ ra sz r) 0 0 (mA ra sz) := by
  refine Met.ofW (cc := cX12_comes) (maxL := 7) (ret := (some .int)) (by decide) rfl ?_
  intro p e s m args below meth c s₁ B hml hv
  obtain ⟨hav, hsz, hP, hK, hD0⟩ := hv
  have hx := B.exec
  have hb := B.bytes
  have hr := B.returns
  have hts := atoms_spec (ws := wsX12_comes) B.pre
  have hown : s.vm.findClass RX12 = some m.cls := findClass_of_methodNamed B.named
  have hlocks := B.notSynchronized
  subst hsz
  have hA : ∀ q, s.heap.size ≤ q → mA ra s.heap.size q := fun q h => Or.inr h
  have hD : va_D (mA ra s.heap.size) (mw cB cI cJ cZ ra M) := hD0.weaken (fun k q h _ => mA_in h)
  have hS : va_S (mA ra s.heap.size) s.heap s.heap [] := va_S.rf
  have hin : ∀ w ∈ wsX120, w ∈ wsX12_comes := fun w h => List.mem_cons_of_mem _ (List.mem_append_right _ h)
  have k_fieldLink_RX12_1__KeyLettersModel___thrown___I_ := hts (.fieldLink RX12 1 "KeyLettersModel" "thrown" "I") (by decide +kernel)
  have k_fieldLink_RX12_33__KeyLettersModel___s____I_ := hts (.fieldLink RX12 33 "KeyLettersModel" "s" "[I") (by decide +kernel)
  have k_fieldLink_RX12_59__KeyLettersModel___comesRow____I_ := hts (.fieldLink RX12 59 "KeyLettersModel" "comesRow" "[I") (by decide +kernel)
  have k_fieldLink_RX12_62__KeyLettersModel___comesMany___I_ := hts (.fieldLink RX12 62 "KeyLettersModel" "comesMany" "I") (by decide +kernel)
  have hl := lv_entry ([.ref (ra 0), .int a0]) (n := 7) (Nat.le_of_ble_eq_true rfl)
  rw [show entryFrame m args 7 = entryFrame m ([.ref (ra 0), .int a0] : List Value).toArray 7 from by rw [hav], lg_entry_eq]
  generalize (lg_sl ([.ref (ra 0), .int a0]) ++ List.replicate (7 - (lg_sl ([.ref (ra 0), .int a0])).length) Slot.unset).toArray = ls at hl ⊢
  have hl : lv_has ls 7 [(0, .ref (ra 0)), (1, .int a0)] := hl
  unfold f_X12_comes at hf
  have h_60 : ∀ (x2_60 : Int32) (M_60 : kD) (ls : Array Slot) (H : Heap) (locs : List Loc), lv_has ls 7 [(0, .ref (ra 0)), (2, .int x2_60)] → va_P (dC, dI) vwCl (mw cB cI cJ cZ ra M_60) H → va_D (mA ra s.heap.size) (mw cB cI cJ cZ ra M_60) → va_S (mA ra s.heap.size) s.heap H locs → g_X12_comes_60 x2_60 M_60 = some r → W p l e (headSpec wsX12_comes rm_X12_comes).room s m args below meth c H locs 0 0 (MQ below (mQi dC dI cB cI cJ cZ ra s.heap.size r) args s 0 0 (mA ra s.heap.size)) (F0 m 60 ls []) := by
    intro x2_60 M_60 ls H locs hl hP hD hS hf
    unfold g_X12_comes_60 at hf
    have h_99 := lp_ind (z := (fun _ _ _ _ _ => none)) (b := (g_X12_comes_99)) (fun (rc_99 : Int32 → Int32 → Int32 → Int32 → kD → Option (Int32 × kD)) => ∀ (x2_99 : Int32) (x3_99 : Int32) (x4_99 : Int32) (x5_99 : Int32) (M_99 : kD) (ls : Array Slot) (H : Heap) (locs : List Loc), lv_has ls 7 [(0, .ref (ra 0)), (2, .int x2_99), (3, .int x3_99), (4, .int x4_99), (5, .int x5_99)] → va_P (dC, dI) vwCl (mw cB cI cJ cZ ra M_99) H → va_D (mA ra s.heap.size) (mw cB cI cJ cZ ra M_99) → va_S (mA ra s.heap.size) s.heap H locs → rc_99 x2_99 x3_99 x4_99 x5_99 M_99 = some r → W p l e (headSpec wsX12_comes rm_X12_comes).room s m args below meth c H locs 0 0 (MQ below (mQi dC dI cB cI cJ cZ ra s.heap.size r) args s 0 0 (mA ra s.heap.size)) (F0 m 99 ls [])) (by
        intro x2_99 x3_99 x4_99 x5_99 M_99 ls H locs hl hP hD hS hf
        cases hf) (by
        intro rc_99 ih_99 x2_99 x3_99 x4_99 x5_99 M_99 ls H locs hl hP hD hS hf
        unfold g_X12_comes_99 at hf
        refine lv_iload hx hb dX12_comes_99 (lv_at hl 4 rfl) ?_
        refine lv_aload_n hx hb dX12_comes_101 rfl (lv_at hl 0 rfl) ?_
        refine km_get hx hb hts hin hown hK hP 25 (by decide) (v := .int (M_99.1 0 25)) k_fieldLink_RX12_62__KeyLettersModel___comesMany___I_ rfl dX12_comes_102 ?_
        refine lv_icmp_ge (tgt := 149) hx hb dX12_comes_105 (by decide) (fun hb8 => ?_) (fun hb8 => ?_)
        · have hf := (if_pos hb8).symm.trans hf
          refine lv_aload_n hx hb dX12_comes_149 rfl (lv_at hl 0 rfl) ?_
          refine km_get hx hb hts hin hown hK hP 25 (by decide) (v := .int (M_99.1 0 25)) k_fieldLink_RX12_62__KeyLettersModel___comesMany___I_ rfl dX12_comes_150 ?_
          have hf := Option.some.inj hf
          subst hf
          exact m_iret hx hb hr hlocks hP hK hD hS dX12_comes_153
        · have hf := (if_neg hb8).symm.trans hf
          refine lv_aload_n hx hb dX12_comes_108 rfl (lv_at hl 0 rfl) ?_
          refine lv_iload_n hx hb dX12_comes_109 rfl (lv_at hl 2 rfl) ?_
          refine lv_iload hx hb dX12_comes_110 (lv_at hl 3 rfl) ?_
          refine lv_iload_n hx hb dX12_comes_112 rfl (lv_at hl 1 rfl) ?_
          refine lv_iload hx hb dX12_comes_113 (lv_at hl 4 rfl) ?_
          refine lv_isub hx hb dX12_comes_115 ?_
          obtain ⟨v1, hq2, hf⟩ := bo_e hf
          refine ko_call (v := some (.int v1)) (km_run (As := [.int x3_99, .int x4_99, .int (x2_99 - x5_99)]) (rest := []) ⟨hx, hb, hml, hown, hts⟩ (c_X12_followBy l dC dI cB cI cJ cZ ra M_99 x3_99 x4_99 (x2_99 - x5_99) v1 hq2) (cwV 3 hts gX12_comes_X12_followBy rfl rfl rfl (by decide +kernel) ⟨Nat.le_of_ble_eq_true rfl, Nat.le_of_ble_eq_true rfl⟩) hK hP (fun _ _ _ _ => mPr_bl) (fun U hU hW => ⟨by rw [hU]; exact hP, va_K.moved hW.alike hK⟩) rfl rfl hl.1 rfl (lv_room (Nat.le_of_ble_eq_true rfl)) dX12_comes_116 ⟨Nat.le_refl _, Nat.le_refl _⟩) ?_
          refine lv_istore (nL := 7) (lv' := [(6, .int v1), (0, .ref (ra 0)), (2, .int x2_99), (3, .int x3_99), (4, .int x4_99), (5, .int x5_99)]) hx hb dX12_comes_119 hl (by decide) rfl (fun ls hl => ?_)
          refine lv_aload_n hx hb dX12_comes_121 rfl (lv_at hl 1 rfl) ?_
          refine km_get hx hb hts hin hown hK hP 24 (by decide) (v := .ref (ra 24)) k_fieldLink_RX12_59__KeyLettersModel___comesRow____I_ rfl dX12_comes_122 ?_
          refine lv_iload hx hb dX12_comes_125 (lv_at hl 5 rfl) ?_
          refine lv_iload hx hb dX12_comes_127 (lv_at hl 0 rfl) ?_
          obtain ⟨hc3, hf⟩ := ck_e hf
          obtain ⟨M4, eM4, hf⟩ := bd1_e hf
          refine va_iast hx hb hK hP hD hS 10 1 rfl rfl hc3 dX12_comes_129 (fun H locs hP hD hS => ?_)
          have hP : va_P (dC, dI) vwCl (mw cB cI cJ cZ ra M4) H := by rw [eM4, ← ma_24 cB cI cJ cZ ra M_99 x5_99.toNatClampNeg v1]; exact hP
          have hD : va_D (mA ra s.heap.size) (mw cB cI cJ cZ ra M4) := by rw [eM4, ← ma_24 cB cI cJ cZ ra M_99 x5_99.toNatClampNeg v1]; exact hD
          refine lv_iload hx hb dX12_comes_130 (lv_at hl 0 rfl) ?_
          refine lv_bipush (v := 8) hx hb dX12_comes_132 (by decide) ?_
          refine lv_idiv hx hb dX12_comes_134 (by decide) ?_
          obtain ⟨v5, ev5, hf⟩ := bd1_e hf
          refine kt_i ev5 ?_
          refine lv_istore_n (nL := 7) (lv' := [(3, .int v5), (6, .int v1), (0, .ref (ra 0)), (2, .int x2_99), (4, .int x4_99), (5, .int x5_99)]) hx hb dX12_comes_135 rfl hl (by decide) rfl (fun ls hl => ?_)
          refine lv_iload hx hb dX12_comes_136 (lv_at hl 1 rfl) ?_
          refine lv_bipush (v := 8) hx hb dX12_comes_138 (by decide) ?_
          refine lv_irem hx hb dX12_comes_140 (by decide) ?_
          obtain ⟨v6, ev6, hf⟩ := bd1_e hf
          refine kt_i ev6 ?_
          refine lv_istore (nL := 7) (lv' := [(4, .int v6), (3, .int v5), (6, .int v1), (0, .ref (ra 0)), (2, .int x2_99), (5, .int x5_99)]) hx hb dX12_comes_141 hl (by decide) rfl (fun ls hl => ?_)
          obtain ⟨v7, ev7, hf⟩ := bd1_e hf
          refine lv_iinc (k := 5) (x := x5_99) (v := v7) (nL := 7) (lv' := [(5, .int v7), (4, .int v6), (3, .int v5), (6, .int v1), (0, .ref (ra 0)), (2, .int x2_99)]) hx hb dX12_comes_143 hl rfl (kt_inc (w := 1) (by decide) ev7) (by decide) rfl (fun ls hl => ?_)
          refine lv_goto (tgt := 99) hx hb dX12_comes_146 (by decide) ?_
          exact ih_99 x2_99 v5 v6 v7 M4 ls _ _ (lv_sub hl [4, 5, 2, 1, 0] rfl) hP hD hS hf) 2000
    refine lv_iload_n hx hb dX12_comes_60 rfl (lv_at hl 1 rfl) ?_
    refine lv_bipush (v := 48) hx hb dX12_comes_61 (by decide) ?_
    refine lv_icmp_ne (tgt := 68) hx hb dX12_comes_63 (by decide) (fun hb12 => ?_) (fun hb12 => ?_)
    · have hf := (if_neg hb12).symm.trans hf
      refine lv_aload_n hx hb dX12_comes_68 rfl (lv_at hl 0 rfl) ?_
      refine lv_iload_n hx hb dX12_comes_69 rfl (lv_at hl 1 rfl) ?_
      refine lv_iconst (v := 1) hx hb dX12_comes_70 (by decide) ?_
      refine lv_iadd hx hb dX12_comes_71 ?_
      obtain ⟨M9, eM9, hf⟩ := bd1_e hf
      refine km_put hx hb hts hin hown hK hP hD hS 25 (by decide) k_fieldLink_RX12_62__KeyLettersModel___comesMany___I_ rfl (ty := .int) (v := .int (x2_60 + (1 : Int32))) (by decide +kernel) rfl rfl (M1 := M9) (by rw [eM9]; exact mo_25 cB cI cJ cZ ra M_60 (x2_60 + (1 : Int32))) dX12_comes_72 (fun H locs hP hD hS => ?_)
      refine lv_aload_n hx hb dX12_comes_75 rfl (lv_at hl 0 rfl) ?_
      refine km_get hx hb hts hin hown hK hP 6 (by decide) (v := .ref (ra 6)) k_fieldLink_RX12_33__KeyLettersModel___s____I_ rfl dX12_comes_76 ?_
      refine lv_bipush (v := 41) hx hb dX12_comes_79 (by decide) ?_
      refine va_iald hx hb hK hP 2 1 rfl rfl (show ¬ ((41 : Int32) < 0 ∨ 279 ≤ (41 : Int32).toNatClampNeg) by decide +kernel) dX12_comes_81 ?_
      refine lv_iconst (v := 1) hx hb dX12_comes_82 (by decide) ?_
      refine lv_isub hx hb dX12_comes_83 ?_
      obtain ⟨v10, ev10, hf⟩ := bd1_e hf
      refine kt_i ev10 ?_
      refine lv_istore_n (nL := 7) (lv' := [(3, .int v10), (0, .ref (ra 0)), (2, .int x2_60)]) hx hb dX12_comes_84 rfl hl (by decide) rfl (fun ls hl => ?_)
      refine lv_aload_n hx hb dX12_comes_85 rfl (lv_at hl 1 rfl) ?_
      refine km_get hx hb hts hin hown hK hP 6 (by decide) (v := .ref (ra 6)) k_fieldLink_RX12_33__KeyLettersModel___s____I_ rfl dX12_comes_86 ?_
      refine lv_bipush (v := 40) hx hb dX12_comes_89 (by decide) ?_
      refine va_iald hx hb hK hP 2 1 rfl rfl (show ¬ ((40 : Int32) < 0 ∨ 279 ≤ (40 : Int32).toNatClampNeg) by decide +kernel) dX12_comes_91 ?_
      refine lv_iconst (v := 1) hx hb dX12_comes_92 (by decide) ?_
      refine lv_isub hx hb dX12_comes_93 ?_
      obtain ⟨v11, ev11, hf⟩ := bd1_e hf
      refine kt_i ev11 ?_
      refine lv_istore (nL := 7) (lv' := [(4, .int v11), (3, .int v10), (0, .ref (ra 0)), (2, .int x2_60)]) hx hb dX12_comes_94 hl (by decide) rfl (fun ls hl => ?_)
      refine lv_iconst (v := 0) hx hb dX12_comes_96 (by decide) ?_
      refine lv_istore (nL := 7) (lv' := [(5, .int (0 : Int32)), (4, .int v11), (3, .int v10), (0, .ref (ra 0)), (2, .int x2_60)]) hx hb dX12_comes_97 hl (by decide) rfl (fun ls hl => ?_)
      exact h_99 x2_60 v10 v11 (0 : Int32) M9 ls _ _ (lv_sub hl [3, 4, 2, 1, 0] rfl) hP hD hS hf
    · have hf := (if_pos hb12).symm.trans hf
      refine lv_iconst (v := -1) hx hb dX12_comes_66 (by decide) ?_
      have hf := Option.some.inj hf
      subst hf
      exact m_iret hx hb hr hlocks hP hK hD hS dX12_comes_67
  have h_22 := lp_ind (z := (fun _ _ => none)) (b := (g_X12_comes_22)) (fun (rc_22 : Int32 → kD → Option (Int32 × kD)) => ∀ (x2_22 : Int32) (M_22 : kD) (ls : Array Slot) (H : Heap) (locs : List Loc), lv_has ls 7 [(0, .ref (ra 0)), (2, .int x2_22)] → va_P (dC, dI) vwCl (mw cB cI cJ cZ ra M_22) H → va_D (mA ra s.heap.size) (mw cB cI cJ cZ ra M_22) → va_S (mA ra s.heap.size) s.heap H locs → rc_22 x2_22 M_22 = some r → W p l e (headSpec wsX12_comes rm_X12_comes).room s m args below meth c H locs 0 0 (MQ below (mQi dC dI cB cI cJ cZ ra s.heap.size r) args s 0 0 (mA ra s.heap.size)) (F0 m 22 ls [])) (by
      intro x2_22 M_22 ls H locs hl hP hD hS hf
      cases hf) (by
      intro rc_22 ih_22 x2_22 M_22 ls H locs hl hP hD hS hf
      unfold g_X12_comes_22 at hf
      refine lv_iload_n hx hb dX12_comes_22 rfl (lv_at hl 1 rfl) ?_
      refine lv_bipush (v := 48) hx hb dX12_comes_23 (by decide) ?_
      refine lv_icmp_ge (tgt := 60) hx hb dX12_comes_25 (by decide) (fun hb17 => ?_) (fun hb17 => ?_)
      · have hf := (if_pos hb17).symm.trans hf
        exact h_60 x2_22 M_22 ls _ _ hl hP hD hS hf
      · have hf := (if_neg hb17).symm.trans hf
        refine lv_aload_n hx hb dX12_comes_28 rfl (lv_at hl 0 rfl) ?_
        refine lv_aload_n hx hb dX12_comes_29 rfl (lv_at hl 0 rfl) ?_
        refine km_get hx hb hts hin hown hK hP 6 (by decide) (v := .ref (ra 6)) k_fieldLink_RX12_33__KeyLettersModel___s____I_ rfl dX12_comes_30 ?_
        refine lv_bipush (v := 41) hx hb dX12_comes_33 (by decide) ?_
        refine va_iald hx hb hK hP 2 1 rfl rfl (show ¬ ((41 : Int32) < 0 ∨ 279 ≤ (41 : Int32).toNatClampNeg) by decide +kernel) dX12_comes_35 ?_
        refine lv_iconst (v := 1) hx hb dX12_comes_36 (by decide) ?_
        refine lv_isub hx hb dX12_comes_37 ?_
        refine lv_aload_n hx hb dX12_comes_38 rfl (lv_at hl 0 rfl) ?_
        refine km_get hx hb hts hin hown hK hP 6 (by decide) (v := .ref (ra 6)) k_fieldLink_RX12_33__KeyLettersModel___s____I_ rfl dX12_comes_39 ?_
        refine lv_bipush (v := 40) hx hb dX12_comes_42 (by decide) ?_
        refine va_iald hx hb hK hP 2 1 rfl rfl (show ¬ ((40 : Int32) < 0 ∨ 279 ≤ (40 : Int32).toNatClampNeg) by decide +kernel) dX12_comes_44 ?_
        refine lv_iconst (v := 1) hx hb dX12_comes_45 (by decide) ?_
        refine lv_isub hx hb dX12_comes_46 ?_
        refine lv_iload_n hx hb dX12_comes_47 rfl (lv_at hl 1 rfl) ?_
        obtain ⟨v13, hq14, hf⟩ := bo_e hf
        refine ko_call (v := some (.int v13)) (km_run (As := [.int ((M_22.1 6 (41 : Int32).toNatClampNeg) - (1 : Int32)), .int ((M_22.1 6 (40 : Int32).toNatClampNeg) - (1 : Int32)), .int x2_22]) (rest := []) ⟨hx, hb, hml, hown, hts⟩ (c_X12_followBy l dC dI cB cI cJ cZ ra M_22 ((M_22.1 6 (41 : Int32).toNatClampNeg) - (1 : Int32)) ((M_22.1 6 (40 : Int32).toNatClampNeg) - (1 : Int32)) x2_22 v13 hq14) (cwV 3 hts gX12_comes_X12_followBy rfl rfl rfl (by decide +kernel) ⟨Nat.le_of_ble_eq_true rfl, Nat.le_of_ble_eq_true rfl⟩) hK hP (fun _ _ _ _ => mPr_bl) (fun U hU hW => ⟨by rw [hU]; exact hP, va_K.moved hW.alike hK⟩) rfl rfl hl.1 rfl (lv_room (Nat.le_of_ble_eq_true rfl)) dX12_comes_48 ⟨Nat.le_refl _, Nat.le_refl _⟩) ?_
        refine lv_if_ge (tgt := 60) hx hb dX12_comes_51 (by decide) (fun hb16 => ?_) (fun hb16 => ?_)
        · have hf := (if_pos hb16).symm.trans hf
          exact h_60 x2_22 M_22 ls _ _ hl hP hD hS hf
        · have hf := (if_neg hb16).symm.trans hf
          obtain ⟨v15, ev15, hf⟩ := bd1_e hf
          refine lv_iinc (k := 1) (x := x2_22) (v := v15) (nL := 7) (lv' := [(2, .int v15), (0, .ref (ra 0))]) hx hb dX12_comes_54 hl rfl (kt_inc (w := 1) (by decide) ev15) (by decide) rfl (fun ls hl => ?_)
          refine lv_goto (tgt := 22) hx hb dX12_comes_57 (by decide) ?_
          exact ih_22 v15 M_22 ls _ _ (lv_sub hl [1, 0] rfl) hP hD hS hf) 2000
  refine lv_aload_n hx hb dX12_comes_0 rfl (lv_at hl 0 rfl) ?_
  refine lv_iconst (v := 0) hx hb dX12_comes_1 (by decide) ?_
  obtain ⟨M18, eM18, hf⟩ := bd1_e hf
  refine km_put hx hb hts hin hown hK hP hD hS 0 (by decide) k_fieldLink_RX12_1__KeyLettersModel___thrown___I_ rfl (ty := .int) (v := .int (0 : Int32)) (by decide +kernel) rfl rfl (M1 := M18) (by rw [eM18]; exact mo_0 cB cI cJ cZ ra M (0 : Int32)) dX12_comes_2 (fun H locs hP hD hS => ?_)
  refine lv_aload_n hx hb dX12_comes_5 rfl (lv_at hl 0 rfl) ?_
  refine lv_iload_n hx hb dX12_comes_6 rfl (lv_at hl 1 rfl) ?_
  obtain ⟨v19, hq20, hf⟩ := bo_e hf
  refine ko_call (v := some (.int v19)) (km_run (As := [.int a0]) (rest := []) ⟨hx, hb, hml, hown, hts⟩ (c_X12_isPhrase l dC dI cB cI cJ cZ ra M18 a0 v19 hq20) (cwV 1 hts gX12_comes_X12_isPhrase rfl rfl rfl (by decide +kernel) ⟨Nat.le_of_ble_eq_true rfl, Nat.le_of_ble_eq_true rfl⟩) hK hP (fun _ _ _ _ => mPr_bl) (fun U hU hW => ⟨by rw [hU]; exact hP, va_K.moved hW.alike hK⟩) rfl rfl hl.1 rfl (lv_room (Nat.le_of_ble_eq_true rfl)) dX12_comes_7 ⟨Nat.le_refl _, Nat.le_refl _⟩) ?_
  refine lv_if_ne (tgt := 15) hx hb dX12_comes_10 (by decide) (fun hb23 => ?_) (fun hb23 => ?_)
  · have hf := (if_neg hb23).symm.trans hf
    refine lv_aload_n hx hb dX12_comes_15 rfl (lv_at hl 0 rfl) ?_
    refine lv_iload_n hx hb dX12_comes_16 rfl (lv_at hl 1 rfl) ?_
    obtain ⟨M21, hq22, hf⟩ := bo_e hf
    refine km_callwv (M1 := M21) (km_run (As := [.int a0]) (rest := []) ⟨hx, hb, hml, hown, hts⟩ (c_X12_laysWants l dC dI cB cI cJ cZ ra _ M18 a0 M21 hq22) (cwV 1 hts gX12_comes_X12_laysWants rfl rfl rfl (by decide +kernel) ⟨Nat.le_of_ble_eq_true rfl, Nat.le_of_ble_eq_true rfl⟩) hK hP (fun _ _ _ _ => mPw_bl) (fun U hU hW => ⟨by rw [hU], by rw [hU]; exact hP, va_K.moved hW.alike hK, hD.weaken (fun _ _ _ _ => trivial)⟩) rfl rfl hl.1 rfl (lv_room (Nat.le_of_ble_eq_true rfl)) dX12_comes_17 ⟨Nat.le_refl _, Nat.le_refl _⟩) hD hS hA (fun H locs hP hD hS => ?_)
    refine lv_iconst (v := 0) hx hb dX12_comes_20 (by decide) ?_
    refine lv_istore_n (nL := 7) (lv' := [(2, .int (0 : Int32)), (0, .ref (ra 0)), (1, .int a0)]) hx hb dX12_comes_21 rfl hl (by decide) rfl (fun ls hl => ?_)
    exact h_22 (0 : Int32) M21 ls _ _ (lv_sub hl [1, 0] rfl) hP hD hS hf
  · have hf := (if_pos hb23).symm.trans hf
    refine lv_iconst (v := -1) hx hb dX12_comes_13 (by decide) ?_
    have hf := Option.some.inj hf
    subst hf
    exact m_iret hx hb hr hlocks hP hK hD hS dX12_comes_14

abbrev rm_X12_comesAt : Room := { frames := 1, cells := 0, slots := 0, locals := 22 }
set_option maxHeartbeats 4000000 in
set_option maxRecDepth 100000 in
theorem c_X12_comesAt (l : Launch) (dC : Nat → ClassId) (dI : Nat → Nat → Nat) (cB cI cJ cZ : ClassId) (ra : Nat → Nat) (sz : Nat) (M : kD) (a0 : Int32) (r : (Int32 × kD)) (hf : f_X12_comesAt a0 M = some r) : Met l yX12_comesAt wsX12_comesAt rm_X12_comesAt (va_Pc [.ref (ra 0), .int a0] (mPw dC dI cB cI cJ cZ ra sz M)) (mQi dC dI cB cI cJ cZ ra sz r) 0 0 (mA ra sz) := by
  refine Met.ofW (cc := cX12_comesAt) (maxL := 2) (ret := (some .int)) (by decide) rfl ?_
  intro p e s m args below meth c s₁ B hml hv
  obtain ⟨hav, hsz, hP, hK, hD0⟩ := hv
  have hx := B.exec
  have hb := B.bytes
  have hr := B.returns
  have hts := atoms_spec (ws := wsX12_comesAt) B.pre
  have hown : s.vm.findClass RX12 = some m.cls := findClass_of_methodNamed B.named
  have hlocks := B.notSynchronized
  subst hsz
  have hA : ∀ q, s.heap.size ≤ q → mA ra s.heap.size q := fun q h => Or.inr h
  have hD : va_D (mA ra s.heap.size) (mw cB cI cJ cZ ra M) := hD0.weaken (fun k q h _ => mA_in h)
  have hS : va_S (mA ra s.heap.size) s.heap s.heap [] := va_S.rf
  have hin : ∀ w ∈ wsX120, w ∈ wsX12_comesAt := fun w h => List.mem_cons_of_mem _ (List.mem_append_right _ h)
  have k_fieldLink_RX12_1__KeyLettersModel___thrown___I_ := hts (.fieldLink RX12 1 "KeyLettersModel" "thrown" "I") (by decide +kernel)
  have k_fieldLink_RX12_59__KeyLettersModel___comesRow____I_ := hts (.fieldLink RX12 59 "KeyLettersModel" "comesRow" "[I") (by decide +kernel)
  have k_fieldLink_RX12_62__KeyLettersModel___comesMany___I_ := hts (.fieldLink RX12 62 "KeyLettersModel" "comesMany" "I") (by decide +kernel)
  have hl := lv_entry ([.ref (ra 0), .int a0]) (n := 2) (Nat.le_of_ble_eq_true rfl)
  rw [show entryFrame m args 2 = entryFrame m ([.ref (ra 0), .int a0] : List Value).toArray 2 from by rw [hav], lg_entry_eq]
  generalize (lg_sl ([.ref (ra 0), .int a0]) ++ List.replicate (2 - (lg_sl ([.ref (ra 0), .int a0])).length) Slot.unset).toArray = ls at hl ⊢
  have hl : lv_has ls 2 [(0, .ref (ra 0)), (1, .int a0)] := hl
  unfold f_X12_comesAt at hf
  refine lv_aload_n hx hb dX12_comesAt_0 rfl (lv_at hl 0 rfl) ?_
  refine lv_iconst (v := 0) hx hb dX12_comesAt_1 (by decide) ?_
  obtain ⟨M1, eM1, hf⟩ := bd1_e hf
  refine km_put hx hb hts hin hown hK hP hD hS 0 (by decide) k_fieldLink_RX12_1__KeyLettersModel___thrown___I_ rfl (ty := .int) (v := .int (0 : Int32)) (by decide +kernel) rfl rfl (M1 := M1) (by rw [eM1]; exact mo_0 cB cI cJ cZ ra M (0 : Int32)) dX12_comesAt_2 (fun H locs hP hD hS => ?_)
  refine lv_iload_n hx hb dX12_comesAt_5 rfl (lv_at hl 1 rfl) ?_
  refine lv_iconst (v := 0) hx hb dX12_comesAt_6 (by decide) ?_
  refine lv_aload_n hx hb dX12_comesAt_7 rfl (lv_at hl 0 rfl) ?_
  refine km_get hx hb hts hin hown hK hP 25 (by decide) (v := .int (M1.1 0 25)) k_fieldLink_RX12_62__KeyLettersModel___comesMany___I_ rfl dX12_comesAt_8 ?_
  refine lv_iconst (v := 1) hx hb dX12_comesAt_11 (by decide) ?_
  refine lv_isub hx hb dX12_comesAt_12 ?_
  refine ko_call (v := some (.int (f_X12_isIn a0 (0 : Int32) ((M1.1 0 25) - (1 : Int32))))) (va_runS (As := [.int a0, .int (0 : Int32), .int ((M1.1 0 25) - (1 : Int32))]) (rest := []) ⟨hx, hb, hml, hown, hts⟩ (c_X12_isIn l a0 (0 : Int32) ((M1.1 0 25) - (1 : Int32)) _ rfl) (va_cwS 3 hts gX12_comesAt_X12_isIn rfl rfl rfl (by decide +kernel) ⟨Nat.le_of_ble_eq_true rfl, Nat.le_of_ble_eq_true rfl⟩) ⟨fun a U g mk q => q, fun U hU hW => ⟨rfl, trivial⟩⟩ rfl rfl hl.1 rfl (lv_room (Nat.le_of_ble_eq_true rfl)) dX12_comesAt_13 ⟨Nat.le_refl _, Nat.le_refl _⟩) ?_
  refine lv_if_eq (tgt := 28) hx hb dX12_comesAt_16 (by decide) (fun hb3 => ?_) (fun hb3 => ?_)
  · have hf := (if_pos hb3).symm.trans hf
    refine lv_iconst (v := -1) hx hb dX12_comesAt_28 (by decide) ?_
    have hf := Option.some.inj hf
    subst hf
    exact m_iret hx hb hr hlocks hP hK hD hS dX12_comesAt_29
  · have hf := (if_neg hb3).symm.trans hf
    refine lv_aload_n hx hb dX12_comesAt_19 rfl (lv_at hl 0 rfl) ?_
    refine km_get hx hb hts hin hown hK hP 24 (by decide) (v := .ref (ra 24)) k_fieldLink_RX12_59__KeyLettersModel___comesRow____I_ rfl dX12_comesAt_20 ?_
    refine lv_iload_n hx hb dX12_comesAt_23 rfl (lv_at hl 1 rfl) ?_
    obtain ⟨hc2, hf⟩ := ck_e hf
    refine va_iald hx hb hK hP 10 1 rfl rfl hc2 dX12_comesAt_24 ?_
    refine lv_goto (tgt := 29) hx hb dX12_comesAt_25 (by decide) ?_
    have hf := Option.some.inj hf
    subst hf
    exact m_iret hx hb hr hlocks hP hK hD hS dX12_comesAt_29

abbrev rm_X12_silent : Room := { frames := 5, cells := 0, slots := 0, locals := 114 }
set_option maxHeartbeats 4000000 in
set_option maxRecDepth 100000 in
theorem c_X12_silent (l : Launch) (dC : Nat → ClassId) (dI : Nat → Nat → Nat) (cB cI cJ cZ : ClassId) (ra : Nat → Nat) (sz : Nat) (M : kD)  (r : (Int32 × kD)) (hf : f_X12_silent  M = some r) : Met l yX12_silent wsX12_silent rm_X12_silent (va_Pc [.ref (ra 0)] (mPw dC dI cB cI cJ cZ ra sz M)) (mQi dC dI cB cI cJ cZ ra sz r) 0 0 (mA ra sz) := by
  refine Met.ofW (cc := cX12_silent) (maxL := 3) (ret := (some .int)) (by decide) rfl ?_
  intro p e s m args below meth c s₁ B hml hv
  obtain ⟨hav, hsz, hP, hK, hD0⟩ := hv
  have hx := B.exec
  have hb := B.bytes
  have hr := B.returns
  have hts := atoms_spec (ws := wsX12_silent) B.pre
  have hown : s.vm.findClass RX12 = some m.cls := findClass_of_methodNamed B.named
  have hlocks := B.notSynchronized
  subst hsz
  have hA : ∀ q, s.heap.size ≤ q → mA ra s.heap.size q := fun q h => Or.inr h
  have hD : va_D (mA ra s.heap.size) (mw cB cI cJ cZ ra M) := hD0.weaken (fun k q h _ => mA_in h)
  have hS : va_S (mA ra s.heap.size) s.heap s.heap [] := va_S.rf
  have hin : ∀ w ∈ wsX120, w ∈ wsX12_silent := fun w h => List.mem_cons_of_mem _ (List.mem_append_right _ h)
  have k_fieldLink_RX12_1__KeyLettersModel___thrown___I_ := hts (.fieldLink RX12 1 "KeyLettersModel" "thrown" "I") (by decide +kernel)
  have hl := lv_entry ([.ref (ra 0)]) (n := 3) (Nat.le_of_ble_eq_true rfl)
  rw [show entryFrame m args 3 = entryFrame m ([.ref (ra 0)] : List Value).toArray 3 from by rw [hav], lg_entry_eq]
  generalize (lg_sl ([.ref (ra 0)]) ++ List.replicate (3 - (lg_sl ([.ref (ra 0)])).length) Slot.unset).toArray = ls at hl ⊢
  have hl : lv_has ls 3 [(0, .ref (ra 0))] := hl
  unfold f_X12_silent at hf
  have h_38 : ∀ (x1_38 : Int32) (M_38 : kD) (ls : Array Slot) (H : Heap) (locs : List Loc), lv_has ls 3 [(0, .ref (ra 0)), (1, .int x1_38)] → va_P (dC, dI) vwCl (mw cB cI cJ cZ ra M_38) H → va_D (mA ra s.heap.size) (mw cB cI cJ cZ ra M_38) → va_S (mA ra s.heap.size) s.heap H locs → g_X12_silent_38 x1_38 M_38 = some r → W p l e (headSpec wsX12_silent rm_X12_silent).room s m args below meth c H locs 0 0 (MQ below (mQi dC dI cB cI cJ cZ ra s.heap.size r) args s 0 0 (mA ra s.heap.size)) (F0 m 38 ls []) := by
    intro x1_38 M_38 ls H locs hl hP hD hS hf
    unfold g_X12_silent_38 at hf
    refine lv_aload_n hx hb dX12_silent_38 rfl (lv_at hl 0 rfl) ?_
    obtain ⟨M1, hq2, hf⟩ := bo_e hf
    refine km_callwv (M1 := M1) (km_run (As := []) (rest := []) ⟨hx, hb, hml, hown, hts⟩ (c_X12_back l dC dI cB cI cJ cZ ra _ M_38  M1 hq2) (cwV 0 hts gX12_silent_X12_back rfl rfl rfl (by decide +kernel) ⟨Nat.le_of_ble_eq_true rfl, Nat.le_of_ble_eq_true rfl⟩) hK hP (fun _ _ _ _ => mPw_bl) (fun U hU hW => ⟨by rw [hU], by rw [hU]; exact hP, va_K.moved hW.alike hK, hD.weaken (fun _ _ _ _ => trivial)⟩) rfl rfl hl.1 rfl (lv_room (Nat.le_of_ble_eq_true rfl)) dX12_silent_39 ⟨Nat.le_refl _, Nat.le_refl _⟩) hD hS hA (fun H locs hP hD hS => ?_)
    refine lv_iload_n hx hb dX12_silent_42 rfl (lv_at hl 1 rfl) ?_
    have hf := Option.some.inj hf
    subst hf
    exact m_iret hx hb hr hlocks hP hK hD hS dX12_silent_43
  have h_13 := lp_ind (z := (fun _ _ _ => none)) (b := (g_X12_silent_13)) (fun (rc_13 : Int32 → Int32 → kD → Option (Int32 × kD)) => ∀ (x1_13 : Int32) (x2_13 : Int32) (M_13 : kD) (ls : Array Slot) (H : Heap) (locs : List Loc), lv_has ls 3 [(0, .ref (ra 0)), (1, .int x1_13), (2, .int x2_13)] → va_P (dC, dI) vwCl (mw cB cI cJ cZ ra M_13) H → va_D (mA ra s.heap.size) (mw cB cI cJ cZ ra M_13) → va_S (mA ra s.heap.size) s.heap H locs → rc_13 x1_13 x2_13 M_13 = some r → W p l e (headSpec wsX12_silent rm_X12_silent).room s m args below meth c H locs 0 0 (MQ below (mQi dC dI cB cI cJ cZ ra s.heap.size r) args s 0 0 (mA ra s.heap.size)) (F0 m 13 ls [])) (by
      intro x1_13 x2_13 M_13 ls H locs hl hP hD hS hf
      cases hf) (by
      intro rc_13 ih_13 x1_13 x2_13 M_13 ls H locs hl hP hD hS hf
      unfold g_X12_silent_13 at hf
      have h_32 : ∀ (x1_32 : Int32) (x2_32 : Int32) (M_32 : kD) (ls : Array Slot) (H : Heap) (locs : List Loc), lv_has ls 3 [(0, .ref (ra 0)), (1, .int x1_32), (2, .int x2_32)] → va_P (dC, dI) vwCl (mw cB cI cJ cZ ra M_32) H → va_D (mA ra s.heap.size) (mw cB cI cJ cZ ra M_32) → va_S (mA ra s.heap.size) s.heap H locs → g_X12_silent_32 rc_13 x1_32 x2_32 M_32 = some r → W p l e (headSpec wsX12_silent rm_X12_silent).room s m args below meth c H locs 0 0 (MQ below (mQi dC dI cB cI cJ cZ ra s.heap.size r) args s 0 0 (mA ra s.heap.size)) (F0 m 32 ls []) := by
        intro x1_32 x2_32 M_32 ls H locs hl hP hD hS hf
        unfold g_X12_silent_32 at hf
        obtain ⟨v3, ev3, hf⟩ := bd1_e hf
        refine lv_iinc (k := 2) (x := x2_32) (v := v3) (nL := 3) (lv' := [(2, .int v3), (0, .ref (ra 0)), (1, .int x1_32)]) hx hb dX12_silent_32 hl rfl (kt_inc (w := 1) (by decide) ev3) (by decide) rfl (fun ls hl => ?_)
        refine lv_goto (tgt := 13) hx hb dX12_silent_35 (by decide) ?_
        exact ih_13 x1_32 v3 M_32 ls _ _ (lv_sub hl [1, 2, 0] rfl) hP hD hS hf
      refine lv_iload_n hx hb dX12_silent_13 rfl (lv_at hl 2 rfl) ?_
      refine lv_bipush (v := 99) hx hb dX12_silent_14 (by decide) ?_
      refine lv_icmp_gt (tgt := 38) hx hb dX12_silent_16 (by decide) (fun hb9 => ?_) (fun hb9 => ?_)
      · have hf := (if_pos hb9).symm.trans hf
        exact h_38 x1_13 M_13 ls _ _ (lv_sub hl [0, 1] rfl) hP hD hS hf
      · have hf := (if_neg hb9).symm.trans hf
        refine lv_iload_n hx hb dX12_silent_19 rfl (lv_at hl 1 rfl) ?_
        refine lv_if_ge (tgt := 38) hx hb dX12_silent_20 (by decide) (fun hb8 => ?_) (fun hb8 => ?_)
        · have hf := (if_pos hb8).symm.trans hf
          exact h_38 x1_13 M_13 ls _ _ (lv_sub hl [0, 1] rfl) hP hD hS hf
        · have hf := (if_neg hb8).symm.trans hf
          refine lv_aload_n hx hb dX12_silent_23 rfl (lv_at hl 0 rfl) ?_
          obtain ⟨v5, M4, hq6, hf⟩ := bo2_e hf
          refine km_callw (v := v5) (M1 := M4) rfl (km_run (As := []) (rest := []) ⟨hx, hb, hml, hown, hts⟩ (c_X12_day l dC dI cB cI cJ cZ ra _ M_13  (v5, M4) hq6) (cwV 0 hts gX12_silent_X12_day rfl rfl rfl (by decide +kernel) ⟨Nat.le_of_ble_eq_true rfl, Nat.le_of_ble_eq_true rfl⟩) hK hP (fun _ _ _ _ => mPw_bl) (fun U hU hW => ⟨by rw [hU], by rw [hU]; exact hP, va_K.moved hW.alike hK, hD.weaken (fun _ _ _ _ => trivial)⟩) rfl rfl hl.1 rfl (lv_room (Nat.le_of_ble_eq_true rfl)) dX12_silent_24 ⟨Nat.le_refl _, Nat.le_refl _⟩) hD hS hA (fun H locs hP hD hS => ?_)
          refine lv_if_ne (tgt := 32) hx hb dX12_silent_27 (by decide) (fun hb7 => ?_) (fun hb7 => ?_)
          · have hf := (if_neg hb7).symm.trans hf
            exact h_32 x1_13 x2_13 M4 ls _ _ hl hP hD hS hf
          · have hf := (if_pos hb7).symm.trans hf
            refine lv_iload_n hx hb dX12_silent_30 rfl (lv_at hl 2 rfl) ?_
            refine lv_istore_n (nL := 3) (lv' := [(1, .int x2_13), (0, .ref (ra 0)), (2, .int x2_13)]) hx hb dX12_silent_31 rfl hl (by decide) rfl (fun ls hl => ?_)
            exact h_32 x2_13 x2_13 M4 ls _ _ (lv_sub hl [1, 0, 2] rfl) hP hD hS hf) 2000
  refine lv_aload_n hx hb dX12_silent_0 rfl (lv_at hl 0 rfl) ?_
  refine lv_iconst (v := 0) hx hb dX12_silent_1 (by decide) ?_
  obtain ⟨M10, eM10, hf⟩ := bd1_e hf
  refine km_put hx hb hts hin hown hK hP hD hS 0 (by decide) k_fieldLink_RX12_1__KeyLettersModel___thrown___I_ rfl (ty := .int) (v := .int (0 : Int32)) (by decide +kernel) rfl rfl (M1 := M10) (by rw [eM10]; exact mo_0 cB cI cJ cZ ra M (0 : Int32)) dX12_silent_2 (fun H locs hP hD hS => ?_)
  refine lv_aload_n hx hb dX12_silent_5 rfl (lv_at hl 0 rfl) ?_
  obtain ⟨M11, hq12, hf⟩ := bo_e hf
  refine km_callwv (M1 := M11) (km_run (As := []) (rest := []) ⟨hx, hb, hml, hown, hts⟩ (c_X12_tries l dC dI cB cI cJ cZ ra _ M10  M11 hq12) (cwV 0 hts gX12_silent_X12_tries rfl rfl rfl (by decide +kernel) ⟨Nat.le_of_ble_eq_true rfl, Nat.le_of_ble_eq_true rfl⟩) hK hP (fun _ _ _ _ => mPw_bl) (fun U hU hW => ⟨by rw [hU], by rw [hU]; exact hP, va_K.moved hW.alike hK, hD.weaken (fun _ _ _ _ => trivial)⟩) rfl rfl hl.1 rfl (lv_room (Nat.le_of_ble_eq_true rfl)) dX12_silent_6 ⟨Nat.le_refl _, Nat.le_refl _⟩) hD hS hA (fun H locs hP hD hS => ?_)
  refine lv_iconst (v := -1) hx hb dX12_silent_9 (by decide) ?_
  refine lv_istore_n (nL := 3) (lv' := [(1, .int (-1 : Int32)), (0, .ref (ra 0))]) hx hb dX12_silent_10 rfl hl (by decide) rfl (fun ls hl => ?_)
  refine lv_iconst (v := 1) hx hb dX12_silent_11 (by decide) ?_
  refine lv_istore_n (nL := 3) (lv' := [(2, .int (1 : Int32)), (1, .int (-1 : Int32)), (0, .ref (ra 0))]) hx hb dX12_silent_12 rfl hl (by decide) rfl (fun ls hl => ?_)
  exact h_13 (-1 : Int32) (1 : Int32) M11 ls _ _ (lv_sub hl [2, 1, 0] rfl) hP hD hS hf

abbrev rm_X12_isRow : Room := { frames := 2, cells := 0, slots := 0, locals := 43 }
set_option maxHeartbeats 4000000 in
set_option maxRecDepth 100000 in
theorem c_X12_isRow (l : Launch) (dC : Nat → ClassId) (dI : Nat → Nat → Nat) (cB cI cJ cZ : ClassId) (ra : Nat → Nat) (M : kD)  (r : Int32) (hf : f_X12_isRow  M = some r) : Met l yX12_isRow wsX12_isRow rm_X12_isRow (va_Pc [.ref (ra 0)] (mPr dC dI cB cI cJ cZ ra M)) (kQ (some (.int r))) 0 0 (kF) := by
  refine Met.ofW (cc := cX12_isRow) (maxL := 3) (ret := (some .boolean)) (by decide) rfl ?_
  intro p e s m args below meth c s₁ B hml hv
  obtain ⟨hav, hP, hK⟩ := hv
  have hx := B.exec
  have hb := B.bytes
  have hr := B.returns
  have hts := atoms_spec (ws := wsX12_isRow) B.pre
  have hown : s.vm.findClass RX12 = some m.cls := findClass_of_methodNamed B.named
  have hlocks := B.notSynchronized
  have hin : ∀ w ∈ wsX120, w ∈ wsX12_isRow := fun w h => List.mem_cons_of_mem _ (List.mem_append_right _ h)
  have k_fieldLink_RX12_18__KeyLettersModel___size___I_ := hts (.fieldLink RX12 18 "KeyLettersModel" "size" "I") (by decide +kernel)
  have hl := lv_entry ([.ref (ra 0)]) (n := 3) (Nat.le_of_ble_eq_true rfl)
  rw [show entryFrame m args 3 = entryFrame m ([.ref (ra 0)] : List Value).toArray 3 from by rw [hav], lg_entry_eq]
  generalize (lg_sl ([.ref (ra 0)]) ++ List.replicate (3 - (lg_sl ([.ref (ra 0)])).length) Slot.unset).toArray = ls at hl ⊢
  have hl : lv_has ls 3 [(0, .ref (ra 0))] := hl
  unfold f_X12_isRow at hf
  have h_13 := lp_ind (z := (fun _ _ => none)) (b := (g_X12_isRow_13 M)) (fun (rc_13 : Int32 → Int32 → Option Int32) => ∀ (x1_13 : Int32) (x2_13 : Int32) (ls : Array Slot), lv_has ls 3 [(0, .ref (ra 0)), (1, .int x1_13), (2, .int x2_13)] → rc_13 x1_13 x2_13 = some r → W p l e (headSpec wsX12_isRow rm_X12_isRow).room s m args below meth c s.heap [] 0 0 (MQ below (kQ (some (.int r))) args s 0 0 (kF)) (F0 m 13 ls [])) (by
      intro x1_13 x2_13 ls hl hf
      cases hf) (by
      intro rc_13 ih_13 x1_13 x2_13 ls hl hf
      unfold g_X12_isRow_13 at hf
      refine lv_iload_n hx hb dX12_isRow_13 rfl (lv_at hl 2 rfl) ?_
      refine lv_aload_n hx hb dX12_isRow_14 rfl (lv_at hl 0 rfl) ?_
      refine km_get hx hb hts hin hown hK hP 3 (by decide) (v := .int (M.1 0 3)) k_fieldLink_RX12_18__KeyLettersModel___size___I_ rfl dX12_isRow_15 ?_
      refine lv_icmp_ge (tgt := 41) hx hb dX12_isRow_18 (by decide) (fun hb9 => ?_) (fun hb9 => ?_)
      · have hf := (if_pos hb9).symm.trans hf
        refine lv_iload_n hx hb dX12_isRow_41 rfl (lv_at hl 1 rfl) ?_
        obtain ⟨hz1, hf⟩ := ck_e hf
        have hf := Option.some.inj hf
        subst hf
        exact W.zret (v := x1_13) (ty := .boolean) hx hb hr (kt_z (Decidable.not_not.mp hz1)) (fun t ht hW => ⟨rfl, ht⟩) (fun _ h => nomatch h) dX12_isRow_42
      · have hf := (if_neg hb9).symm.trans hf
        refine lv_iload_n hx hb dX12_isRow_21 rfl (lv_at hl 1 rfl) ?_
        refine lv_if_eq (tgt := 41) hx hb dX12_isRow_22 (by decide) (fun hb8 => ?_) (fun hb8 => ?_)
        · have hf := (if_pos hb8).symm.trans hf
          refine lv_iload_n hx hb dX12_isRow_41 rfl (lv_at hl 1 rfl) ?_
          obtain ⟨hz2, hf⟩ := ck_e hf
          have hf := Option.some.inj hf
          subst hf
          exact W.zret (v := x1_13) (ty := .boolean) hx hb hr (kt_z (Decidable.not_not.mp hz2)) (fun t ht hW => ⟨rfl, ht⟩) (fun _ h => nomatch h) dX12_isRow_42
        · have hf := (if_neg hb8).symm.trans hf
          refine lv_aload_n hx hb dX12_isRow_25 rfl (lv_at hl 0 rfl) ?_
          refine lv_aload_n hx hb dX12_isRow_26 rfl (lv_at hl 0 rfl) ?_
          refine lv_iload_n hx hb dX12_isRow_27 rfl (lv_at hl 2 rfl) ?_
          obtain ⟨v3, hq4, hf⟩ := bo_e hf
          refine ko_call (v := some (.int v3)) (km_run (As := [.int x2_13]) (rest := [.ref (ra 0)]) ⟨hx, hb, hml, hown, hts⟩ (c_X12_octet l dC dI cB cI cJ cZ ra M x2_13 v3 hq4) (cwV 1 hts gX12_isRow_X12_octet rfl rfl rfl (by decide +kernel) ⟨Nat.le_of_ble_eq_true rfl, Nat.le_of_ble_eq_true rfl⟩) hK hP (fun _ _ _ _ => mPr_bl) (fun U hU hW => ⟨by rw [hU]; exact hP, va_K.moved hW.alike hK⟩) rfl rfl hl.1 rfl (lv_room (Nat.le_of_ble_eq_true rfl)) dX12_isRow_28 ⟨Nat.le_refl _, Nat.le_refl _⟩) ?_
          obtain ⟨v5, hq6, hf⟩ := bo_e hf
          refine ko_call (v := some (.int v5)) (km_run (As := [.int v3]) (rest := []) ⟨hx, hb, hml, hown, hts⟩ (c_X12_isPhrase l dC dI cB cI cJ cZ ra M v3 v5 hq6) (cwV 1 hts gX12_isRow_X12_isPhrase rfl rfl rfl (by decide +kernel) ⟨Nat.le_of_ble_eq_true rfl, Nat.le_of_ble_eq_true rfl⟩) hK hP (fun _ _ _ _ => mPr_bl) (fun U hU hW => ⟨by rw [hU]; exact hP, va_K.moved hW.alike hK⟩) rfl rfl hl.1 rfl (lv_room (Nat.le_of_ble_eq_true rfl)) dX12_isRow_31 ⟨Nat.le_refl _, Nat.le_refl _⟩) ?_
          refine lv_istore_n (nL := 3) (lv' := [(1, .int v5), (0, .ref (ra 0)), (2, .int x2_13)]) hx hb dX12_isRow_34 rfl hl (by decide) rfl (fun ls hl => ?_)
          obtain ⟨v7, ev7, hf⟩ := bd1_e hf
          refine lv_iinc (k := 2) (x := x2_13) (v := v7) (nL := 3) (lv' := [(2, .int v7), (1, .int v5), (0, .ref (ra 0))]) hx hb dX12_isRow_35 hl rfl (kt_inc (w := 1) (by decide) ev7) (by decide) rfl (fun ls hl => ?_)
          refine lv_goto (tgt := 13) hx hb dX12_isRow_38 (by decide) ?_
          exact ih_13 v5 v7 ls (lv_sub hl [2, 1, 0] rfl) hf) 2000
  refine lv_aload_n hx hb dX12_isRow_0 rfl (lv_at hl 0 rfl) ?_
  refine km_get hx hb hts hin hown hK hP 3 (by decide) (v := .int (M.1 0 3)) k_fieldLink_RX12_18__KeyLettersModel___size___I_ rfl dX12_isRow_1 ?_
  refine lv_iconst (v := 1) hx hb dX12_isRow_4 (by decide) ?_
  refine lv_bipush (v := 9) hx hb dX12_isRow_5 (by decide) ?_
  refine ko_call (v := some (.int (f_X12_isIn (M.1 0 3) (1 : Int32) (9 : Int32)))) (va_runS (As := [.int (M.1 0 3), .int (1 : Int32), .int (9 : Int32)]) (rest := []) ⟨hx, hb, hml, hown, hts⟩ (c_X12_isIn l (M.1 0 3) (1 : Int32) (9 : Int32) _ rfl) (va_cwS 3 hts gX12_isRow_X12_isIn rfl rfl rfl (by decide +kernel) ⟨Nat.le_of_ble_eq_true rfl, Nat.le_of_ble_eq_true rfl⟩) ⟨fun a U g mk q => q, fun U hU hW => ⟨rfl, trivial⟩⟩ rfl rfl hl.1 rfl (lv_room (Nat.le_of_ble_eq_true rfl)) dX12_isRow_7 ⟨Nat.le_refl _, Nat.le_refl _⟩) ?_
  obtain ⟨v10, ev10, hf⟩ := bd1_e hf
  refine kt_i ev10 ?_
  refine lv_istore_n (nL := 3) (lv' := [(1, .int v10), (0, .ref (ra 0))]) hx hb dX12_isRow_10 rfl hl (by decide) rfl (fun ls hl => ?_)
  refine lv_iconst (v := 0) hx hb dX12_isRow_11 (by decide) ?_
  refine lv_istore_n (nL := 3) (lv' := [(2, .int (0 : Int32)), (1, .int v10), (0, .ref (ra 0))]) hx hb dX12_isRow_12 rfl hl (by decide) rfl (fun ls hl => ?_)
  exact h_13 v10 (0 : Int32) ls (lv_sub hl [2, 1, 0] rfl) hf

abbrev rm_X12_isWriter : Room := { frames := 1, cells := 0, slots := 0, locals := 21 }
set_option maxHeartbeats 4000000 in
set_option maxRecDepth 100000 in
theorem c_X12_isWriter (l : Launch) (dC : Nat → ClassId) (dI : Nat → Nat → Nat) (cB cI cJ cZ : ClassId) (ra : Nat → Nat) (M : kD) (a0 : Int32) (a1 : Int32) (r : Int32) (hf : f_X12_isWriter a0 a1 M = some r) : Met l yX12_isWriter wsX12_isWriter rm_X12_isWriter (va_Pc [.ref (ra 0), .int a0, .int a1] (mPr dC dI cB cI cJ cZ ra M)) (kQ (some (.int r))) 0 0 (kF) := by
  refine Met.ofW (cc := cX12_isWriter) (maxL := 3) (ret := (some .boolean)) (by decide) rfl ?_
  intro p e s m args below meth c s₁ B hml hv
  obtain ⟨hav, hP, hK⟩ := hv
  have hx := B.exec
  have hb := B.bytes
  have hr := B.returns
  have hts := atoms_spec (ws := wsX12_isWriter) B.pre
  have hown : s.vm.findClass RX12 = some m.cls := findClass_of_methodNamed B.named
  have hlocks := B.notSynchronized
  have hin : ∀ w ∈ wsX120, w ∈ wsX12_isWriter := fun w h => List.mem_cons_of_mem _ (List.mem_append_right _ h)
  have k_fieldLink_RX12_33__KeyLettersModel___s____I_ := hts (.fieldLink RX12 33 "KeyLettersModel" "s" "[I") (by decide +kernel)
  have hl := lv_entry ([.ref (ra 0), .int a0, .int a1]) (n := 3) (Nat.le_of_ble_eq_true rfl)
  rw [show entryFrame m args 3 = entryFrame m ([.ref (ra 0), .int a0, .int a1] : List Value).toArray 3 from by rw [hav], lg_entry_eq]
  generalize (lg_sl ([.ref (ra 0), .int a0, .int a1]) ++ List.replicate (3 - (lg_sl ([.ref (ra 0), .int a0, .int a1])).length) Slot.unset).toArray = ls at hl ⊢
  have hl : lv_has ls 3 [(0, .ref (ra 0)), (1, .int a0), (2, .int a1)] := hl
  unfold f_X12_isWriter at hf
  refine lv_aload_n hx hb dX12_isWriter_0 rfl (lv_at hl 0 rfl) ?_
  refine km_get hx hb hts hin hown hK hP 6 (by decide) (v := .ref (ra 6)) k_fieldLink_RX12_33__KeyLettersModel___s____I_ rfl dX12_isWriter_1 ?_
  refine lv_bipush (v := 9) hx hb dX12_isWriter_4 (by decide) ?_
  refine lv_iload_n hx hb dX12_isWriter_6 rfl (lv_at hl 1 rfl) ?_
  refine lv_iadd hx hb dX12_isWriter_7 ?_
  obtain ⟨v1, ev1, hf⟩ := bd1_e hf
  refine kt_i ev1 ?_
  obtain ⟨hc2, hf⟩ := ck_e hf
  refine va_iald hx hb hK hP 2 1 rfl rfl hc2 dX12_isWriter_8 ?_
  refine lv_aload_n hx hb dX12_isWriter_9 rfl (lv_at hl 0 rfl) ?_
  refine lv_iload_n hx hb dX12_isWriter_10 rfl (lv_at hl 2 rfl) ?_
  obtain ⟨v3, hq4, hf⟩ := bo_e hf
  refine ko_call (v := some (.int v3)) (km_run (As := [.int a1]) (rest := [.int (M.1 6 v1.toNatClampNeg)]) ⟨hx, hb, hml, hown, hts⟩ (c_X12_octet l dC dI cB cI cJ cZ ra M a1 v3 hq4) (cwV 1 hts gX12_isWriter_X12_octet rfl rfl rfl (by decide +kernel) ⟨Nat.le_of_ble_eq_true rfl, Nat.le_of_ble_eq_true rfl⟩) hK hP (fun _ _ _ _ => mPr_bl) (fun U hU hW => ⟨by rw [hU]; exact hP, va_K.moved hW.alike hK⟩) rfl rfl hl.1 rfl (lv_room (Nat.le_of_ble_eq_true rfl)) dX12_isWriter_11 ⟨Nat.le_refl _, Nat.le_refl _⟩) ?_
  refine ko_call (v := some (.int (f_X12_bitOf (M.1 6 v1.toNatClampNeg) v3))) (va_runS (As := [.int (M.1 6 v1.toNatClampNeg), .int v3]) (rest := []) ⟨hx, hb, hml, hown, hts⟩ (c_X12_bitOf l (M.1 6 v1.toNatClampNeg) v3 _ rfl) (va_cwS 2 hts gX12_isWriter_X12_bitOf rfl rfl rfl (by decide +kernel) ⟨Nat.le_of_ble_eq_true rfl, Nat.le_of_ble_eq_true rfl⟩) ⟨fun a U g mk q => q, fun U hU hW => ⟨rfl, trivial⟩⟩ rfl rfl hl.1 rfl (lv_room (Nat.le_of_ble_eq_true rfl)) dX12_isWriter_14 ⟨Nat.le_refl _, Nat.le_refl _⟩) ?_
  have hf := Option.some.inj hf
  subst hf
  exact W.zret (v := (f_X12_bitOf (M.1 6 v1.toNatClampNeg) v3)) (ty := .boolean) hx hb hr (kt_z (z_X12_bitOf (M.1 6 v1.toNatClampNeg) v3)) (fun t ht hW => ⟨rfl, ht⟩) (fun _ h => nomatch h) dX12_isWriter_17

abbrev rm_X12_laysWays : Room := { frames := 2, cells := 0, slots := 0, locals := 43 }
set_option maxHeartbeats 4000000 in
set_option maxRecDepth 100000 in
theorem c_X12_laysWays (l : Launch) (dC : Nat → ClassId) (dI : Nat → Nat → Nat) (cB cI cJ cZ : ClassId) (ra : Nat → Nat) (sz : Nat) (M : kD)  (r : kD) (hf : f_X12_laysWays  M = some r) : Met l yX12_laysWays wsX12_laysWays rm_X12_laysWays (va_Pc [.ref (ra 0)] (mPw dC dI cB cI cJ cZ ra sz M)) (mQv dC dI cB cI cJ cZ ra sz r) 0 0 (mA ra sz) := by
  refine Met.ofW (cc := cX12_laysWays) (maxL := 5) (ret := none) (by decide) rfl ?_
  intro p e s m args below meth c s₁ B hml hv
  obtain ⟨hav, hsz, hP, hK, hD0⟩ := hv
  have hx := B.exec
  have hb := B.bytes
  have hr := B.returns
  have hts := atoms_spec (ws := wsX12_laysWays) B.pre
  have hown : s.vm.findClass RX12 = some m.cls := findClass_of_methodNamed B.named
  have hlocks := B.notSynchronized
  subst hsz
  have hA : ∀ q, s.heap.size ≤ q → mA ra s.heap.size q := fun q h => Or.inr h
  have hD : va_D (mA ra s.heap.size) (mw cB cI cJ cZ ra M) := hD0.weaken (fun k q h _ => mA_in h)
  have hS : va_S (mA ra s.heap.size) s.heap s.heap [] := va_S.rf
  have hin : ∀ w ∈ wsX120, w ∈ wsX12_laysWays := fun w h => List.mem_cons_of_mem _ (List.mem_append_right _ h)
  have k_fieldLink_RX12_18__KeyLettersModel___size___I_ := hts (.fieldLink RX12 18 "KeyLettersModel" "size" "I") (by decide +kernel)
  have k_fieldLink_RX12_33__KeyLettersModel___s____I_ := hts (.fieldLink RX12 33 "KeyLettersModel" "s" "[I") (by decide +kernel)
  have k_fieldLink_RX12_65__KeyLettersModel___ahead____I_ := hts (.fieldLink RX12 65 "KeyLettersModel" "ahead" "[I") (by decide +kernel)
  have k_fieldLink_RX12_68__KeyLettersModel___behind____I_ := hts (.fieldLink RX12 68 "KeyLettersModel" "behind" "[I") (by decide +kernel)
  have hl := lv_entry ([.ref (ra 0)]) (n := 5) (Nat.le_of_ble_eq_true rfl)
  rw [show entryFrame m args 5 = entryFrame m ([.ref (ra 0)] : List Value).toArray 5 from by rw [hav], lg_entry_eq]
  generalize (lg_sl ([.ref (ra 0)]) ++ List.replicate (5 - (lg_sl ([.ref (ra 0)])).length) Slot.unset).toArray = ls at hl ⊢
  have hl : lv_has ls 5 [(0, .ref (ra 0))] := hl
  unfold f_X12_laysWays at hf
  have h_120 : ∀ (M_120 : kD) (ls : Array Slot) (H : Heap) (locs : List Loc), lv_has ls 5 [(0, .ref (ra 0))] → va_P (dC, dI) vwCl (mw cB cI cJ cZ ra M_120) H → va_D (mA ra s.heap.size) (mw cB cI cJ cZ ra M_120) → va_S (mA ra s.heap.size) s.heap H locs → g_X12_laysWays_120  M_120 = some r → W p l e (headSpec wsX12_laysWays rm_X12_laysWays).room s m args below meth c H locs 0 0 (MQ below (mQv dC dI cB cI cJ cZ ra s.heap.size r) args s 0 0 (mA ra s.heap.size)) (F0 m 120 ls []) := by
    intro  M_120 ls H locs hl hP hD hS hf
    unfold g_X12_laysWays_120 at hf
    have h_127 := lp_ind (z := (fun _ _ => none)) (b := (g_X12_laysWays_127)) (fun (rc_127 : Int32 → kD → Option kD) => ∀ (x1_127 : Int32) (M_127 : kD) (ls : Array Slot) (H : Heap) (locs : List Loc), lv_has ls 5 [(0, .ref (ra 0)), (1, .int x1_127)] → va_P (dC, dI) vwCl (mw cB cI cJ cZ ra M_127) H → va_D (mA ra s.heap.size) (mw cB cI cJ cZ ra M_127) → va_S (mA ra s.heap.size) s.heap H locs → rc_127 x1_127 M_127 = some r → W p l e (headSpec wsX12_laysWays rm_X12_laysWays).room s m args below meth c H locs 0 0 (MQ below (mQv dC dI cB cI cJ cZ ra s.heap.size r) args s 0 0 (mA ra s.heap.size)) (F0 m 127 ls [])) (by
        intro x1_127 M_127 ls H locs hl hP hD hS hf
        cases hf) (by
        intro rc_127 ih_127 x1_127 M_127 ls H locs hl hP hD hS hf
        unfold g_X12_laysWays_127 at hf
        have h_247 : ∀ (x1_247 : Int32) (M_247 : kD) (ls : Array Slot) (H : Heap) (locs : List Loc), lv_has ls 5 [(0, .ref (ra 0)), (1, .int x1_247)] → va_P (dC, dI) vwCl (mw cB cI cJ cZ ra M_247) H → va_D (mA ra s.heap.size) (mw cB cI cJ cZ ra M_247) → va_S (mA ra s.heap.size) s.heap H locs → g_X12_laysWays_247 rc_127 x1_247 M_247 = some r → W p l e (headSpec wsX12_laysWays rm_X12_laysWays).room s m args below meth c H locs 0 0 (MQ below (mQv dC dI cB cI cJ cZ ra s.heap.size r) args s 0 0 (mA ra s.heap.size)) (F0 m 247 ls []) := by
          intro x1_247 M_247 ls H locs hl hP hD hS hf
          unfold g_X12_laysWays_247 at hf
          obtain ⟨v1, ev1, hf⟩ := bd1_e hf
          refine lv_iinc (k := 1) (x := x1_247) (v := v1) (nL := 5) (lv' := [(1, .int v1), (0, .ref (ra 0))]) hx hb dX12_laysWays_247 hl rfl (kt_inc (w := (-1)) (by decide) ev1) (by decide) rfl (fun ls hl => ?_)
          refine lv_goto (tgt := 127) hx hb dX12_laysWays_250 (by decide) ?_
          exact ih_127 v1 M_247 ls _ _ (lv_sub hl [1, 0] rfl) hP hD hS hf
        have h_133 := lp_ind (z := (fun _ _ _ => none)) (b := (g_X12_laysWays_133 rc_127)) (fun (rc_133 : Int32 → Int32 → kD → Option kD) => ∀ (x1_133 : Int32) (x2_133 : Int32) (M_133 : kD) (ls : Array Slot) (H : Heap) (locs : List Loc), lv_has ls 5 [(0, .ref (ra 0)), (1, .int x1_133), (2, .int x2_133)] → va_P (dC, dI) vwCl (mw cB cI cJ cZ ra M_133) H → va_D (mA ra s.heap.size) (mw cB cI cJ cZ ra M_133) → va_S (mA ra s.heap.size) s.heap H locs → rc_133 x1_133 x2_133 M_133 = some r → W p l e (headSpec wsX12_laysWays rm_X12_laysWays).room s m args below meth c H locs 0 0 (MQ below (mQv dC dI cB cI cJ cZ ra s.heap.size r) args s 0 0 (mA ra s.heap.size)) (F0 m 133 ls [])) (by
            intro x1_133 x2_133 M_133 ls H locs hl hP hD hS hf
            cases hf) (by
            intro rc_133 ih_133 x1_133 x2_133 M_133 ls H locs hl hP hD hS hf
            unfold g_X12_laysWays_133 at hf
            have h_158 : ∀ (x1_158 : Int32) (x2_158 : Int32) (t0_158 : Int32) (M_158 : kD) (ls : Array Slot) (H : Heap) (locs : List Loc), lv_has ls 5 [(0, .ref (ra 0)), (1, .int x1_158), (2, .int x2_158)] → va_P (dC, dI) vwCl (mw cB cI cJ cZ ra M_158) H → va_D (mA ra s.heap.size) (mw cB cI cJ cZ ra M_158) → va_S (mA ra s.heap.size) s.heap H locs → g_X12_laysWays_158 rc_127 rc_133 x1_158 x2_158 t0_158 M_158 = some r → W p l e (headSpec wsX12_laysWays rm_X12_laysWays).room s m args below meth c H locs 0 0 (MQ below (mQv dC dI cB cI cJ cZ ra s.heap.size r) args s 0 0 (mA ra s.heap.size)) (F0 m 158 ls [.int t0_158]) := by
              intro x1_158 x2_158 t0_158 M_158 ls H locs hl hP hD hS hf
              unfold g_X12_laysWays_158 at hf
              have h_216 : ∀ (x1_216 : Int32) (x2_216 : Int32) (x3_216 : Int32) (M_216 : kD) (ls : Array Slot) (H : Heap) (locs : List Loc), lv_has ls 5 [(0, .ref (ra 0)), (1, .int x1_216), (2, .int x2_216), (3, .int x3_216)] → va_P (dC, dI) vwCl (mw cB cI cJ cZ ra M_216) H → va_D (mA ra s.heap.size) (mw cB cI cJ cZ ra M_216) → va_S (mA ra s.heap.size) s.heap H locs → g_X12_laysWays_216 rc_127 rc_133 x1_216 x2_216 x3_216 M_216 = some r → W p l e (headSpec wsX12_laysWays rm_X12_laysWays).room s m args below meth c H locs 0 0 (MQ below (mQv dC dI cB cI cJ cZ ra s.heap.size r) args s 0 0 (mA ra s.heap.size)) (F0 m 216 ls []) := by
                intro x1_216 x2_216 x3_216 M_216 ls H locs hl hP hD hS hf
                unfold g_X12_laysWays_216 at hf
                have h_240 : ∀ (x1_240 : Int32) (x2_240 : Int32) (t1_240 : Int32) (t2_240 : Int32) (M_240 : kD) (ls : Array Slot) (H : Heap) (locs : List Loc), lv_has ls 5 [(0, .ref (ra 0)), (1, .int x1_240), (2, .int x2_240)] → va_P (dC, dI) vwCl (mw cB cI cJ cZ ra M_240) H → va_D (mA ra s.heap.size) (mw cB cI cJ cZ ra M_240) → va_S (mA ra s.heap.size) s.heap H locs → g_X12_laysWays_240 rc_127 rc_133 x1_240 x2_240 t1_240 t2_240 M_240 = some r → W p l e (headSpec wsX12_laysWays rm_X12_laysWays).room s m args below meth c H locs 0 0 (MQ below (mQv dC dI cB cI cJ cZ ra s.heap.size r) args s 0 0 (mA ra s.heap.size)) (F0 m 240 ls [.int t2_240, .int t1_240, .ref (ra 27)]) := by
                  intro x1_240 x2_240 t1_240 t2_240 M_240 ls H locs hl hP hD hS hf
                  unfold g_X12_laysWays_240 at hf
                  obtain ⟨hc2, hf⟩ := ck_e hf
                  obtain ⟨M3, eM3, hf⟩ := bd1_e hf
                  refine va_iast hx hb hK hP hD hS 12 1 rfl rfl hc2 dX12_laysWays_240 (fun H locs hP hD hS => ?_)
                  have hP : va_P (dC, dI) vwCl (mw cB cI cJ cZ ra M3) H := by rw [eM3, ← ma_27 cB cI cJ cZ ra M_240 t1_240.toNatClampNeg t2_240]; exact hP
                  have hD : va_D (mA ra s.heap.size) (mw cB cI cJ cZ ra M3) := by rw [eM3, ← ma_27 cB cI cJ cZ ra M_240 t1_240.toNatClampNeg t2_240]; exact hD
                  obtain ⟨v4, ev4, hf⟩ := bd1_e hf
                  refine lv_iinc (k := 2) (x := x2_240) (v := v4) (nL := 5) (lv' := [(2, .int v4), (0, .ref (ra 0)), (1, .int x1_240)]) hx hb dX12_laysWays_241 hl rfl (kt_inc (w := 1) (by decide) ev4) (by decide) rfl (fun ls hl => ?_)
                  refine lv_goto (tgt := 133) hx hb dX12_laysWays_244 (by decide) ?_
                  exact ih_133 x1_240 v4 M3 ls _ _ (lv_sub hl [1, 2, 0] rfl) hP hD hS hf
                refine lv_aload_n hx hb dX12_laysWays_216 rfl (lv_at hl 0 rfl) ?_
                refine km_get hx hb hts hin hown hK hP 27 (by decide) (v := .ref (ra 27)) k_fieldLink_RX12_68__KeyLettersModel___behind____I_ rfl dX12_laysWays_217 ?_
                refine lv_bipush (v := 6) hx hb dX12_laysWays_220 (by decide) ?_
                refine lv_iload_n hx hb dX12_laysWays_222 rfl (lv_at hl 1 rfl) ?_
                refine lv_imul hx hb dX12_laysWays_223 ?_
                refine lv_iload_n hx hb dX12_laysWays_224 rfl (lv_at hl 2 rfl) ?_
                refine lv_iadd hx hb dX12_laysWays_225 ?_
                refine lv_aload_n hx hb dX12_laysWays_226 rfl (lv_at hl 0 rfl) ?_
                refine lv_iload_n hx hb dX12_laysWays_227 rfl (lv_at hl 2 rfl) ?_
                refine lv_iload_n hx hb dX12_laysWays_228 rfl (lv_at hl 1 rfl) ?_
                obtain ⟨v5, hq6, hf⟩ := bo_e hf
                refine ko_call (v := some (.int v5)) (km_run (As := [.int x2_216, .int x1_216]) (rest := [.int (((6 : Int32) * x1_216) + x2_216), .ref (ra 27)]) ⟨hx, hb, hml, hown, hts⟩ (c_X12_isWriter l dC dI cB cI cJ cZ ra M_216 x2_216 x1_216 v5 hq6) (cwV 2 hts gX12_laysWays_X12_isWriter rfl rfl rfl (by decide +kernel) ⟨Nat.le_of_ble_eq_true rfl, Nat.le_of_ble_eq_true rfl⟩) hK hP (fun _ _ _ _ => mPr_bl) (fun U hU hW => ⟨by rw [hU]; exact hP, va_K.moved hW.alike hK⟩) rfl rfl hl.1 rfl (lv_room (Nat.le_of_ble_eq_true rfl)) dX12_laysWays_229 ⟨Nat.le_refl _, Nat.le_refl _⟩) ?_
                refine lv_if_eq (tgt := 239) hx hb dX12_laysWays_232 (by decide) (fun hb7 => ?_) (fun hb7 => ?_)
                · have hf := (if_pos hb7).symm.trans hf
                  refine lv_iconst (v := 0) hx hb dX12_laysWays_239 (by decide) ?_
                  exact h_240 x1_216 x2_216 (((6 : Int32) * x1_216) + x2_216) (0 : Int32) M_216 ls _ _ (lv_sub hl [0, 1, 2] rfl) hP hD hS hf
                · have hf := (if_neg hb7).symm.trans hf
                  refine lv_iload_n hx hb dX12_laysWays_235 rfl (lv_at hl 3 rfl) ?_
                  refine lv_goto (tgt := 240) hx hb dX12_laysWays_236 (by decide) ?_
                  exact h_240 x1_216 x2_216 (((6 : Int32) * x1_216) + x2_216) x3_216 M_216 ls _ _ (lv_sub hl [0, 1, 2] rfl) hP hD hS hf
              have h_162 := lp_ind (z := (fun _ _ _ _ _ => none)) (b := (g_X12_laysWays_162 rc_127 rc_133)) (fun (rc_162 : Int32 → Int32 → Int32 → Int32 → kD → Option kD) => ∀ (x1_162 : Int32) (x2_162 : Int32) (x3_162 : Int32) (x4_162 : Int32) (M_162 : kD) (ls : Array Slot) (H : Heap) (locs : List Loc), lv_has ls 5 [(0, .ref (ra 0)), (1, .int x1_162), (2, .int x2_162), (3, .int x3_162), (4, .int x4_162)] → va_P (dC, dI) vwCl (mw cB cI cJ cZ ra M_162) H → va_D (mA ra s.heap.size) (mw cB cI cJ cZ ra M_162) → va_S (mA ra s.heap.size) s.heap H locs → rc_162 x1_162 x2_162 x3_162 x4_162 M_162 = some r → W p l e (headSpec wsX12_laysWays rm_X12_laysWays).room s m args below meth c H locs 0 0 (MQ below (mQv dC dI cB cI cJ cZ ra s.heap.size r) args s 0 0 (mA ra s.heap.size)) (F0 m 162 ls [])) (by
                  intro x1_162 x2_162 x3_162 x4_162 M_162 ls H locs hl hP hD hS hf
                  cases hf) (by
                  intro rc_162 ih_162 x1_162 x2_162 x3_162 x4_162 M_162 ls H locs hl hP hD hS hf
                  unfold g_X12_laysWays_162 at hf
                  have h_208 : ∀ (x1_208 : Int32) (x2_208 : Int32) (x4_208 : Int32) (t0_208 : Int32) (t1_208 : Int32) (M_208 : kD) (ls : Array Slot) (H : Heap) (locs : List Loc), lv_has ls 5 [(0, .ref (ra 0)), (1, .int x1_208), (2, .int x2_208), (4, .int x4_208)] → va_P (dC, dI) vwCl (mw cB cI cJ cZ ra M_208) H → va_D (mA ra s.heap.size) (mw cB cI cJ cZ ra M_208) → va_S (mA ra s.heap.size) s.heap H locs → g_X12_laysWays_208 rc_127 rc_133 rc_162 x1_208 x2_208 x4_208 t0_208 t1_208 M_208 = some r → W p l e (headSpec wsX12_laysWays rm_X12_laysWays).room s m args below meth c H locs 0 0 (MQ below (mQv dC dI cB cI cJ cZ ra s.heap.size r) args s 0 0 (mA ra s.heap.size)) (F0 m 208 ls [.int t1_208, .int t0_208]) := by
                    intro x1_208 x2_208 x4_208 t0_208 t1_208 M_208 ls H locs hl hP hD hS hf
                    unfold g_X12_laysWays_208 at hf
                    refine lv_iadd hx hb dX12_laysWays_208 ?_
                    obtain ⟨v8, ev8, hf⟩ := bd1_e hf
                    refine kt_i ev8 ?_
                    refine lv_istore_n (nL := 5) (lv' := [(3, .int v8), (0, .ref (ra 0)), (1, .int x1_208), (2, .int x2_208), (4, .int x4_208)]) hx hb dX12_laysWays_209 rfl hl (by decide) rfl (fun ls hl => ?_)
                    obtain ⟨v9, ev9, hf⟩ := bd1_e hf
                    refine lv_iinc (k := 4) (x := x4_208) (v := v9) (nL := 5) (lv' := [(4, .int v9), (3, .int v8), (0, .ref (ra 0)), (1, .int x1_208), (2, .int x2_208)]) hx hb dX12_laysWays_210 hl rfl (kt_inc (w := 1) (by decide) ev9) (by decide) rfl (fun ls hl => ?_)
                    refine lv_goto (tgt := 162) hx hb dX12_laysWays_213 (by decide) ?_
                    exact ih_162 x1_208 x2_208 v8 v9 M_208 ls _ _ (lv_sub hl [2, 3, 4, 1, 0] rfl) hP hD hS hf
                  refine lv_iload hx hb dX12_laysWays_162 (lv_at hl 4 rfl) ?_
                  refine lv_aload_n hx hb dX12_laysWays_164 rfl (lv_at hl 0 rfl) ?_
                  refine km_get hx hb hts hin hown hK hP 6 (by decide) (v := .ref (ra 6)) k_fieldLink_RX12_33__KeyLettersModel___s____I_ rfl dX12_laysWays_165 ?_
                  refine lv_iconst (v := 0) hx hb dX12_laysWays_168 (by decide) ?_
                  refine va_iald hx hb hK hP 2 1 rfl rfl (show ¬ ((0 : Int32) < 0 ∨ 279 ≤ (0 : Int32).toNatClampNeg) by decide +kernel) dX12_laysWays_169 ?_
                  refine lv_icmp_ge (tgt := 216) hx hb dX12_laysWays_170 (by decide) (fun hb14 => ?_) (fun hb14 => ?_)
                  · have hf := (if_pos hb14).symm.trans hf
                    exact h_216 x1_162 x2_162 x3_162 M_162 ls _ _ (lv_sub hl [0, 1, 2, 3] rfl) hP hD hS hf
                  · have hf := (if_neg hb14).symm.trans hf
                    refine lv_iload_n hx hb dX12_laysWays_173 rfl (lv_at hl 1 rfl) ?_
                    refine lv_aload_n hx hb dX12_laysWays_174 rfl (lv_at hl 0 rfl) ?_
                    refine km_get hx hb hts hin hown hK hP 3 (by decide) (v := .int (M_162.1 0 3)) k_fieldLink_RX12_18__KeyLettersModel___size___I_ rfl dX12_laysWays_175 ?_
                    refine lv_iconst (v := 1) hx hb dX12_laysWays_178 (by decide) ?_
                    refine lv_isub hx hb dX12_laysWays_179 ?_
                    refine lv_icmp_ge (tgt := 216) hx hb dX12_laysWays_180 (by decide) (fun hb13 => ?_) (fun hb13 => ?_)
                    · have hf := (if_pos hb13).symm.trans hf
                      exact h_216 x1_162 x2_162 x3_162 M_162 ls _ _ (lv_sub hl [0, 1, 2, 3] rfl) hP hD hS hf
                    · have hf := (if_neg hb13).symm.trans hf
                      refine lv_iload_n hx hb dX12_laysWays_183 rfl (lv_at hl 3 rfl) ?_
                      refine lv_iload hx hb dX12_laysWays_184 (lv_at hl 4 rfl) ?_
                      refine lv_iload_n hx hb dX12_laysWays_186 rfl (lv_at hl 2 rfl) ?_
                      refine lv_icmp_ne (tgt := 194) hx hb dX12_laysWays_187 (by decide) (fun hb12 => ?_) (fun hb12 => ?_)
                      · have hf := (if_neg hb12).symm.trans hf
                        refine lv_aload_n hx hb dX12_laysWays_194 rfl (lv_at hl 0 rfl) ?_
                        refine km_get hx hb hts hin hown hK hP 27 (by decide) (v := .ref (ra 27)) k_fieldLink_RX12_68__KeyLettersModel___behind____I_ rfl dX12_laysWays_195 ?_
                        refine lv_bipush (v := 6) hx hb dX12_laysWays_198 (by decide) ?_
                        refine lv_iload_n hx hb dX12_laysWays_200 rfl (lv_at hl 1 rfl) ?_
                        refine lv_iconst (v := 1) hx hb dX12_laysWays_201 (by decide) ?_
                        refine lv_iadd hx hb dX12_laysWays_202 ?_
                        refine lv_imul hx hb dX12_laysWays_203 ?_
                        refine lv_iload hx hb dX12_laysWays_204 (lv_at hl 4 rfl) ?_
                        refine lv_iadd hx hb dX12_laysWays_206 ?_
                        obtain ⟨v10, ev10, hf⟩ := bd1_e hf
                        refine kt_i ev10 ?_
                        obtain ⟨hc11, hf⟩ := ck_e hf
                        refine va_iald hx hb hK hP 12 1 rfl rfl hc11 dX12_laysWays_207 ?_
                        exact h_208 x1_162 x2_162 x4_162 x3_162 (M_162.1 27 v10.toNatClampNeg) M_162 ls _ _ (lv_sub hl [0, 1, 2, 4] rfl) hP hD hS hf
                      · have hf := (if_pos hb12).symm.trans hf
                        refine lv_iconst (v := 0) hx hb dX12_laysWays_190 (by decide) ?_
                        refine lv_goto (tgt := 208) hx hb dX12_laysWays_191 (by decide) ?_
                        exact h_208 x1_162 x2_162 x4_162 x3_162 (0 : Int32) M_162 ls _ _ (lv_sub hl [0, 1, 2, 4] rfl) hP hD hS hf) 2000
              refine lv_istore_n (nL := 5) (lv' := [(3, .int t0_158), (0, .ref (ra 0)), (1, .int x1_158), (2, .int x2_158)]) hx hb dX12_laysWays_158 rfl hl (by decide) rfl (fun ls hl => ?_)
              refine lv_iconst (v := 0) hx hb dX12_laysWays_159 (by decide) ?_
              refine lv_istore (nL := 5) (lv' := [(4, .int (0 : Int32)), (3, .int t0_158), (0, .ref (ra 0)), (1, .int x1_158), (2, .int x2_158)]) hx hb dX12_laysWays_160 hl (by decide) rfl (fun ls hl => ?_)
              exact h_162 x1_158 x2_158 t0_158 (0 : Int32) M_158 ls _ _ (lv_sub hl [2, 3, 4, 1, 0] rfl) hP hD hS hf
            refine lv_iload_n hx hb dX12_laysWays_133 rfl (lv_at hl 2 rfl) ?_
            refine lv_aload_n hx hb dX12_laysWays_134 rfl (lv_at hl 0 rfl) ?_
            refine km_get hx hb hts hin hown hK hP 6 (by decide) (v := .ref (ra 6)) k_fieldLink_RX12_33__KeyLettersModel___s____I_ rfl dX12_laysWays_135 ?_
            refine lv_iconst (v := 0) hx hb dX12_laysWays_138 (by decide) ?_
            refine va_iald hx hb hK hP 2 1 rfl rfl (show ¬ ((0 : Int32) < 0 ∨ 279 ≤ (0 : Int32).toNatClampNeg) by decide +kernel) dX12_laysWays_139 ?_
            refine lv_icmp_ge (tgt := 247) hx hb dX12_laysWays_140 (by decide) (fun hb16 => ?_) (fun hb16 => ?_)
            · have hf := (if_pos hb16).symm.trans hf
              exact h_247 x1_133 M_133 ls _ _ (lv_sub hl [0, 1] rfl) hP hD hS hf
            · have hf := (if_neg hb16).symm.trans hf
              refine lv_iload_n hx hb dX12_laysWays_143 rfl (lv_at hl 1 rfl) ?_
              refine lv_aload_n hx hb dX12_laysWays_144 rfl (lv_at hl 0 rfl) ?_
              refine km_get hx hb hts hin hown hK hP 3 (by decide) (v := .int (M_133.1 0 3)) k_fieldLink_RX12_18__KeyLettersModel___size___I_ rfl dX12_laysWays_145 ?_
              refine lv_iconst (v := 1) hx hb dX12_laysWays_148 (by decide) ?_
              refine lv_isub hx hb dX12_laysWays_149 ?_
              refine lv_icmp_ne (tgt := 157) hx hb dX12_laysWays_150 (by decide) (fun hb15 => ?_) (fun hb15 => ?_)
              · have hf := (if_neg hb15).symm.trans hf
                refine lv_iconst (v := 0) hx hb dX12_laysWays_157 (by decide) ?_
                exact h_158 x1_133 x2_133 (0 : Int32) M_133 ls _ _ hl hP hD hS hf
              · have hf := (if_pos hb15).symm.trans hf
                refine lv_iconst (v := 1) hx hb dX12_laysWays_153 (by decide) ?_
                refine lv_goto (tgt := 158) hx hb dX12_laysWays_154 (by decide) ?_
                exact h_158 x1_133 x2_133 (1 : Int32) M_133 ls _ _ hl hP hD hS hf) 2000
        refine lv_iload_n hx hb dX12_laysWays_127 rfl (lv_at hl 1 rfl) ?_
        refine lv_if_lt (tgt := 253) hx hb dX12_laysWays_128 (by decide) (fun hb17 => ?_) (fun hb17 => ?_)
        · have hf := (if_pos hb17).symm.trans hf
          have hf := Option.some.inj hf
          subst hf
          exact m_vret hx hb hr hlocks hP hK hD hS dX12_laysWays_253
        · have hf := (if_neg hb17).symm.trans hf
          refine lv_iconst (v := 0) hx hb dX12_laysWays_131 (by decide) ?_
          refine lv_istore_n (nL := 5) (lv' := [(2, .int (0 : Int32)), (0, .ref (ra 0)), (1, .int x1_127)]) hx hb dX12_laysWays_132 rfl hl (by decide) rfl (fun ls hl => ?_)
          exact h_133 x1_127 (0 : Int32) M_127 ls _ _ (lv_sub hl [1, 2, 0] rfl) hP hD hS hf) 2000
    refine lv_aload_n hx hb dX12_laysWays_120 rfl (lv_at hl 0 rfl) ?_
    refine km_get hx hb hts hin hown hK hP 3 (by decide) (v := .int (M_120.1 0 3)) k_fieldLink_RX12_18__KeyLettersModel___size___I_ rfl dX12_laysWays_121 ?_
    refine lv_iconst (v := 1) hx hb dX12_laysWays_124 (by decide) ?_
    refine lv_isub hx hb dX12_laysWays_125 ?_
    obtain ⟨v18, ev18, hf⟩ := bd1_e hf
    refine kt_i ev18 ?_
    refine lv_istore_n (nL := 5) (lv' := [(1, .int v18), (0, .ref (ra 0))]) hx hb dX12_laysWays_126 rfl hl (by decide) rfl (fun ls hl => ?_)
    exact h_127 v18 M_120 ls _ _ (lv_sub hl [1, 0] rfl) hP hD hS hf
  have h_2 := lp_ind (z := (fun _ _ => none)) (b := (g_X12_laysWays_2)) (fun (rc_2 : Int32 → kD → Option kD) => ∀ (x1_2 : Int32) (M_2 : kD) (ls : Array Slot) (H : Heap) (locs : List Loc), lv_has ls 5 [(0, .ref (ra 0)), (1, .int x1_2)] → va_P (dC, dI) vwCl (mw cB cI cJ cZ ra M_2) H → va_D (mA ra s.heap.size) (mw cB cI cJ cZ ra M_2) → va_S (mA ra s.heap.size) s.heap H locs → rc_2 x1_2 M_2 = some r → W p l e (headSpec wsX12_laysWays rm_X12_laysWays).room s m args below meth c H locs 0 0 (MQ below (mQv dC dI cB cI cJ cZ ra s.heap.size r) args s 0 0 (mA ra s.heap.size)) (F0 m 2 ls [])) (by
      intro x1_2 M_2 ls H locs hl hP hD hS hf
      cases hf) (by
      intro rc_2 ih_2 x1_2 M_2 ls H locs hl hP hD hS hf
      unfold g_X12_laysWays_2 at hf
      have h_114 : ∀ (x1_114 : Int32) (M_114 : kD) (ls : Array Slot) (H : Heap) (locs : List Loc), lv_has ls 5 [(0, .ref (ra 0)), (1, .int x1_114)] → va_P (dC, dI) vwCl (mw cB cI cJ cZ ra M_114) H → va_D (mA ra s.heap.size) (mw cB cI cJ cZ ra M_114) → va_S (mA ra s.heap.size) s.heap H locs → g_X12_laysWays_114 rc_2 x1_114 M_114 = some r → W p l e (headSpec wsX12_laysWays rm_X12_laysWays).room s m args below meth c H locs 0 0 (MQ below (mQv dC dI cB cI cJ cZ ra s.heap.size r) args s 0 0 (mA ra s.heap.size)) (F0 m 114 ls []) := by
        intro x1_114 M_114 ls H locs hl hP hD hS hf
        unfold g_X12_laysWays_114 at hf
        obtain ⟨v19, ev19, hf⟩ := bd1_e hf
        refine lv_iinc (k := 1) (x := x1_114) (v := v19) (nL := 5) (lv' := [(1, .int v19), (0, .ref (ra 0))]) hx hb dX12_laysWays_114 hl rfl (kt_inc (w := 1) (by decide) ev19) (by decide) rfl (fun ls hl => ?_)
        refine lv_goto (tgt := 2) hx hb dX12_laysWays_117 (by decide) ?_
        exact ih_2 v19 M_114 ls _ _ (lv_sub hl [1, 0] rfl) hP hD hS hf
      have h_12 := lp_ind (z := (fun _ _ _ => none)) (b := (g_X12_laysWays_12 rc_2)) (fun (rc_12 : Int32 → Int32 → kD → Option kD) => ∀ (x1_12 : Int32) (x2_12 : Int32) (M_12 : kD) (ls : Array Slot) (H : Heap) (locs : List Loc), lv_has ls 5 [(0, .ref (ra 0)), (1, .int x1_12), (2, .int x2_12)] → va_P (dC, dI) vwCl (mw cB cI cJ cZ ra M_12) H → va_D (mA ra s.heap.size) (mw cB cI cJ cZ ra M_12) → va_S (mA ra s.heap.size) s.heap H locs → rc_12 x1_12 x2_12 M_12 = some r → W p l e (headSpec wsX12_laysWays rm_X12_laysWays).room s m args below meth c H locs 0 0 (MQ below (mQv dC dI cB cI cJ cZ ra s.heap.size r) args s 0 0 (mA ra s.heap.size)) (F0 m 12 ls [])) (by
          intro x1_12 x2_12 M_12 ls H locs hl hP hD hS hf
          cases hf) (by
          intro rc_12 ih_12 x1_12 x2_12 M_12 ls H locs hl hP hD hS hf
          unfold g_X12_laysWays_12 at hf
          have h_31 : ∀ (x1_31 : Int32) (x2_31 : Int32) (t0_31 : Int32) (M_31 : kD) (ls : Array Slot) (H : Heap) (locs : List Loc), lv_has ls 5 [(0, .ref (ra 0)), (1, .int x1_31), (2, .int x2_31)] → va_P (dC, dI) vwCl (mw cB cI cJ cZ ra M_31) H → va_D (mA ra s.heap.size) (mw cB cI cJ cZ ra M_31) → va_S (mA ra s.heap.size) s.heap H locs → g_X12_laysWays_31 rc_2 rc_12 x1_31 x2_31 t0_31 M_31 = some r → W p l e (headSpec wsX12_laysWays rm_X12_laysWays).room s m args below meth c H locs 0 0 (MQ below (mQv dC dI cB cI cJ cZ ra s.heap.size r) args s 0 0 (mA ra s.heap.size)) (F0 m 31 ls [.int t0_31]) := by
            intro x1_31 x2_31 t0_31 M_31 ls H locs hl hP hD hS hf
            unfold g_X12_laysWays_31 at hf
            have h_83 : ∀ (x1_83 : Int32) (x2_83 : Int32) (x3_83 : Int32) (M_83 : kD) (ls : Array Slot) (H : Heap) (locs : List Loc), lv_has ls 5 [(0, .ref (ra 0)), (1, .int x1_83), (2, .int x2_83), (3, .int x3_83)] → va_P (dC, dI) vwCl (mw cB cI cJ cZ ra M_83) H → va_D (mA ra s.heap.size) (mw cB cI cJ cZ ra M_83) → va_S (mA ra s.heap.size) s.heap H locs → g_X12_laysWays_83 rc_2 rc_12 x1_83 x2_83 x3_83 M_83 = some r → W p l e (headSpec wsX12_laysWays rm_X12_laysWays).room s m args below meth c H locs 0 0 (MQ below (mQv dC dI cB cI cJ cZ ra s.heap.size r) args s 0 0 (mA ra s.heap.size)) (F0 m 83 ls []) := by
              intro x1_83 x2_83 x3_83 M_83 ls H locs hl hP hD hS hf
              unfold g_X12_laysWays_83 at hf
              have h_107 : ∀ (x1_107 : Int32) (x2_107 : Int32) (t1_107 : Int32) (t2_107 : Int32) (M_107 : kD) (ls : Array Slot) (H : Heap) (locs : List Loc), lv_has ls 5 [(0, .ref (ra 0)), (1, .int x1_107), (2, .int x2_107)] → va_P (dC, dI) vwCl (mw cB cI cJ cZ ra M_107) H → va_D (mA ra s.heap.size) (mw cB cI cJ cZ ra M_107) → va_S (mA ra s.heap.size) s.heap H locs → g_X12_laysWays_107 rc_2 rc_12 x1_107 x2_107 t1_107 t2_107 M_107 = some r → W p l e (headSpec wsX12_laysWays rm_X12_laysWays).room s m args below meth c H locs 0 0 (MQ below (mQv dC dI cB cI cJ cZ ra s.heap.size r) args s 0 0 (mA ra s.heap.size)) (F0 m 107 ls [.int t2_107, .int t1_107, .ref (ra 26)]) := by
                intro x1_107 x2_107 t1_107 t2_107 M_107 ls H locs hl hP hD hS hf
                unfold g_X12_laysWays_107 at hf
                obtain ⟨hc20, hf⟩ := ck_e hf
                obtain ⟨M21, eM21, hf⟩ := bd1_e hf
                refine va_iast hx hb hK hP hD hS 11 1 rfl rfl hc20 dX12_laysWays_107 (fun H locs hP hD hS => ?_)
                have hP : va_P (dC, dI) vwCl (mw cB cI cJ cZ ra M21) H := by rw [eM21, ← ma_26 cB cI cJ cZ ra M_107 t1_107.toNatClampNeg t2_107]; exact hP
                have hD : va_D (mA ra s.heap.size) (mw cB cI cJ cZ ra M21) := by rw [eM21, ← ma_26 cB cI cJ cZ ra M_107 t1_107.toNatClampNeg t2_107]; exact hD
                obtain ⟨v22, ev22, hf⟩ := bd1_e hf
                refine lv_iinc (k := 2) (x := x2_107) (v := v22) (nL := 5) (lv' := [(2, .int v22), (0, .ref (ra 0)), (1, .int x1_107)]) hx hb dX12_laysWays_108 hl rfl (kt_inc (w := 1) (by decide) ev22) (by decide) rfl (fun ls hl => ?_)
                refine lv_goto (tgt := 12) hx hb dX12_laysWays_111 (by decide) ?_
                exact ih_12 x1_107 v22 M21 ls _ _ (lv_sub hl [1, 2, 0] rfl) hP hD hS hf
              refine lv_aload_n hx hb dX12_laysWays_83 rfl (lv_at hl 0 rfl) ?_
              refine km_get hx hb hts hin hown hK hP 26 (by decide) (v := .ref (ra 26)) k_fieldLink_RX12_65__KeyLettersModel___ahead____I_ rfl dX12_laysWays_84 ?_
              refine lv_bipush (v := 6) hx hb dX12_laysWays_87 (by decide) ?_
              refine lv_iload_n hx hb dX12_laysWays_89 rfl (lv_at hl 1 rfl) ?_
              refine lv_imul hx hb dX12_laysWays_90 ?_
              refine lv_iload_n hx hb dX12_laysWays_91 rfl (lv_at hl 2 rfl) ?_
              refine lv_iadd hx hb dX12_laysWays_92 ?_
              refine lv_aload_n hx hb dX12_laysWays_93 rfl (lv_at hl 0 rfl) ?_
              refine lv_iload_n hx hb dX12_laysWays_94 rfl (lv_at hl 2 rfl) ?_
              refine lv_iload_n hx hb dX12_laysWays_95 rfl (lv_at hl 1 rfl) ?_
              obtain ⟨v23, hq24, hf⟩ := bo_e hf
              refine ko_call (v := some (.int v23)) (km_run (As := [.int x2_83, .int x1_83]) (rest := [.int (((6 : Int32) * x1_83) + x2_83), .ref (ra 26)]) ⟨hx, hb, hml, hown, hts⟩ (c_X12_isWriter l dC dI cB cI cJ cZ ra M_83 x2_83 x1_83 v23 hq24) (cwV 2 hts gX12_laysWays_X12_isWriter rfl rfl rfl (by decide +kernel) ⟨Nat.le_of_ble_eq_true rfl, Nat.le_of_ble_eq_true rfl⟩) hK hP (fun _ _ _ _ => mPr_bl) (fun U hU hW => ⟨by rw [hU]; exact hP, va_K.moved hW.alike hK⟩) rfl rfl hl.1 rfl (lv_room (Nat.le_of_ble_eq_true rfl)) dX12_laysWays_96 ⟨Nat.le_refl _, Nat.le_refl _⟩) ?_
              refine lv_if_eq (tgt := 106) hx hb dX12_laysWays_99 (by decide) (fun hb25 => ?_) (fun hb25 => ?_)
              · have hf := (if_pos hb25).symm.trans hf
                refine lv_iconst (v := 0) hx hb dX12_laysWays_106 (by decide) ?_
                exact h_107 x1_83 x2_83 (((6 : Int32) * x1_83) + x2_83) (0 : Int32) M_83 ls _ _ (lv_sub hl [0, 1, 2] rfl) hP hD hS hf
              · have hf := (if_neg hb25).symm.trans hf
                refine lv_iload_n hx hb dX12_laysWays_102 rfl (lv_at hl 3 rfl) ?_
                refine lv_goto (tgt := 107) hx hb dX12_laysWays_103 (by decide) ?_
                exact h_107 x1_83 x2_83 (((6 : Int32) * x1_83) + x2_83) x3_83 M_83 ls _ _ (lv_sub hl [0, 1, 2] rfl) hP hD hS hf
            have h_35 := lp_ind (z := (fun _ _ _ _ _ => none)) (b := (g_X12_laysWays_35 rc_2 rc_12)) (fun (rc_35 : Int32 → Int32 → Int32 → Int32 → kD → Option kD) => ∀ (x1_35 : Int32) (x2_35 : Int32) (x3_35 : Int32) (x4_35 : Int32) (M_35 : kD) (ls : Array Slot) (H : Heap) (locs : List Loc), lv_has ls 5 [(0, .ref (ra 0)), (1, .int x1_35), (2, .int x2_35), (3, .int x3_35), (4, .int x4_35)] → va_P (dC, dI) vwCl (mw cB cI cJ cZ ra M_35) H → va_D (mA ra s.heap.size) (mw cB cI cJ cZ ra M_35) → va_S (mA ra s.heap.size) s.heap H locs → rc_35 x1_35 x2_35 x3_35 x4_35 M_35 = some r → W p l e (headSpec wsX12_laysWays rm_X12_laysWays).room s m args below meth c H locs 0 0 (MQ below (mQv dC dI cB cI cJ cZ ra s.heap.size r) args s 0 0 (mA ra s.heap.size)) (F0 m 35 ls [])) (by
                intro x1_35 x2_35 x3_35 x4_35 M_35 ls H locs hl hP hD hS hf
                cases hf) (by
                intro rc_35 ih_35 x1_35 x2_35 x3_35 x4_35 M_35 ls H locs hl hP hD hS hf
                unfold g_X12_laysWays_35 at hf
                have h_75 : ∀ (x1_75 : Int32) (x2_75 : Int32) (x4_75 : Int32) (t0_75 : Int32) (t1_75 : Int32) (M_75 : kD) (ls : Array Slot) (H : Heap) (locs : List Loc), lv_has ls 5 [(0, .ref (ra 0)), (1, .int x1_75), (2, .int x2_75), (4, .int x4_75)] → va_P (dC, dI) vwCl (mw cB cI cJ cZ ra M_75) H → va_D (mA ra s.heap.size) (mw cB cI cJ cZ ra M_75) → va_S (mA ra s.heap.size) s.heap H locs → g_X12_laysWays_75 rc_2 rc_12 rc_35 x1_75 x2_75 x4_75 t0_75 t1_75 M_75 = some r → W p l e (headSpec wsX12_laysWays rm_X12_laysWays).room s m args below meth c H locs 0 0 (MQ below (mQv dC dI cB cI cJ cZ ra s.heap.size r) args s 0 0 (mA ra s.heap.size)) (F0 m 75 ls [.int t1_75, .int t0_75]) := by
                  intro x1_75 x2_75 x4_75 t0_75 t1_75 M_75 ls H locs hl hP hD hS hf
                  unfold g_X12_laysWays_75 at hf
                  refine lv_iadd hx hb dX12_laysWays_75 ?_
                  obtain ⟨v26, ev26, hf⟩ := bd1_e hf
                  refine kt_i ev26 ?_
                  refine lv_istore_n (nL := 5) (lv' := [(3, .int v26), (0, .ref (ra 0)), (1, .int x1_75), (2, .int x2_75), (4, .int x4_75)]) hx hb dX12_laysWays_76 rfl hl (by decide) rfl (fun ls hl => ?_)
                  obtain ⟨v27, ev27, hf⟩ := bd1_e hf
                  refine lv_iinc (k := 4) (x := x4_75) (v := v27) (nL := 5) (lv' := [(4, .int v27), (3, .int v26), (0, .ref (ra 0)), (1, .int x1_75), (2, .int x2_75)]) hx hb dX12_laysWays_77 hl rfl (kt_inc (w := 1) (by decide) ev27) (by decide) rfl (fun ls hl => ?_)
                  refine lv_goto (tgt := 35) hx hb dX12_laysWays_80 (by decide) ?_
                  exact ih_35 x1_75 x2_75 v26 v27 M_75 ls _ _ (lv_sub hl [2, 3, 4, 1, 0] rfl) hP hD hS hf
                refine lv_iload hx hb dX12_laysWays_35 (lv_at hl 4 rfl) ?_
                refine lv_aload_n hx hb dX12_laysWays_37 rfl (lv_at hl 0 rfl) ?_
                refine km_get hx hb hts hin hown hK hP 6 (by decide) (v := .ref (ra 6)) k_fieldLink_RX12_33__KeyLettersModel___s____I_ rfl dX12_laysWays_38 ?_
                refine lv_iconst (v := 0) hx hb dX12_laysWays_41 (by decide) ?_
                refine va_iald hx hb hK hP 2 1 rfl rfl (show ¬ ((0 : Int32) < 0 ∨ 279 ≤ (0 : Int32).toNatClampNeg) by decide +kernel) dX12_laysWays_42 ?_
                refine lv_icmp_ge (tgt := 83) hx hb dX12_laysWays_43 (by decide) (fun hb32 => ?_) (fun hb32 => ?_)
                · have hf := (if_pos hb32).symm.trans hf
                  exact h_83 x1_35 x2_35 x3_35 M_35 ls _ _ (lv_sub hl [0, 1, 2, 3] rfl) hP hD hS hf
                · have hf := (if_neg hb32).symm.trans hf
                  refine lv_iload_n hx hb dX12_laysWays_46 rfl (lv_at hl 1 rfl) ?_
                  refine lv_if_le (tgt := 83) hx hb dX12_laysWays_47 (by decide) (fun hb31 => ?_) (fun hb31 => ?_)
                  · have hf := (if_pos hb31).symm.trans hf
                    exact h_83 x1_35 x2_35 x3_35 M_35 ls _ _ (lv_sub hl [0, 1, 2, 3] rfl) hP hD hS hf
                  · have hf := (if_neg hb31).symm.trans hf
                    refine lv_iload_n hx hb dX12_laysWays_50 rfl (lv_at hl 3 rfl) ?_
                    refine lv_iload hx hb dX12_laysWays_51 (lv_at hl 4 rfl) ?_
                    refine lv_iload_n hx hb dX12_laysWays_53 rfl (lv_at hl 2 rfl) ?_
                    refine lv_icmp_ne (tgt := 61) hx hb dX12_laysWays_54 (by decide) (fun hb30 => ?_) (fun hb30 => ?_)
                    · have hf := (if_neg hb30).symm.trans hf
                      refine lv_aload_n hx hb dX12_laysWays_61 rfl (lv_at hl 0 rfl) ?_
                      refine km_get hx hb hts hin hown hK hP 26 (by decide) (v := .ref (ra 26)) k_fieldLink_RX12_65__KeyLettersModel___ahead____I_ rfl dX12_laysWays_62 ?_
                      refine lv_bipush (v := 6) hx hb dX12_laysWays_65 (by decide) ?_
                      refine lv_iload_n hx hb dX12_laysWays_67 rfl (lv_at hl 1 rfl) ?_
                      refine lv_iconst (v := 1) hx hb dX12_laysWays_68 (by decide) ?_
                      refine lv_isub hx hb dX12_laysWays_69 ?_
                      refine lv_imul hx hb dX12_laysWays_70 ?_
                      refine lv_iload hx hb dX12_laysWays_71 (lv_at hl 4 rfl) ?_
                      refine lv_iadd hx hb dX12_laysWays_73 ?_
                      obtain ⟨v28, ev28, hf⟩ := bd1_e hf
                      refine kt_i ev28 ?_
                      obtain ⟨hc29, hf⟩ := ck_e hf
                      refine va_iald hx hb hK hP 11 1 rfl rfl hc29 dX12_laysWays_74 ?_
                      exact h_75 x1_35 x2_35 x4_35 x3_35 (M_35.1 26 v28.toNatClampNeg) M_35 ls _ _ (lv_sub hl [0, 1, 2, 4] rfl) hP hD hS hf
                    · have hf := (if_pos hb30).symm.trans hf
                      refine lv_iconst (v := 0) hx hb dX12_laysWays_57 (by decide) ?_
                      refine lv_goto (tgt := 75) hx hb dX12_laysWays_58 (by decide) ?_
                      exact h_75 x1_35 x2_35 x4_35 x3_35 (0 : Int32) M_35 ls _ _ (lv_sub hl [0, 1, 2, 4] rfl) hP hD hS hf) 2000
            refine lv_istore_n (nL := 5) (lv' := [(3, .int t0_31), (0, .ref (ra 0)), (1, .int x1_31), (2, .int x2_31)]) hx hb dX12_laysWays_31 rfl hl (by decide) rfl (fun ls hl => ?_)
            refine lv_iconst (v := 0) hx hb dX12_laysWays_32 (by decide) ?_
            refine lv_istore (nL := 5) (lv' := [(4, .int (0 : Int32)), (3, .int t0_31), (0, .ref (ra 0)), (1, .int x1_31), (2, .int x2_31)]) hx hb dX12_laysWays_33 hl (by decide) rfl (fun ls hl => ?_)
            exact h_35 x1_31 x2_31 t0_31 (0 : Int32) M_31 ls _ _ (lv_sub hl [2, 3, 4, 1, 0] rfl) hP hD hS hf
          refine lv_iload_n hx hb dX12_laysWays_12 rfl (lv_at hl 2 rfl) ?_
          refine lv_aload_n hx hb dX12_laysWays_13 rfl (lv_at hl 0 rfl) ?_
          refine km_get hx hb hts hin hown hK hP 6 (by decide) (v := .ref (ra 6)) k_fieldLink_RX12_33__KeyLettersModel___s____I_ rfl dX12_laysWays_14 ?_
          refine lv_iconst (v := 0) hx hb dX12_laysWays_17 (by decide) ?_
          refine va_iald hx hb hK hP 2 1 rfl rfl (show ¬ ((0 : Int32) < 0 ∨ 279 ≤ (0 : Int32).toNatClampNeg) by decide +kernel) dX12_laysWays_18 ?_
          refine lv_icmp_ge (tgt := 114) hx hb dX12_laysWays_19 (by decide) (fun hb34 => ?_) (fun hb34 => ?_)
          · have hf := (if_pos hb34).symm.trans hf
            exact h_114 x1_12 M_12 ls _ _ (lv_sub hl [0, 1] rfl) hP hD hS hf
          · have hf := (if_neg hb34).symm.trans hf
            refine lv_iload_n hx hb dX12_laysWays_22 rfl (lv_at hl 1 rfl) ?_
            refine lv_if_ne (tgt := 30) hx hb dX12_laysWays_23 (by decide) (fun hb33 => ?_) (fun hb33 => ?_)
            · have hf := (if_neg hb33).symm.trans hf
              refine lv_iconst (v := 0) hx hb dX12_laysWays_30 (by decide) ?_
              exact h_31 x1_12 x2_12 (0 : Int32) M_12 ls _ _ hl hP hD hS hf
            · have hf := (if_pos hb33).symm.trans hf
              refine lv_iconst (v := 1) hx hb dX12_laysWays_26 (by decide) ?_
              refine lv_goto (tgt := 31) hx hb dX12_laysWays_27 (by decide) ?_
              exact h_31 x1_12 x2_12 (1 : Int32) M_12 ls _ _ hl hP hD hS hf) 2000
      refine lv_iload_n hx hb dX12_laysWays_2 rfl (lv_at hl 1 rfl) ?_
      refine lv_aload_n hx hb dX12_laysWays_3 rfl (lv_at hl 0 rfl) ?_
      refine km_get hx hb hts hin hown hK hP 3 (by decide) (v := .int (M_2.1 0 3)) k_fieldLink_RX12_18__KeyLettersModel___size___I_ rfl dX12_laysWays_4 ?_
      refine lv_icmp_ge (tgt := 120) hx hb dX12_laysWays_7 (by decide) (fun hb35 => ?_) (fun hb35 => ?_)
      · have hf := (if_pos hb35).symm.trans hf
        exact h_120  M_2 ls _ _ (lv_sub hl [0] rfl) hP hD hS hf
      · have hf := (if_neg hb35).symm.trans hf
        refine lv_iconst (v := 0) hx hb dX12_laysWays_10 (by decide) ?_
        refine lv_istore_n (nL := 5) (lv' := [(2, .int (0 : Int32)), (0, .ref (ra 0)), (1, .int x1_2)]) hx hb dX12_laysWays_11 rfl hl (by decide) rfl (fun ls hl => ?_)
        exact h_12 x1_2 (0 : Int32) M_2 ls _ _ (lv_sub hl [1, 2, 0] rfl) hP hD hS hf) 2000
  refine lv_iconst (v := 0) hx hb dX12_laysWays_0 (by decide) ?_
  refine lv_istore_n (nL := 5) (lv' := [(1, .int (0 : Int32)), (0, .ref (ra 0))]) hx hb dX12_laysWays_1 rfl hl (by decide) rfl (fun ls hl => ?_)
  exact h_2 (0 : Int32) M ls _ _ (lv_sub hl [1, 0] rfl) hP hD hS hf

abbrev rm_X12_mostAt : Room := { frames := 2, cells := 0, slots := 0, locals := 43 }
set_option maxHeartbeats 4000000 in
set_option maxRecDepth 100000 in
theorem c_X12_mostAt (l : Launch) (dC : Nat → ClassId) (dI : Nat → Nat → Nat) (cB cI cJ cZ : ClassId) (ra : Nat → Nat) (M : kD) (a0 : Int32) (r : Int32) (hf : f_X12_mostAt a0 M = some r) : Met l yX12_mostAt wsX12_mostAt rm_X12_mostAt (va_Pc [.ref (ra 0), .int a0] (mPr dC dI cB cI cJ cZ ra M)) (kQ (some (.int r))) 0 0 (kF) := by
  refine Met.ofW (cc := cX12_mostAt) (maxL := 4) (ret := (some .int)) (by decide) rfl ?_
  intro p e s m args below meth c s₁ B hml hv
  obtain ⟨hav, hP, hK⟩ := hv
  have hx := B.exec
  have hb := B.bytes
  have hr := B.returns
  have hts := atoms_spec (ws := wsX12_mostAt) B.pre
  have hown : s.vm.findClass RX12 = some m.cls := findClass_of_methodNamed B.named
  have hlocks := B.notSynchronized
  have hin : ∀ w ∈ wsX120, w ∈ wsX12_mostAt := fun w h => List.mem_cons_of_mem _ (List.mem_append_right _ h)
  have k_fieldLink_RX12_33__KeyLettersModel___s____I_ := hts (.fieldLink RX12 33 "KeyLettersModel" "s" "[I") (by decide +kernel)
  have k_fieldLink_RX12_65__KeyLettersModel___ahead____I_ := hts (.fieldLink RX12 65 "KeyLettersModel" "ahead" "[I") (by decide +kernel)
  have k_fieldLink_RX12_68__KeyLettersModel___behind____I_ := hts (.fieldLink RX12 68 "KeyLettersModel" "behind" "[I") (by decide +kernel)
  have hl := lv_entry ([.ref (ra 0), .int a0]) (n := 4) (Nat.le_of_ble_eq_true rfl)
  rw [show entryFrame m args 4 = entryFrame m ([.ref (ra 0), .int a0] : List Value).toArray 4 from by rw [hav], lg_entry_eq]
  generalize (lg_sl ([.ref (ra 0), .int a0]) ++ List.replicate (4 - (lg_sl ([.ref (ra 0), .int a0])).length) Slot.unset).toArray = ls at hl ⊢
  have hl : lv_has ls 4 [(0, .ref (ra 0)), (1, .int a0)] := hl
  unfold f_X12_mostAt at hf
  have h_4 := lp_ind (z := (fun _ _ _ => none)) (b := (g_X12_mostAt_4 M)) (fun (rc_4 : Int32 → Int32 → Int32 → Option Int32) => ∀ (x1_4 : Int32) (x2_4 : Int32) (x3_4 : Int32) (ls : Array Slot), lv_has ls 4 [(0, .ref (ra 0)), (1, .int x1_4), (2, .int x2_4), (3, .int x3_4)] → rc_4 x1_4 x2_4 x3_4 = some r → W p l e (headSpec wsX12_mostAt rm_X12_mostAt).room s m args below meth c s.heap [] 0 0 (MQ below (kQ (some (.int r))) args s 0 0 (kF)) (F0 m 4 ls [])) (by
      intro x1_4 x2_4 x3_4 ls hl hf
      cases hf) (by
      intro rc_4 ih_4 x1_4 x2_4 x3_4 ls hl hf
      unfold g_X12_mostAt_4 at hf
      have h_51 : ∀ (x1_51 : Int32) (x3_51 : Int32) (t0_51 : Int32) (t1_51 : Int32) (ls : Array Slot), lv_has ls 4 [(0, .ref (ra 0)), (1, .int x1_51), (3, .int x3_51)] → g_X12_mostAt_51 rc_4 M x1_51 x3_51 t0_51 t1_51 = some r → W p l e (headSpec wsX12_mostAt rm_X12_mostAt).room s m args below meth c s.heap [] 0 0 (MQ below (kQ (some (.int r))) args s 0 0 (kF)) (F0 m 51 ls [.int t1_51, .int t0_51]) := by
        intro x1_51 x3_51 t0_51 t1_51 ls hl hf
        unfold g_X12_mostAt_51 at hf
        refine ko_call (v := some (.int (f_X12_greater t0_51 t1_51))) (va_runS (As := [.int t0_51, .int t1_51]) (rest := []) ⟨hx, hb, hml, hown, hts⟩ (c_X12_greater l t0_51 t1_51 _ rfl) (va_cwS 2 hts gX12_mostAt_X12_greater rfl rfl rfl (by decide +kernel) ⟨Nat.le_of_ble_eq_true rfl, Nat.le_of_ble_eq_true rfl⟩) ⟨fun a U g mk q => q, fun U hU hW => ⟨rfl, trivial⟩⟩ rfl rfl hl.1 rfl (lv_room (Nat.le_of_ble_eq_true rfl)) dX12_mostAt_51 ⟨Nat.le_refl _, Nat.le_refl _⟩) ?_
        obtain ⟨v1, ev1, hf⟩ := bd1_e hf
        refine kt_i ev1 ?_
        refine lv_istore_n (nL := 4) (lv' := [(2, .int v1), (0, .ref (ra 0)), (1, .int x1_51), (3, .int x3_51)]) hx hb dX12_mostAt_54 rfl hl (by decide) rfl (fun ls hl => ?_)
        obtain ⟨v2, ev2, hf⟩ := bd1_e hf
        refine lv_iinc (k := 3) (x := x3_51) (v := v2) (nL := 4) (lv' := [(3, .int v2), (2, .int v1), (0, .ref (ra 0)), (1, .int x1_51)]) hx hb dX12_mostAt_55 hl rfl (kt_inc (w := 1) (by decide) ev2) (by decide) rfl (fun ls hl => ?_)
        refine lv_goto (tgt := 4) hx hb dX12_mostAt_58 (by decide) ?_
        exact ih_4 x1_51 v1 v2 ls (lv_sub hl [2, 3, 1, 0] rfl) hf
      refine lv_iload_n hx hb dX12_mostAt_4 rfl (lv_at hl 3 rfl) ?_
      refine lv_aload_n hx hb dX12_mostAt_5 rfl (lv_at hl 0 rfl) ?_
      refine km_get hx hb hts hin hown hK hP 6 (by decide) (v := .ref (ra 6)) k_fieldLink_RX12_33__KeyLettersModel___s____I_ rfl dX12_mostAt_6 ?_
      refine lv_iconst (v := 0) hx hb dX12_mostAt_9 (by decide) ?_
      refine va_iald hx hb hK hP 2 1 rfl rfl (show ¬ ((0 : Int32) < 0 ∨ 279 ≤ (0 : Int32).toNatClampNeg) by decide +kernel) dX12_mostAt_10 ?_
      refine lv_icmp_ge (tgt := 61) hx hb dX12_mostAt_11 (by decide) (fun hb10 => ?_) (fun hb10 => ?_)
      · have hf := (if_pos hb10).symm.trans hf
        refine lv_iload_n hx hb dX12_mostAt_61 rfl (lv_at hl 2 rfl) ?_
        have hf := Option.some.inj hf
        subst hf
        exact W.iret (v := x2_4) hx hb hr (fun t ht hW => ⟨rfl, ht⟩) (fun _ h => nomatch h) dX12_mostAt_62
      · have hf := (if_neg hb10).symm.trans hf
        refine lv_iload_n hx hb dX12_mostAt_14 rfl (lv_at hl 2 rfl) ?_
        refine lv_aload_n hx hb dX12_mostAt_15 rfl (lv_at hl 0 rfl) ?_
        refine lv_iload_n hx hb dX12_mostAt_16 rfl (lv_at hl 3 rfl) ?_
        refine lv_iload_n hx hb dX12_mostAt_17 rfl (lv_at hl 1 rfl) ?_
        obtain ⟨v3, hq4, hf⟩ := bo_e hf
        refine ko_call (v := some (.int v3)) (km_run (As := [.int x3_4, .int x1_4]) (rest := [.int x2_4]) ⟨hx, hb, hml, hown, hts⟩ (c_X12_isWriter l dC dI cB cI cJ cZ ra M x3_4 x1_4 v3 hq4) (cwV 2 hts gX12_mostAt_X12_isWriter rfl rfl rfl (by decide +kernel) ⟨Nat.le_of_ble_eq_true rfl, Nat.le_of_ble_eq_true rfl⟩) hK hP (fun _ _ _ _ => mPr_bl) (fun U hU hW => ⟨by rw [hU]; exact hP, va_K.moved hW.alike hK⟩) rfl rfl hl.1 rfl (lv_room (Nat.le_of_ble_eq_true rfl)) dX12_mostAt_18 ⟨Nat.le_refl _, Nat.le_refl _⟩) ?_
        refine lv_if_eq (tgt := 50) hx hb dX12_mostAt_21 (by decide) (fun hb9 => ?_) (fun hb9 => ?_)
        · have hf := (if_pos hb9).symm.trans hf
          refine lv_iconst (v := 0) hx hb dX12_mostAt_50 (by decide) ?_
          exact h_51 x1_4 x3_4 x2_4 (0 : Int32) ls (lv_sub hl [0, 1, 3] rfl) hf
        · have hf := (if_neg hb9).symm.trans hf
          refine lv_aload_n hx hb dX12_mostAt_24 rfl (lv_at hl 0 rfl) ?_
          refine km_get hx hb hts hin hown hK hP 26 (by decide) (v := .ref (ra 26)) k_fieldLink_RX12_65__KeyLettersModel___ahead____I_ rfl dX12_mostAt_25 ?_
          refine lv_bipush (v := 6) hx hb dX12_mostAt_28 (by decide) ?_
          refine lv_iload_n hx hb dX12_mostAt_30 rfl (lv_at hl 1 rfl) ?_
          refine lv_imul hx hb dX12_mostAt_31 ?_
          refine lv_iload_n hx hb dX12_mostAt_32 rfl (lv_at hl 3 rfl) ?_
          refine lv_iadd hx hb dX12_mostAt_33 ?_
          obtain ⟨v5, ev5, hf⟩ := bd1_e hf
          refine kt_i ev5 ?_
          obtain ⟨hc6, hf⟩ := ck_e hf
          refine va_iald hx hb hK hP 11 1 rfl rfl hc6 dX12_mostAt_34 ?_
          refine lv_aload_n hx hb dX12_mostAt_35 rfl (lv_at hl 0 rfl) ?_
          refine km_get hx hb hts hin hown hK hP 27 (by decide) (v := .ref (ra 27)) k_fieldLink_RX12_68__KeyLettersModel___behind____I_ rfl dX12_mostAt_36 ?_
          refine lv_bipush (v := 6) hx hb dX12_mostAt_39 (by decide) ?_
          refine lv_iload_n hx hb dX12_mostAt_41 rfl (lv_at hl 1 rfl) ?_
          refine lv_imul hx hb dX12_mostAt_42 ?_
          refine lv_iload_n hx hb dX12_mostAt_43 rfl (lv_at hl 3 rfl) ?_
          refine lv_iadd hx hb dX12_mostAt_44 ?_
          obtain ⟨v7, ev7, hf⟩ := bd1_e hf
          refine kt_i ev7 ?_
          obtain ⟨hc8, hf⟩ := ck_e hf
          refine va_iald hx hb hK hP 12 1 rfl rfl hc8 dX12_mostAt_45 ?_
          refine lv_imul hx hb dX12_mostAt_46 ?_
          refine lv_goto (tgt := 51) hx hb dX12_mostAt_47 (by decide) ?_
          exact h_51 x1_4 x3_4 x2_4 ((M.1 26 v5.toNatClampNeg) * (M.1 27 v7.toNatClampNeg)) ls (lv_sub hl [0, 1, 3] rfl) hf) 2000
  refine lv_iconst (v := 0) hx hb dX12_mostAt_0 (by decide) ?_
  refine lv_istore_n (nL := 4) (lv' := [(2, .int (0 : Int32)), (0, .ref (ra 0)), (1, .int a0)]) hx hb dX12_mostAt_1 rfl hl (by decide) rfl (fun ls hl => ?_)
  refine lv_iconst (v := 0) hx hb dX12_mostAt_2 (by decide) ?_
  refine lv_istore_n (nL := 4) (lv' := [(3, .int (0 : Int32)), (2, .int (0 : Int32)), (0, .ref (ra 0)), (1, .int a0)]) hx hb dX12_mostAt_3 rfl hl (by decide) rfl (fun ls hl => ?_)
  exact h_4 a0 (0 : Int32) (0 : Int32) ls (lv_sub hl [2, 3, 1, 0] rfl) hf

abbrev rm_X12_ways : Room := { frames := 3, cells := 0, slots := 0, locals := 67 }
set_option maxHeartbeats 4000000 in
set_option maxRecDepth 100000 in
theorem c_X12_ways (l : Launch) (dC : Nat → ClassId) (dI : Nat → Nat → Nat) (cB cI cJ cZ : ClassId) (ra : Nat → Nat) (sz : Nat) (M : kD)  (r : (Int32 × kD)) (hf : f_X12_ways  M = some r) : Met l yX12_ways wsX12_ways rm_X12_ways (va_Pc [.ref (ra 0)] (mPw dC dI cB cI cJ cZ ra sz M)) (mQi dC dI cB cI cJ cZ ra sz r) 0 0 (mA ra sz) := by
  refine Met.ofW (cc := cX12_ways) (maxL := 5) (ret := (some .int)) (by decide) rfl ?_
  intro p e s m args below meth c s₁ B hml hv
  obtain ⟨hav, hsz, hP, hK, hD0⟩ := hv
  have hx := B.exec
  have hb := B.bytes
  have hr := B.returns
  have hts := atoms_spec (ws := wsX12_ways) B.pre
  have hown : s.vm.findClass RX12 = some m.cls := findClass_of_methodNamed B.named
  have hlocks := B.notSynchronized
  subst hsz
  have hA : ∀ q, s.heap.size ≤ q → mA ra s.heap.size q := fun q h => Or.inr h
  have hD : va_D (mA ra s.heap.size) (mw cB cI cJ cZ ra M) := hD0.weaken (fun k q h _ => mA_in h)
  have hS : va_S (mA ra s.heap.size) s.heap s.heap [] := va_S.rf
  have hin : ∀ w ∈ wsX120, w ∈ wsX12_ways := fun w h => List.mem_cons_of_mem _ (List.mem_append_right _ h)
  have k_fieldLink_RX12_18__KeyLettersModel___size___I_ := hts (.fieldLink RX12 18 "KeyLettersModel" "size" "I") (by decide +kernel)
  have k_fieldLink_RX12_1__KeyLettersModel___thrown___I_ := hts (.fieldLink RX12 1 "KeyLettersModel" "thrown" "I") (by decide +kernel)
  have k_fieldLink_RX12_33__KeyLettersModel___s____I_ := hts (.fieldLink RX12 33 "KeyLettersModel" "s" "[I") (by decide +kernel)
  have k_fieldLink_RX12_342__KeyLettersModel___askPlace___I_ := hts (.fieldLink RX12 342 "KeyLettersModel" "askPlace" "I") (by decide +kernel)
  have k_fieldLink_RX12_68__KeyLettersModel___behind____I_ := hts (.fieldLink RX12 68 "KeyLettersModel" "behind" "[I") (by decide +kernel)
  have k_fieldLink_RX12_71__KeyLettersModel___waysRow____I_ := hts (.fieldLink RX12 71 "KeyLettersModel" "waysRow" "[I") (by decide +kernel)
  have k_fieldLink_RX12_74__KeyLettersModel___waysMany___I_ := hts (.fieldLink RX12 74 "KeyLettersModel" "waysMany" "I") (by decide +kernel)
  have hl := lv_entry ([.ref (ra 0)]) (n := 5) (Nat.le_of_ble_eq_true rfl)
  rw [show entryFrame m args 5 = entryFrame m ([.ref (ra 0)] : List Value).toArray 5 from by rw [hav], lg_entry_eq]
  generalize (lg_sl ([.ref (ra 0)]) ++ List.replicate (5 - (lg_sl ([.ref (ra 0)])).length) Slot.unset).toArray = ls at hl ⊢
  have hl : lv_has ls 5 [(0, .ref (ra 0))] := hl
  unfold f_X12_ways at hf
  have h_54 : ∀ (x1_54 : Int32) (M_54 : kD) (ls : Array Slot) (H : Heap) (locs : List Loc), lv_has ls 5 [(0, .ref (ra 0)), (1, .int x1_54)] → va_P (dC, dI) vwCl (mw cB cI cJ cZ ra M_54) H → va_D (mA ra s.heap.size) (mw cB cI cJ cZ ra M_54) → va_S (mA ra s.heap.size) s.heap H locs → g_X12_ways_54 x1_54 M_54 = some r → W p l e (headSpec wsX12_ways rm_X12_ways).room s m args below meth c H locs 0 0 (MQ below (mQi dC dI cB cI cJ cZ ra s.heap.size r) args s 0 0 (mA ra s.heap.size)) (F0 m 54 ls []) := by
    intro x1_54 M_54 ls H locs hl hP hD hS hf
    unfold g_X12_ways_54 at hf
    have h_127 : ∀ (x1_127 : Int32) (M_127 : kD) (ls : Array Slot) (H : Heap) (locs : List Loc), lv_has ls 5 [(0, .ref (ra 0)), (1, .int x1_127)] → va_P (dC, dI) vwCl (mw cB cI cJ cZ ra M_127) H → va_D (mA ra s.heap.size) (mw cB cI cJ cZ ra M_127) → va_S (mA ra s.heap.size) s.heap H locs → g_X12_ways_127 x1_127 M_127 = some r → W p l e (headSpec wsX12_ways rm_X12_ways).room s m args below meth c H locs 0 0 (MQ below (mQi dC dI cB cI cJ cZ ra s.heap.size r) args s 0 0 (mA ra s.heap.size)) (F0 m 127 ls []) := by
      intro x1_127 M_127 ls H locs hl hP hD hS hf
      unfold g_X12_ways_127 at hf
      have h_134 := lp_ind (z := (fun _ _ _ => none)) (b := (g_X12_ways_134)) (fun (rc_134 : Int32 → Int32 → kD → Option (Int32 × kD)) => ∀ (x1_134 : Int32) (x3_134 : Int32) (M_134 : kD) (ls : Array Slot) (H : Heap) (locs : List Loc), lv_has ls 5 [(0, .ref (ra 0)), (1, .int x1_134), (3, .int x3_134)] → va_P (dC, dI) vwCl (mw cB cI cJ cZ ra M_134) H → va_D (mA ra s.heap.size) (mw cB cI cJ cZ ra M_134) → va_S (mA ra s.heap.size) s.heap H locs → rc_134 x1_134 x3_134 M_134 = some r → W p l e (headSpec wsX12_ways rm_X12_ways).room s m args below meth c H locs 0 0 (MQ below (mQi dC dI cB cI cJ cZ ra s.heap.size r) args s 0 0 (mA ra s.heap.size)) (F0 m 134 ls [])) (by
          intro x1_134 x3_134 M_134 ls H locs hl hP hD hS hf
          cases hf) (by
          intro rc_134 ih_134 x1_134 x3_134 M_134 ls H locs hl hP hD hS hf
          unfold g_X12_ways_134 at hf
          have h_163 : ∀ (x1_163 : Int32) (x3_163 : Int32) (M_163 : kD) (ls : Array Slot) (H : Heap) (locs : List Loc), lv_has ls 5 [(0, .ref (ra 0)), (1, .int x1_163), (3, .int x3_163)] → va_P (dC, dI) vwCl (mw cB cI cJ cZ ra M_163) H → va_D (mA ra s.heap.size) (mw cB cI cJ cZ ra M_163) → va_S (mA ra s.heap.size) s.heap H locs → g_X12_ways_163 rc_134 x1_163 x3_163 M_163 = some r → W p l e (headSpec wsX12_ways rm_X12_ways).room s m args below meth c H locs 0 0 (MQ below (mQi dC dI cB cI cJ cZ ra s.heap.size r) args s 0 0 (mA ra s.heap.size)) (F0 m 163 ls []) := by
            intro x1_163 x3_163 M_163 ls H locs hl hP hD hS hf
            unfold g_X12_ways_163 at hf
            obtain ⟨v1, ev1, hf⟩ := bd1_e hf
            refine lv_iinc (k := 2) (x := x3_163) (v := v1) (nL := 5) (lv' := [(3, .int v1), (0, .ref (ra 0)), (1, .int x1_163)]) hx hb dX12_ways_163 hl rfl (kt_inc (w := 1) (by decide) ev1) (by decide) rfl (fun ls hl => ?_)
            refine lv_goto (tgt := 134) hx hb dX12_ways_166 (by decide) ?_
            exact ih_134 x1_163 v1 M_163 ls _ _ (lv_sub hl [1, 2, 0] rfl) hP hD hS hf
          refine lv_iload_n hx hb dX12_ways_134 rfl (lv_at hl 2 rfl) ?_
          refine lv_aload_n hx hb dX12_ways_135 rfl (lv_at hl 0 rfl) ?_
          refine km_get hx hb hts hin hown hK hP 3 (by decide) (v := .int (M_134.1 0 3)) k_fieldLink_RX12_18__KeyLettersModel___size___I_ rfl dX12_ways_136 ?_
          refine lv_icmp_ge (tgt := 169) hx hb dX12_ways_139 (by decide) (fun hb8 => ?_) (fun hb8 => ?_)
          · have hf := (if_pos hb8).symm.trans hf
            refine lv_iload_n hx hb dX12_ways_169 rfl (lv_at hl 1 rfl) ?_
            have hf := Option.some.inj hf
            subst hf
            exact m_iret hx hb hr hlocks hP hK hD hS dX12_ways_170
          · have hf := (if_neg hb8).symm.trans hf
            refine lv_aload_n hx hb dX12_ways_142 rfl (lv_at hl 0 rfl) ?_
            refine lv_iload_n hx hb dX12_ways_143 rfl (lv_at hl 2 rfl) ?_
            obtain ⟨v2, hq3, hf⟩ := bo_e hf
            refine ko_call (v := some (.int v2)) (km_run (As := [.int x3_134]) (rest := []) ⟨hx, hb, hml, hown, hts⟩ (c_X12_mostAt l dC dI cB cI cJ cZ ra M_134 x3_134 v2 hq3) (cwV 1 hts gX12_ways_X12_mostAt rfl rfl rfl (by decide +kernel) ⟨Nat.le_of_ble_eq_true rfl, Nat.le_of_ble_eq_true rfl⟩) hK hP (fun _ _ _ _ => mPr_bl) (fun U hU hW => ⟨by rw [hU]; exact hP, va_K.moved hW.alike hK⟩) rfl rfl hl.1 rfl (lv_room (Nat.le_of_ble_eq_true rfl)) dX12_ways_144 ⟨Nat.le_refl _, Nat.le_refl _⟩) ?_
            refine lv_aload_n hx hb dX12_ways_147 rfl (lv_at hl 0 rfl) ?_
            refine lv_aload_n hx hb dX12_ways_148 rfl (lv_at hl 0 rfl) ?_
            refine km_get hx hb hts hin hown hK hP 30 (by decide) (v := .int (M_134.1 0 30)) k_fieldLink_RX12_342__KeyLettersModel___askPlace___I_ rfl dX12_ways_149 ?_
            obtain ⟨v4, hq5, hf⟩ := bo_e hf
            refine ko_call (v := some (.int v4)) (km_run (As := [.int (M_134.1 0 30)]) (rest := [.int v2]) ⟨hx, hb, hml, hown, hts⟩ (c_X12_mostAt l dC dI cB cI cJ cZ ra M_134 (M_134.1 0 30) v4 hq5) (cwV 1 hts gX12_ways_X12_mostAt rfl rfl rfl (by decide +kernel) ⟨Nat.le_of_ble_eq_true rfl, Nat.le_of_ble_eq_true rfl⟩) hK hP (fun _ _ _ _ => mPr_bl) (fun U hU hW => ⟨by rw [hU]; exact hP, va_K.moved hW.alike hK⟩) rfl rfl hl.1 rfl (lv_room (Nat.le_of_ble_eq_true rfl)) dX12_ways_152 ⟨Nat.le_refl _, Nat.le_refl _⟩) ?_
            refine lv_icmp_ge (tgt := 163) hx hb dX12_ways_155 (by decide) (fun hb7 => ?_) (fun hb7 => ?_)
            · have hf := (if_pos hb7).symm.trans hf
              exact h_163 x1_134 x3_134 M_134 ls _ _ hl hP hD hS hf
            · have hf := (if_neg hb7).symm.trans hf
              refine lv_aload_n hx hb dX12_ways_158 rfl (lv_at hl 0 rfl) ?_
              refine lv_iload_n hx hb dX12_ways_159 rfl (lv_at hl 2 rfl) ?_
              obtain ⟨M6, eM6, hf⟩ := bd1_e hf
              refine km_put hx hb hts hin hown hK hP hD hS 30 (by decide) k_fieldLink_RX12_342__KeyLettersModel___askPlace___I_ rfl (ty := .int) (v := .int x3_134) (by decide +kernel) rfl rfl (M1 := M6) (by rw [eM6]; exact mo_30 cB cI cJ cZ ra M_134 x3_134) dX12_ways_160 (fun H locs hP hD hS => ?_)
              exact h_163 x1_134 x3_134 M6 ls _ _ hl hP hD hS hf) 2000
      refine lv_aload_n hx hb dX12_ways_127 rfl (lv_at hl 0 rfl) ?_
      refine lv_iconst (v := 0) hx hb dX12_ways_128 (by decide) ?_
      obtain ⟨M9, eM9, hf⟩ := bd1_e hf
      refine km_put hx hb hts hin hown hK hP hD hS 30 (by decide) k_fieldLink_RX12_342__KeyLettersModel___askPlace___I_ rfl (ty := .int) (v := .int (0 : Int32)) (by decide +kernel) rfl rfl (M1 := M9) (by rw [eM9]; exact mo_30 cB cI cJ cZ ra M_127 (0 : Int32)) dX12_ways_129 (fun H locs hP hD hS => ?_)
      refine lv_iconst (v := 1) hx hb dX12_ways_132 (by decide) ?_
      refine lv_istore_n (nL := 5) (lv' := [(3, .int (1 : Int32)), (0, .ref (ra 0)), (1, .int x1_127)]) hx hb dX12_ways_133 rfl hl (by decide) rfl (fun ls hl => ?_)
      exact h_134 x1_127 (1 : Int32) M9 ls _ _ (lv_sub hl [1, 2, 0] rfl) hP hD hS hf
    have h_72 := lp_ind (z := (fun _ _ _ _ => none)) (b := (g_X12_ways_72)) (fun (rc_72 : Int32 → Int32 → Int32 → kD → Option (Int32 × kD)) => ∀ (x1_72 : Int32) (x2_72 : Int32) (x3_72 : Int32) (M_72 : kD) (ls : Array Slot) (H : Heap) (locs : List Loc), lv_has ls 5 [(0, .ref (ra 0)), (1, .int x1_72), (2, .int x2_72), (3, .int x3_72)] → va_P (dC, dI) vwCl (mw cB cI cJ cZ ra M_72) H → va_D (mA ra s.heap.size) (mw cB cI cJ cZ ra M_72) → va_S (mA ra s.heap.size) s.heap H locs → rc_72 x1_72 x2_72 x3_72 M_72 = some r → W p l e (headSpec wsX12_ways rm_X12_ways).room s m args below meth c H locs 0 0 (MQ below (mQi dC dI cB cI cJ cZ ra s.heap.size r) args s 0 0 (mA ra s.heap.size)) (F0 m 72 ls [])) (by
        intro x1_72 x2_72 x3_72 M_72 ls H locs hl hP hD hS hf
        cases hf) (by
        intro rc_72 ih_72 x1_72 x2_72 x3_72 M_72 ls H locs hl hP hD hS hf
        unfold g_X12_ways_72 at hf
        have h_110 : ∀ (x1_110 : Int32) (x3_110 : Int32) (x4_110 : Int32) (M_110 : kD) (ls : Array Slot) (H : Heap) (locs : List Loc), lv_has ls 5 [(0, .ref (ra 0)), (1, .int x1_110), (3, .int x3_110), (4, .int x4_110)] → va_P (dC, dI) vwCl (mw cB cI cJ cZ ra M_110) H → va_D (mA ra s.heap.size) (mw cB cI cJ cZ ra M_110) → va_S (mA ra s.heap.size) s.heap H locs → g_X12_ways_110 rc_72 x1_110 x3_110 x4_110 M_110 = some r → W p l e (headSpec wsX12_ways rm_X12_ways).room s m args below meth c H locs 0 0 (MQ below (mQi dC dI cB cI cJ cZ ra s.heap.size r) args s 0 0 (mA ra s.heap.size)) (F0 m 110 ls []) := by
          intro x1_110 x3_110 x4_110 M_110 ls H locs hl hP hD hS hf
          unfold g_X12_ways_110 at hf
          refine lv_aload_n hx hb dX12_ways_110 rfl (lv_at hl 0 rfl) ?_
          refine km_get hx hb hts hin hown hK hP 28 (by decide) (v := .ref (ra 28)) k_fieldLink_RX12_71__KeyLettersModel___waysRow____I_ rfl dX12_ways_111 ?_
          refine lv_iload_n hx hb dX12_ways_114 rfl (lv_at hl 2 rfl) ?_
          refine lv_iload hx hb dX12_ways_115 (lv_at hl 3 rfl) ?_
          obtain ⟨hc10, hf⟩ := ck_e hf
          obtain ⟨M11, eM11, hf⟩ := bd1_e hf
          refine va_iast hx hb hK hP hD hS 13 1 rfl rfl hc10 dX12_ways_117 (fun H locs hP hD hS => ?_)
          have hP : va_P (dC, dI) vwCl (mw cB cI cJ cZ ra M11) H := by rw [eM11, ← ma_28 cB cI cJ cZ ra M_110 x3_110.toNatClampNeg x4_110]; exact hP
          have hD : va_D (mA ra s.heap.size) (mw cB cI cJ cZ ra M11) := by rw [eM11, ← ma_28 cB cI cJ cZ ra M_110 x3_110.toNatClampNeg x4_110]; exact hD
          refine lv_iload hx hb dX12_ways_118 (lv_at hl 3 rfl) ?_
          refine lv_istore_n (nL := 5) (lv' := [(2, .int x4_110), (0, .ref (ra 0)), (1, .int x1_110), (3, .int x3_110), (4, .int x4_110)]) hx hb dX12_ways_120 rfl hl (by decide) rfl (fun ls hl => ?_)
          obtain ⟨v12, ev12, hf⟩ := bd1_e hf
          refine lv_iinc (k := 3) (x := x3_110) (v := v12) (nL := 5) (lv' := [(3, .int v12), (2, .int x4_110), (0, .ref (ra 0)), (1, .int x1_110), (4, .int x4_110)]) hx hb dX12_ways_121 hl rfl (kt_inc (w := 1) (by decide) ev12) (by decide) rfl (fun ls hl => ?_)
          refine lv_goto (tgt := 72) hx hb dX12_ways_124 (by decide) ?_
          exact ih_72 x1_110 x4_110 v12 M11 ls _ _ (lv_sub hl [2, 3, 1, 0] rfl) hP hD hS hf
        have h_83 := lp_ind (z := (fun _ _ _ _ _ => none)) (b := (g_X12_ways_83 rc_72)) (fun (rc_83 : Int32 → Int32 → Int32 → Int32 → kD → Option (Int32 × kD)) => ∀ (x1_83 : Int32) (x2_83 : Int32) (x3_83 : Int32) (x4_83 : Int32) (M_83 : kD) (ls : Array Slot) (H : Heap) (locs : List Loc), lv_has ls 5 [(0, .ref (ra 0)), (1, .int x1_83), (2, .int x2_83), (3, .int x3_83), (4, .int x4_83)] → va_P (dC, dI) vwCl (mw cB cI cJ cZ ra M_83) H → va_D (mA ra s.heap.size) (mw cB cI cJ cZ ra M_83) → va_S (mA ra s.heap.size) s.heap H locs → rc_83 x1_83 x2_83 x3_83 x4_83 M_83 = some r → W p l e (headSpec wsX12_ways rm_X12_ways).room s m args below meth c H locs 0 0 (MQ below (mQi dC dI cB cI cJ cZ ra s.heap.size r) args s 0 0 (mA ra s.heap.size)) (F0 m 83 ls [])) (by
            intro x1_83 x2_83 x3_83 x4_83 M_83 ls H locs hl hP hD hS hf
            cases hf) (by
            intro rc_83 ih_83 x1_83 x2_83 x3_83 x4_83 M_83 ls H locs hl hP hD hS hf
            unfold g_X12_ways_83 at hf
            have h_104 : ∀ (x1_104 : Int32) (x2_104 : Int32) (x3_104 : Int32) (x4_104 : Int32) (M_104 : kD) (ls : Array Slot) (H : Heap) (locs : List Loc), lv_has ls 5 [(0, .ref (ra 0)), (1, .int x1_104), (2, .int x2_104), (3, .int x3_104), (4, .int x4_104)] → va_P (dC, dI) vwCl (mw cB cI cJ cZ ra M_104) H → va_D (mA ra s.heap.size) (mw cB cI cJ cZ ra M_104) → va_S (mA ra s.heap.size) s.heap H locs → g_X12_ways_104 rc_72 rc_83 x1_104 x2_104 x3_104 x4_104 M_104 = some r → W p l e (headSpec wsX12_ways rm_X12_ways).room s m args below meth c H locs 0 0 (MQ below (mQi dC dI cB cI cJ cZ ra s.heap.size r) args s 0 0 (mA ra s.heap.size)) (F0 m 104 ls []) := by
              intro x1_104 x2_104 x3_104 x4_104 M_104 ls H locs hl hP hD hS hf
              unfold g_X12_ways_104 at hf
              obtain ⟨v13, ev13, hf⟩ := bd1_e hf
              refine lv_iinc (k := 4) (x := x4_104) (v := v13) (nL := 5) (lv' := [(4, .int v13), (0, .ref (ra 0)), (1, .int x1_104), (2, .int x2_104), (3, .int x3_104)]) hx hb dX12_ways_104 hl rfl (kt_inc (w := 1) (by decide) ev13) (by decide) rfl (fun ls hl => ?_)
              refine lv_goto (tgt := 83) hx hb dX12_ways_107 (by decide) ?_
              exact ih_83 x1_104 x2_104 x3_104 v13 M_104 ls _ _ (lv_sub hl [1, 2, 3, 4, 0] rfl) hP hD hS hf
            refine lv_iload hx hb dX12_ways_83 (lv_at hl 4 rfl) ?_
            refine lv_iload_n hx hb dX12_ways_85 rfl (lv_at hl 2 rfl) ?_
            refine lv_icmp_eq (tgt := 104) hx hb dX12_ways_86 (by decide) (fun hb17 => ?_) (fun hb17 => ?_)
            · have hf := (if_pos hb17).symm.trans hf
              exact h_104 x1_83 x2_83 x3_83 x4_83 M_83 ls _ _ hl hP hD hS hf
            · have hf := (if_neg hb17).symm.trans hf
              refine lv_aload_n hx hb dX12_ways_89 rfl (lv_at hl 0 rfl) ?_
              refine km_get hx hb hts hin hown hK hP 27 (by decide) (v := .ref (ra 27)) k_fieldLink_RX12_68__KeyLettersModel___behind____I_ rfl dX12_ways_90 ?_
              refine lv_bipush (v := 6) hx hb dX12_ways_93 (by decide) ?_
              refine lv_iload_n hx hb dX12_ways_95 rfl (lv_at hl 3 rfl) ?_
              refine lv_imul hx hb dX12_ways_96 ?_
              refine lv_iload hx hb dX12_ways_97 (lv_at hl 4 rfl) ?_
              refine lv_iadd hx hb dX12_ways_99 ?_
              obtain ⟨v14, ev14, hf⟩ := bd1_e hf
              refine kt_i ev14 ?_
              obtain ⟨hc15, hf⟩ := ck_e hf
              refine va_iald hx hb hK hP 12 1 rfl rfl hc15 dX12_ways_100 ?_
              refine lv_if_ne (tgt := 110) hx hb dX12_ways_101 (by decide) (fun hb16 => ?_) (fun hb16 => ?_)
              · have hf := (if_neg hb16).symm.trans hf
                exact h_110 x1_83 x3_83 x4_83 M_83 ls _ _ (lv_sub hl [0, 1, 3, 4] rfl) hP hD hS hf
              · have hf := (if_pos hb16).symm.trans hf
                exact h_104 x1_83 x2_83 x3_83 x4_83 M_83 ls _ _ hl hP hD hS hf) 2000
        refine lv_iload_n hx hb dX12_ways_72 rfl (lv_at hl 3 rfl) ?_
        refine lv_aload_n hx hb dX12_ways_73 rfl (lv_at hl 0 rfl) ?_
        refine km_get hx hb hts hin hown hK hP 3 (by decide) (v := .int (M_72.1 0 3)) k_fieldLink_RX12_18__KeyLettersModel___size___I_ rfl dX12_ways_74 ?_
        refine lv_icmp_ge (tgt := 127) hx hb dX12_ways_77 (by decide) (fun hb18 => ?_) (fun hb18 => ?_)
        · have hf := (if_pos hb18).symm.trans hf
          exact h_127 x1_72 M_72 ls _ _ (lv_sub hl [0, 1] rfl) hP hD hS hf
        · have hf := (if_neg hb18).symm.trans hf
          refine lv_iconst (v := 0) hx hb dX12_ways_80 (by decide) ?_
          refine lv_istore (nL := 5) (lv' := [(4, .int (0 : Int32)), (0, .ref (ra 0)), (1, .int x1_72), (2, .int x2_72), (3, .int x3_72)]) hx hb dX12_ways_81 hl (by decide) rfl (fun ls hl => ?_)
          exact h_83 x1_72 x2_72 x3_72 (0 : Int32) M_72 ls _ _ (lv_sub hl [1, 2, 3, 4, 0] rfl) hP hD hS hf) 2000
    refine lv_iload_n hx hb dX12_ways_54 rfl (lv_at hl 1 rfl) ?_
    refine lv_if_ne (tgt := 60) hx hb dX12_ways_55 (by decide) (fun hb20 => ?_) (fun hb20 => ?_)
    · have hf := (if_neg hb20).symm.trans hf
      refine lv_aload_n hx hb dX12_ways_60 rfl (lv_at hl 0 rfl) ?_
      refine lv_aload_n hx hb dX12_ways_61 rfl (lv_at hl 0 rfl) ?_
      refine km_get hx hb hts hin hown hK hP 3 (by decide) (v := .int (M_54.1 0 3)) k_fieldLink_RX12_18__KeyLettersModel___size___I_ rfl dX12_ways_62 ?_
      obtain ⟨M19, eM19, hf⟩ := bd1_e hf
      refine km_put hx hb hts hin hown hK hP hD hS 29 (by decide) k_fieldLink_RX12_74__KeyLettersModel___waysMany___I_ rfl (ty := .int) (v := .int (M_54.1 0 3)) (by decide +kernel) rfl rfl (M1 := M19) (by rw [eM19]; exact mo_29 cB cI cJ cZ ra M_54 (M_54.1 0 3)) dX12_ways_65 (fun H locs hP hD hS => ?_)
      refine lv_iconst (v := -1) hx hb dX12_ways_68 (by decide) ?_
      refine lv_istore_n (nL := 5) (lv' := [(2, .int (-1 : Int32)), (0, .ref (ra 0)), (1, .int x1_54)]) hx hb dX12_ways_69 rfl hl (by decide) rfl (fun ls hl => ?_)
      refine lv_iconst (v := 0) hx hb dX12_ways_70 (by decide) ?_
      refine lv_istore_n (nL := 5) (lv' := [(3, .int (0 : Int32)), (2, .int (-1 : Int32)), (0, .ref (ra 0)), (1, .int x1_54)]) hx hb dX12_ways_71 rfl hl (by decide) rfl (fun ls hl => ?_)
      exact h_72 x1_54 (-1 : Int32) (0 : Int32) M19 ls _ _ (lv_sub hl [2, 3, 1, 0] rfl) hP hD hS hf
    · have hf := (if_pos hb20).symm.trans hf
      refine lv_iconst (v := 0) hx hb dX12_ways_58 (by decide) ?_
      have hf := Option.some.inj hf
      subst hf
      exact m_iret hx hb hr hlocks hP hK hD hS dX12_ways_59
  have h_29 := lp_ind (z := (fun _ _ _ => none)) (b := (g_X12_ways_29)) (fun (rc_29 : Int32 → Int32 → kD → Option (Int32 × kD)) => ∀ (x1_29 : Int32) (x2_29 : Int32) (M_29 : kD) (ls : Array Slot) (H : Heap) (locs : List Loc), lv_has ls 5 [(0, .ref (ra 0)), (1, .int x1_29), (2, .int x2_29)] → va_P (dC, dI) vwCl (mw cB cI cJ cZ ra M_29) H → va_D (mA ra s.heap.size) (mw cB cI cJ cZ ra M_29) → va_S (mA ra s.heap.size) s.heap H locs → rc_29 x1_29 x2_29 M_29 = some r → W p l e (headSpec wsX12_ways rm_X12_ways).room s m args below meth c H locs 0 0 (MQ below (mQi dC dI cB cI cJ cZ ra s.heap.size r) args s 0 0 (mA ra s.heap.size)) (F0 m 29 ls [])) (by
      intro x1_29 x2_29 M_29 ls H locs hl hP hD hS hf
      cases hf) (by
      intro rc_29 ih_29 x1_29 x2_29 M_29 ls H locs hl hP hD hS hf
      unfold g_X12_ways_29 at hf
      refine lv_iload_n hx hb dX12_ways_29 rfl (lv_at hl 2 rfl) ?_
      refine lv_aload_n hx hb dX12_ways_30 rfl (lv_at hl 0 rfl) ?_
      refine km_get hx hb hts hin hown hK hP 6 (by decide) (v := .ref (ra 6)) k_fieldLink_RX12_33__KeyLettersModel___s____I_ rfl dX12_ways_31 ?_
      refine lv_iconst (v := 0) hx hb dX12_ways_34 (by decide) ?_
      refine va_iald hx hb hK hP 2 1 rfl rfl (show ¬ ((0 : Int32) < 0 ∨ 279 ≤ (0 : Int32).toNatClampNeg) by decide +kernel) dX12_ways_35 ?_
      refine lv_icmp_ge (tgt := 54) hx hb dX12_ways_36 (by decide) (fun hb24 => ?_) (fun hb24 => ?_)
      · have hf := (if_pos hb24).symm.trans hf
        exact h_54 x1_29 M_29 ls _ _ (lv_sub hl [0, 1] rfl) hP hD hS hf
      · have hf := (if_neg hb24).symm.trans hf
        refine lv_iload_n hx hb dX12_ways_39 rfl (lv_at hl 1 rfl) ?_
        refine lv_aload_n hx hb dX12_ways_40 rfl (lv_at hl 0 rfl) ?_
        refine km_get hx hb hts hin hown hK hP 27 (by decide) (v := .ref (ra 27)) k_fieldLink_RX12_68__KeyLettersModel___behind____I_ rfl dX12_ways_41 ?_
        refine lv_iload_n hx hb dX12_ways_44 rfl (lv_at hl 2 rfl) ?_
        obtain ⟨hc21, hf⟩ := ck_e hf
        refine va_iald hx hb hK hP 12 1 rfl rfl hc21 dX12_ways_45 ?_
        refine lv_iadd hx hb dX12_ways_46 ?_
        obtain ⟨v22, ev22, hf⟩ := bd1_e hf
        refine kt_i ev22 ?_
        refine lv_istore_n (nL := 5) (lv' := [(1, .int v22), (0, .ref (ra 0)), (2, .int x2_29)]) hx hb dX12_ways_47 rfl hl (by decide) rfl (fun ls hl => ?_)
        obtain ⟨v23, ev23, hf⟩ := bd1_e hf
        refine lv_iinc (k := 2) (x := x2_29) (v := v23) (nL := 5) (lv' := [(2, .int v23), (1, .int v22), (0, .ref (ra 0))]) hx hb dX12_ways_48 hl rfl (kt_inc (w := 1) (by decide) ev23) (by decide) rfl (fun ls hl => ?_)
        refine lv_goto (tgt := 29) hx hb dX12_ways_51 (by decide) ?_
        exact ih_29 v22 v23 M_29 ls _ _ (lv_sub hl [2, 1, 0] rfl) hP hD hS hf) 2000
  refine lv_aload_n hx hb dX12_ways_0 rfl (lv_at hl 0 rfl) ?_
  refine lv_iconst (v := 0) hx hb dX12_ways_1 (by decide) ?_
  obtain ⟨M25, eM25, hf⟩ := bd1_e hf
  refine km_put hx hb hts hin hown hK hP hD hS 0 (by decide) k_fieldLink_RX12_1__KeyLettersModel___thrown___I_ rfl (ty := .int) (v := .int (0 : Int32)) (by decide +kernel) rfl rfl (M1 := M25) (by rw [eM25]; exact mo_0 cB cI cJ cZ ra M (0 : Int32)) dX12_ways_2 (fun H locs hP hD hS => ?_)
  refine lv_aload_n hx hb dX12_ways_5 rfl (lv_at hl 0 rfl) ?_
  refine lv_sipush (v := 940) hx hb dX12_ways_6 (by decide) ?_
  obtain ⟨M26, hq27, hf⟩ := bo_e hf
  refine km_callwv (M1 := M26) (km_run (As := [.int (940 : Int32)]) (rest := []) ⟨hx, hb, hml, hown, hts⟩ (c_X12_taken l dC dI cB cI cJ cZ ra _ M25 (940 : Int32) M26 hq27) (cwV 1 hts gX12_ways_X12_taken rfl rfl rfl (by decide +kernel) ⟨Nat.le_of_ble_eq_true rfl, Nat.le_of_ble_eq_true rfl⟩) hK hP (fun _ _ _ _ => mPw_bl) (fun U hU hW => ⟨by rw [hU], by rw [hU]; exact hP, va_K.moved hW.alike hK, hD.weaken (fun _ _ _ _ => trivial)⟩) rfl rfl hl.1 rfl (lv_room (Nat.le_of_ble_eq_true rfl)) dX12_ways_9 ⟨Nat.le_refl _, Nat.le_refl _⟩) hD hS hA (fun H locs hP hD hS => ?_)
  refine lv_aload_n hx hb dX12_ways_12 rfl (lv_at hl 0 rfl) ?_
  obtain ⟨v28, hq29, hf⟩ := bo_e hf
  refine ko_call (v := some (.int v28)) (km_run (As := []) (rest := []) ⟨hx, hb, hml, hown, hts⟩ (c_X12_isRow l dC dI cB cI cJ cZ ra M26  v28 hq29) (cwV 0 hts gX12_ways_X12_isRow rfl rfl rfl (by decide +kernel) ⟨Nat.le_of_ble_eq_true rfl, Nat.le_of_ble_eq_true rfl⟩) hK hP (fun _ _ _ _ => mPr_bl) (fun U hU hW => ⟨by rw [hU]; exact hP, va_K.moved hW.alike hK⟩) rfl rfl hl.1 rfl (lv_room (Nat.le_of_ble_eq_true rfl)) dX12_ways_13 ⟨Nat.le_refl _, Nat.le_refl _⟩) ?_
  refine lv_if_ne (tgt := 21) hx hb dX12_ways_16 (by decide) (fun hb32 => ?_) (fun hb32 => ?_)
  · have hf := (if_neg hb32).symm.trans hf
    refine lv_aload_n hx hb dX12_ways_21 rfl (lv_at hl 0 rfl) ?_
    obtain ⟨M30, hq31, hf⟩ := bo_e hf
    refine km_callwv (M1 := M30) (km_run (As := []) (rest := []) ⟨hx, hb, hml, hown, hts⟩ (c_X12_laysWays l dC dI cB cI cJ cZ ra _ M26  M30 hq31) (cwV 0 hts gX12_ways_X12_laysWays rfl rfl rfl (by decide +kernel) ⟨Nat.le_of_ble_eq_true rfl, Nat.le_of_ble_eq_true rfl⟩) hK hP (fun _ _ _ _ => mPw_bl) (fun U hU hW => ⟨by rw [hU], by rw [hU]; exact hP, va_K.moved hW.alike hK, hD.weaken (fun _ _ _ _ => trivial)⟩) rfl rfl hl.1 rfl (lv_room (Nat.le_of_ble_eq_true rfl)) dX12_ways_22 ⟨Nat.le_refl _, Nat.le_refl _⟩) hD hS hA (fun H locs hP hD hS => ?_)
    refine lv_iconst (v := 0) hx hb dX12_ways_25 (by decide) ?_
    refine lv_istore_n (nL := 5) (lv' := [(1, .int (0 : Int32)), (0, .ref (ra 0))]) hx hb dX12_ways_26 rfl hl (by decide) rfl (fun ls hl => ?_)
    refine lv_iconst (v := 0) hx hb dX12_ways_27 (by decide) ?_
    refine lv_istore_n (nL := 5) (lv' := [(2, .int (0 : Int32)), (1, .int (0 : Int32)), (0, .ref (ra 0))]) hx hb dX12_ways_28 rfl hl (by decide) rfl (fun ls hl => ?_)
    exact h_29 (0 : Int32) (0 : Int32) M30 ls _ _ (lv_sub hl [2, 1, 0] rfl) hP hD hS hf
  · have hf := (if_pos hb32).symm.trans hf
    refine lv_iconst (v := -1) hx hb dX12_ways_19 (by decide) ?_
    have hf := Option.some.inj hf
    subst hf
    exact m_iret hx hb hr hlocks hP hK hD hS dX12_ways_20

abbrev rm_X12_waysAt : Room := { frames := 1, cells := 0, slots := 0, locals := 22 }
set_option maxHeartbeats 4000000 in
set_option maxRecDepth 100000 in
theorem c_X12_waysAt (l : Launch) (dC : Nat → ClassId) (dI : Nat → Nat → Nat) (cB cI cJ cZ : ClassId) (ra : Nat → Nat) (sz : Nat) (M : kD) (a0 : Int32) (r : (Int32 × kD)) (hf : f_X12_waysAt a0 M = some r) : Met l yX12_waysAt wsX12_waysAt rm_X12_waysAt (va_Pc [.ref (ra 0), .int a0] (mPw dC dI cB cI cJ cZ ra sz M)) (mQi dC dI cB cI cJ cZ ra sz r) 0 0 (mA ra sz) := by
  refine Met.ofW (cc := cX12_waysAt) (maxL := 2) (ret := (some .int)) (by decide) rfl ?_
  intro p e s m args below meth c s₁ B hml hv
  obtain ⟨hav, hsz, hP, hK, hD0⟩ := hv
  have hx := B.exec
  have hb := B.bytes
  have hr := B.returns
  have hts := atoms_spec (ws := wsX12_waysAt) B.pre
  have hown : s.vm.findClass RX12 = some m.cls := findClass_of_methodNamed B.named
  have hlocks := B.notSynchronized
  subst hsz
  have hA : ∀ q, s.heap.size ≤ q → mA ra s.heap.size q := fun q h => Or.inr h
  have hD : va_D (mA ra s.heap.size) (mw cB cI cJ cZ ra M) := hD0.weaken (fun k q h _ => mA_in h)
  have hS : va_S (mA ra s.heap.size) s.heap s.heap [] := va_S.rf
  have hin : ∀ w ∈ wsX120, w ∈ wsX12_waysAt := fun w h => List.mem_cons_of_mem _ (List.mem_append_right _ h)
  have k_fieldLink_RX12_1__KeyLettersModel___thrown___I_ := hts (.fieldLink RX12 1 "KeyLettersModel" "thrown" "I") (by decide +kernel)
  have k_fieldLink_RX12_71__KeyLettersModel___waysRow____I_ := hts (.fieldLink RX12 71 "KeyLettersModel" "waysRow" "[I") (by decide +kernel)
  have k_fieldLink_RX12_74__KeyLettersModel___waysMany___I_ := hts (.fieldLink RX12 74 "KeyLettersModel" "waysMany" "I") (by decide +kernel)
  have hl := lv_entry ([.ref (ra 0), .int a0]) (n := 2) (Nat.le_of_ble_eq_true rfl)
  rw [show entryFrame m args 2 = entryFrame m ([.ref (ra 0), .int a0] : List Value).toArray 2 from by rw [hav], lg_entry_eq]
  generalize (lg_sl ([.ref (ra 0), .int a0]) ++ List.replicate (2 - (lg_sl ([.ref (ra 0), .int a0])).length) Slot.unset).toArray = ls at hl ⊢
  have hl : lv_has ls 2 [(0, .ref (ra 0)), (1, .int a0)] := hl
  unfold f_X12_waysAt at hf
  refine lv_aload_n hx hb dX12_waysAt_0 rfl (lv_at hl 0 rfl) ?_
  refine lv_iconst (v := 0) hx hb dX12_waysAt_1 (by decide) ?_
  obtain ⟨M1, eM1, hf⟩ := bd1_e hf
  refine km_put hx hb hts hin hown hK hP hD hS 0 (by decide) k_fieldLink_RX12_1__KeyLettersModel___thrown___I_ rfl (ty := .int) (v := .int (0 : Int32)) (by decide +kernel) rfl rfl (M1 := M1) (by rw [eM1]; exact mo_0 cB cI cJ cZ ra M (0 : Int32)) dX12_waysAt_2 (fun H locs hP hD hS => ?_)
  refine lv_iload_n hx hb dX12_waysAt_5 rfl (lv_at hl 1 rfl) ?_
  refine lv_iconst (v := 0) hx hb dX12_waysAt_6 (by decide) ?_
  refine lv_aload_n hx hb dX12_waysAt_7 rfl (lv_at hl 0 rfl) ?_
  refine km_get hx hb hts hin hown hK hP 29 (by decide) (v := .int (M1.1 0 29)) k_fieldLink_RX12_74__KeyLettersModel___waysMany___I_ rfl dX12_waysAt_8 ?_
  refine lv_iconst (v := 1) hx hb dX12_waysAt_11 (by decide) ?_
  refine lv_isub hx hb dX12_waysAt_12 ?_
  refine ko_call (v := some (.int (f_X12_isIn a0 (0 : Int32) ((M1.1 0 29) - (1 : Int32))))) (va_runS (As := [.int a0, .int (0 : Int32), .int ((M1.1 0 29) - (1 : Int32))]) (rest := []) ⟨hx, hb, hml, hown, hts⟩ (c_X12_isIn l a0 (0 : Int32) ((M1.1 0 29) - (1 : Int32)) _ rfl) (va_cwS 3 hts gX12_waysAt_X12_isIn rfl rfl rfl (by decide +kernel) ⟨Nat.le_of_ble_eq_true rfl, Nat.le_of_ble_eq_true rfl⟩) ⟨fun a U g mk q => q, fun U hU hW => ⟨rfl, trivial⟩⟩ rfl rfl hl.1 rfl (lv_room (Nat.le_of_ble_eq_true rfl)) dX12_waysAt_13 ⟨Nat.le_refl _, Nat.le_refl _⟩) ?_
  refine lv_if_eq (tgt := 28) hx hb dX12_waysAt_16 (by decide) (fun hb3 => ?_) (fun hb3 => ?_)
  · have hf := (if_pos hb3).symm.trans hf
    refine lv_iconst (v := -1) hx hb dX12_waysAt_28 (by decide) ?_
    have hf := Option.some.inj hf
    subst hf
    exact m_iret hx hb hr hlocks hP hK hD hS dX12_waysAt_29
  · have hf := (if_neg hb3).symm.trans hf
    refine lv_aload_n hx hb dX12_waysAt_19 rfl (lv_at hl 0 rfl) ?_
    refine km_get hx hb hts hin hown hK hP 28 (by decide) (v := .ref (ra 28)) k_fieldLink_RX12_71__KeyLettersModel___waysRow____I_ rfl dX12_waysAt_20 ?_
    refine lv_iload_n hx hb dX12_waysAt_23 rfl (lv_at hl 1 rfl) ?_
    obtain ⟨hc2, hf⟩ := ck_e hf
    refine va_iald hx hb hK hP 13 1 rfl rfl hc2 dX12_waysAt_24 ?_
    refine lv_goto (tgt := 29) hx hb dX12_waysAt_25 (by decide) ?_
    have hf := Option.some.inj hf
    subst hf
    exact m_iret hx hb hr hlocks hP hK hD hS dX12_waysAt_29

abbrev rm_X12_ask : Room := { frames := 0, cells := 0, slots := 0, locals := 0 }
set_option maxHeartbeats 4000000 in
set_option maxRecDepth 100000 in
theorem c_X12_ask (l : Launch) (dC : Nat → ClassId) (dI : Nat → Nat → Nat) (cB cI cJ cZ : ClassId) (ra : Nat → Nat) (sz : Nat) (M : kD)  (r : (Int32 × kD)) (hf : f_X12_ask  M = some r) : Met l yX12_ask wsX12_ask rm_X12_ask (va_Pc [.ref (ra 0)] (mPw dC dI cB cI cJ cZ ra sz M)) (mQi dC dI cB cI cJ cZ ra sz r) 0 0 (mA ra sz) := by
  refine Met.ofW (cc := cX12_ask) (maxL := 1) (ret := (some .int)) (by decide) rfl ?_
  intro p e s m args below meth c s₁ B hml hv
  obtain ⟨hav, hsz, hP, hK, hD0⟩ := hv
  have hx := B.exec
  have hb := B.bytes
  have hr := B.returns
  have hts := atoms_spec (ws := wsX12_ask) B.pre
  have hown : s.vm.findClass RX12 = some m.cls := findClass_of_methodNamed B.named
  have hlocks := B.notSynchronized
  subst hsz
  have hA : ∀ q, s.heap.size ≤ q → mA ra s.heap.size q := fun q h => Or.inr h
  have hD : va_D (mA ra s.heap.size) (mw cB cI cJ cZ ra M) := hD0.weaken (fun k q h _ => mA_in h)
  have hS : va_S (mA ra s.heap.size) s.heap s.heap [] := va_S.rf
  have hin : ∀ w ∈ wsX120, w ∈ wsX12_ask := fun w h => List.mem_cons_of_mem _ (List.mem_append_right _ h)
  have k_fieldLink_RX12_1__KeyLettersModel___thrown___I_ := hts (.fieldLink RX12 1 "KeyLettersModel" "thrown" "I") (by decide +kernel)
  have k_fieldLink_RX12_342__KeyLettersModel___askPlace___I_ := hts (.fieldLink RX12 342 "KeyLettersModel" "askPlace" "I") (by decide +kernel)
  have k_fieldLink_RX12_74__KeyLettersModel___waysMany___I_ := hts (.fieldLink RX12 74 "KeyLettersModel" "waysMany" "I") (by decide +kernel)
  have hl := lv_entry ([.ref (ra 0)]) (n := 1) (Nat.le_of_ble_eq_true rfl)
  rw [show entryFrame m args 1 = entryFrame m ([.ref (ra 0)] : List Value).toArray 1 from by rw [hav], lg_entry_eq]
  generalize (lg_sl ([.ref (ra 0)]) ++ List.replicate (1 - (lg_sl ([.ref (ra 0)])).length) Slot.unset).toArray = ls at hl ⊢
  have hl : lv_has ls 1 [(0, .ref (ra 0))] := hl
  unfold f_X12_ask at hf
  refine lv_aload_n hx hb dX12_ask_0 rfl (lv_at hl 0 rfl) ?_
  refine lv_iconst (v := 0) hx hb dX12_ask_1 (by decide) ?_
  obtain ⟨M1, eM1, hf⟩ := bd1_e hf
  refine km_put hx hb hts hin hown hK hP hD hS 0 (by decide) k_fieldLink_RX12_1__KeyLettersModel___thrown___I_ rfl (ty := .int) (v := .int (0 : Int32)) (by decide +kernel) rfl rfl (M1 := M1) (by rw [eM1]; exact mo_0 cB cI cJ cZ ra M (0 : Int32)) dX12_ask_2 (fun H locs hP hD hS => ?_)
  refine lv_aload_n hx hb dX12_ask_5 rfl (lv_at hl 0 rfl) ?_
  refine km_get hx hb hts hin hown hK hP 29 (by decide) (v := .int (M1.1 0 29)) k_fieldLink_RX12_74__KeyLettersModel___waysMany___I_ rfl dX12_ask_6 ?_
  refine lv_if_le (tgt := 19) hx hb dX12_ask_9 (by decide) (fun hb2 => ?_) (fun hb2 => ?_)
  · have hf := (if_pos hb2).symm.trans hf
    refine lv_iconst (v := -1) hx hb dX12_ask_19 (by decide) ?_
    have hf := Option.some.inj hf
    subst hf
    exact m_iret hx hb hr hlocks hP hK hD hS dX12_ask_20
  · have hf := (if_neg hb2).symm.trans hf
    refine lv_aload_n hx hb dX12_ask_12 rfl (lv_at hl 0 rfl) ?_
    refine km_get hx hb hts hin hown hK hP 30 (by decide) (v := .int (M1.1 0 30)) k_fieldLink_RX12_342__KeyLettersModel___askPlace___I_ rfl dX12_ask_13 ?_
    refine lv_goto (tgt := 20) hx hb dX12_ask_16 (by decide) ?_
    have hf := Option.some.inj hf
    subst hf
    exact m_iret hx hb hr hlocks hP hK hD hS dX12_ask_20

abbrev rm_X12_lacks : Room := { frames := 3, cells := 0, slots := 0, locals := 65 }
set_option maxHeartbeats 4000000 in
set_option maxRecDepth 100000 in
theorem c_X12_lacks (l : Launch) (dC : Nat → ClassId) (dI : Nat → Nat → Nat) (cB cI cJ cZ : ClassId) (ra : Nat → Nat) (sz : Nat) (M : kD)  (r : (Int32 × kD)) (hf : f_X12_lacks  M = some r) : Met l yX12_lacks wsX12_lacks rm_X12_lacks (va_Pc [.ref (ra 0)] (mPw dC dI cB cI cJ cZ ra sz M)) (mQi dC dI cB cI cJ cZ ra sz r) 0 0 (mA ra sz) := by
  refine Met.ofW (cc := cX12_lacks) (maxL := 7) (ret := (some .int)) (by decide) rfl ?_
  intro p e s m args below meth c s₁ B hml hv
  obtain ⟨hav, hsz, hP, hK, hD0⟩ := hv
  have hx := B.exec
  have hb := B.bytes
  have hr := B.returns
  have hts := atoms_spec (ws := wsX12_lacks) B.pre
  have hown : s.vm.findClass RX12 = some m.cls := findClass_of_methodNamed B.named
  have hlocks := B.notSynchronized
  subst hsz
  have hA : ∀ q, s.heap.size ≤ q → mA ra s.heap.size q := fun q h => Or.inr h
  have hD : va_D (mA ra s.heap.size) (mw cB cI cJ cZ ra M) := hD0.weaken (fun k q h _ => mA_in h)
  have hS : va_S (mA ra s.heap.size) s.heap s.heap [] := va_S.rf
  have hin : ∀ w ∈ wsX120, w ∈ wsX12_lacks := fun w h => List.mem_cons_of_mem _ (List.mem_append_right _ h)
  have k_fieldLink_RX12_18__KeyLettersModel___size___I_ := hts (.fieldLink RX12 18 "KeyLettersModel" "size" "I") (by decide +kernel)
  have k_fieldLink_RX12_1__KeyLettersModel___thrown___I_ := hts (.fieldLink RX12 1 "KeyLettersModel" "thrown" "I") (by decide +kernel)
  have hl := lv_entry ([.ref (ra 0)]) (n := 7) (Nat.le_of_ble_eq_true rfl)
  rw [show entryFrame m args 7 = entryFrame m ([.ref (ra 0)] : List Value).toArray 7 from by rw [hav], lg_entry_eq]
  generalize (lg_sl ([.ref (ra 0)]) ++ List.replicate (7 - (lg_sl ([.ref (ra 0)])).length) Slot.unset).toArray = ls at hl ⊢
  have hl : lv_has ls 7 [(0, .ref (ra 0))] := hl
  unfold f_X12_lacks at hf
  have h_28 := lp_ind (z := (fun _ _ _ _ => none)) (b := (g_X12_lacks_28)) (fun (rc_28 : Int64 → Int32 → Int32 → kD → Option (Int32 × kD)) => ∀ (x1_28 : Int64) (x3_28 : Int32) (x4_28 : Int32) (M_28 : kD) (ls : Array Slot) (H : Heap) (locs : List Loc), lv_has ls 7 [(0, .ref (ra 0)), (1, .long x1_28), (3, .int x3_28), (4, .int x4_28)] → va_P (dC, dI) vwCl (mw cB cI cJ cZ ra M_28) H → va_D (mA ra s.heap.size) (mw cB cI cJ cZ ra M_28) → va_S (mA ra s.heap.size) s.heap H locs → rc_28 x1_28 x3_28 x4_28 M_28 = some r → W p l e (headSpec wsX12_lacks rm_X12_lacks).room s m args below meth c H locs 0 0 (MQ below (mQi dC dI cB cI cJ cZ ra s.heap.size r) args s 0 0 (mA ra s.heap.size)) (F0 m 28 ls [])) (by
      intro x1_28 x3_28 x4_28 M_28 ls H locs hl hP hD hS hf
      cases hf) (by
      intro rc_28 ih_28 x1_28 x3_28 x4_28 M_28 ls H locs hl hP hD hS hf
      unfold g_X12_lacks_28 at hf
      have h_100 : ∀ (x1_100 : Int64) (x3_100 : Int32) (x4_100 : Int32) (M_100 : kD) (ls : Array Slot) (H : Heap) (locs : List Loc), lv_has ls 7 [(0, .ref (ra 0)), (1, .long x1_100), (3, .int x3_100), (4, .int x4_100)] → va_P (dC, dI) vwCl (mw cB cI cJ cZ ra M_100) H → va_D (mA ra s.heap.size) (mw cB cI cJ cZ ra M_100) → va_S (mA ra s.heap.size) s.heap H locs → g_X12_lacks_100 rc_28 x1_100 x3_100 x4_100 M_100 = some r → W p l e (headSpec wsX12_lacks rm_X12_lacks).room s m args below meth c H locs 0 0 (MQ below (mQi dC dI cB cI cJ cZ ra s.heap.size r) args s 0 0 (mA ra s.heap.size)) (F0 m 100 ls []) := by
        intro x1_100 x3_100 x4_100 M_100 ls H locs hl hP hD hS hf
        unfold g_X12_lacks_100 at hf
        obtain ⟨v1, ev1, hf⟩ := bd1_e hf
        refine lv_iinc (k := 3) (x := x4_100) (v := v1) (nL := 7) (lv' := [(4, .int v1), (0, .ref (ra 0)), (1, .long x1_100), (3, .int x3_100)]) hx hb dX12_lacks_100 hl rfl (kt_inc (w := 1) (by decide) ev1) (by decide) rfl (fun ls hl => ?_)
        refine lv_goto (tgt := 28) hx hb dX12_lacks_103 (by decide) ?_
        exact ih_28 x1_100 x3_100 v1 M_100 ls _ _ (lv_sub hl [1, 2, 3, 0] rfl) hP hD hS hf
      refine lv_iload hx hb dX12_lacks_28 (lv_at hl 3 rfl) ?_
      refine lv_aload_n hx hb dX12_lacks_30 rfl (lv_at hl 0 rfl) ?_
      refine km_get hx hb hts hin hown hK hP 3 (by decide) (v := .int (M_28.1 0 3)) k_fieldLink_RX12_18__KeyLettersModel___size___I_ rfl dX12_lacks_31 ?_
      refine lv_icmp_ge (tgt := 106) hx hb dX12_lacks_34 (by decide) (fun hb17 => ?_) (fun hb17 => ?_)
      · have hf := (if_pos hb17).symm.trans hf
        refine lv_iload_n hx hb dX12_lacks_106 rfl (lv_at hl 2 rfl) ?_
        have hf := Option.some.inj hf
        subst hf
        exact m_iret hx hb hr hlocks hP hK hD hS dX12_lacks_107
      · have hf := (if_neg hb17).symm.trans hf
        refine lv_lconst (v := 1) hx hb dX12_lacks_37 (by decide) ?_
        refine lv_bipush (v := 8) hx hb dX12_lacks_38 (by decide) ?_
        refine lv_aload_n hx hb dX12_lacks_40 rfl (lv_at hl 0 rfl) ?_
        refine lv_iload hx hb dX12_lacks_41 (lv_at hl 3 rfl) ?_
        obtain ⟨v2, hq3, hf⟩ := bo_e hf
        refine ko_call (v := some (.int v2)) (km_run (As := [.int x4_28]) (rest := [.int (8 : Int32), .long (1 : Int64)]) ⟨hx, hb, hml, hown, hts⟩ (c_X12_octet l dC dI cB cI cJ cZ ra M_28 x4_28 v2 hq3) (cwV 1 hts gX12_lacks_X12_octet rfl rfl rfl (by decide +kernel) ⟨Nat.le_of_ble_eq_true rfl, Nat.le_of_ble_eq_true rfl⟩) hK hP (fun _ _ _ _ => mPr_bl) (fun U hU hW => ⟨by rw [hU]; exact hP, va_K.moved hW.alike hK⟩) rfl rfl hl.1 rfl (lv_room (Nat.le_of_ble_eq_true rfl)) dX12_lacks_43 ⟨Nat.le_refl _, Nat.le_refl _⟩) ?_
        refine lv_imul hx hb dX12_lacks_46 ?_
        refine lv_aload_n hx hb dX12_lacks_47 rfl (lv_at hl 0 rfl) ?_
        refine lv_iload hx hb dX12_lacks_48 (lv_at hl 3 rfl) ?_
        refine lv_iconst (v := 1) hx hb dX12_lacks_50 (by decide) ?_
        refine lv_isub hx hb dX12_lacks_51 ?_
        obtain ⟨v4, hq5, hf⟩ := bo_e hf
        refine ko_call (v := some (.int v4)) (km_run (As := [.int (x4_28 - (1 : Int32))]) (rest := [.int ((8 : Int32) * v2), .long (1 : Int64)]) ⟨hx, hb, hml, hown, hts⟩ (c_X12_octet l dC dI cB cI cJ cZ ra M_28 (x4_28 - (1 : Int32)) v4 hq5) (cwV 1 hts gX12_lacks_X12_octet rfl rfl rfl (by decide +kernel) ⟨Nat.le_of_ble_eq_true rfl, Nat.le_of_ble_eq_true rfl⟩) hK hP (fun _ _ _ _ => mPr_bl) (fun U hU hW => ⟨by rw [hU]; exact hP, va_K.moved hW.alike hK⟩) rfl rfl hl.1 rfl (lv_room (Nat.le_of_ble_eq_true rfl)) dX12_lacks_52 ⟨Nat.le_refl _, Nat.le_refl _⟩) ?_
        refine lv_iadd hx hb dX12_lacks_55 ?_
        refine lv_lshl (v := ((1 : Int64) <<< ((((8 : Int32) * v2) + v4).toInt64 &&& 63))) hx hb dX12_lacks_56 rfl ?_
        obtain ⟨v6, ev6, hf⟩ := bd1_e hf
        refine kt_j ev6 ?_
        refine lv_lstore (nL := 7) (lv' := [(5, .long v6), (0, .ref (ra 0)), (1, .long x1_28), (3, .int x3_28), (4, .int x4_28)]) hx hb dX12_lacks_57 hl (by decide) rfl (fun ls hl => ?_)
        refine lv_aload_n hx hb dX12_lacks_59 rfl (lv_at hl 1 rfl) ?_
        refine lv_aload_n hx hb dX12_lacks_60 rfl (lv_at hl 1 rfl) ?_
        refine lv_iload hx hb dX12_lacks_61 (lv_at hl 4 rfl) ?_
        obtain ⟨v7, hq8, hf⟩ := bo_e hf
        refine ko_call (v := some (.int v7)) (km_run (As := [.int x4_28]) (rest := [.ref (ra 0)]) ⟨hx, hb, hml, hown, hts⟩ (c_X12_octet l dC dI cB cI cJ cZ ra M_28 x4_28 v7 hq8) (cwV 1 hts gX12_lacks_X12_octet rfl rfl rfl (by decide +kernel) ⟨Nat.le_of_ble_eq_true rfl, Nat.le_of_ble_eq_true rfl⟩) hK hP (fun _ _ _ _ => mPr_bl) (fun U hU hW => ⟨by rw [hU]; exact hP, va_K.moved hW.alike hK⟩) rfl rfl hl.1 rfl (lv_room (Nat.le_of_ble_eq_true rfl)) dX12_lacks_63 ⟨Nat.le_refl _, Nat.le_refl _⟩) ?_
        refine lv_aload_n hx hb dX12_lacks_66 rfl (lv_at hl 1 rfl) ?_
        refine lv_iload hx hb dX12_lacks_67 (lv_at hl 4 rfl) ?_
        refine lv_iconst (v := 1) hx hb dX12_lacks_69 (by decide) ?_
        refine lv_isub hx hb dX12_lacks_70 ?_
        obtain ⟨v9, hq10, hf⟩ := bo_e hf
        refine ko_call (v := some (.int v9)) (km_run (As := [.int (x4_28 - (1 : Int32))]) (rest := [.int v7, .ref (ra 0)]) ⟨hx, hb, hml, hown, hts⟩ (c_X12_octet l dC dI cB cI cJ cZ ra M_28 (x4_28 - (1 : Int32)) v9 hq10) (cwV 1 hts gX12_lacks_X12_octet rfl rfl rfl (by decide +kernel) ⟨Nat.le_of_ble_eq_true rfl, Nat.le_of_ble_eq_true rfl⟩) hK hP (fun _ _ _ _ => mPr_bl) (fun U hU hW => ⟨by rw [hU]; exact hP, va_K.moved hW.alike hK⟩) rfl rfl hl.1 rfl (lv_room (Nat.le_of_ble_eq_true rfl)) dX12_lacks_71 ⟨Nat.le_refl _, Nat.le_refl _⟩) ?_
        obtain ⟨v11, hq12, hf⟩ := bo_e hf
        refine ko_call (v := some (.int v11)) (km_run (As := [.int v7, .int v9]) (rest := []) ⟨hx, hb, hml, hown, hts⟩ (c_X12_isAnswer l dC dI cB cI cJ cZ ra M_28 v7 v9 v11 hq12) (cwV 2 hts gX12_lacks_X12_isAnswer rfl rfl rfl (by decide +kernel) ⟨Nat.le_of_ble_eq_true rfl, Nat.le_of_ble_eq_true rfl⟩) hK hP (fun _ _ _ _ => mPr_bl) (fun U hU hW => ⟨by rw [hU]; exact hP, va_K.moved hW.alike hK⟩) rfl rfl hl.1 rfl (lv_room (Nat.le_of_ble_eq_true rfl)) dX12_lacks_74 ⟨Nat.le_refl _, Nat.le_refl _⟩) ?_
        refine lv_if_ne (tgt := 100) hx hb dX12_lacks_77 (by decide) (fun hb16 => ?_) (fun hb16 => ?_)
        · have hf := (if_neg hb16).symm.trans hf
          exact h_100 x1_28 x3_28 x4_28 M_28 ls _ _ (lv_sub hl [1, 2, 3, 4] rfl) hP hD hS hf
        · have hf := (if_pos hb16).symm.trans hf
          refine lv_lload_n hx hb dX12_lacks_80 rfl (lv_at hl 2 rfl) ?_
          refine lv_lload hx hb dX12_lacks_81 (lv_at hl 0 rfl) ?_
          refine lv_land hx hb dX12_lacks_83 ?_
          refine lv_lconst (v := 0) hx hb dX12_lacks_84 (by decide) ?_
          refine W.lcmp hx hb dX12_lacks_85 ?_
          refine lv_if_eq (tgt := 92) hx hb dX12_lacks_86 (by decide) (fun hb15 => ?_) (fun hb15 => ?_)
          · have hf := (if_pos hb15).symm.trans hf
            refine lv_lload_n hx hb dX12_lacks_92 rfl (lv_at hl 2 rfl) ?_
            refine lv_lload hx hb dX12_lacks_93 (lv_at hl 0 rfl) ?_
            refine lv_lor hx hb dX12_lacks_95 ?_
            obtain ⟨v13, ev13, hf⟩ := bd1_e hf
            refine kt_j ev13 ?_
            refine lv_lstore_n (nL := 7) (lv' := [(1, .long v13), (5, .long v6), (0, .ref (ra 0)), (3, .int x3_28), (4, .int x4_28)]) hx hb dX12_lacks_96 rfl hl (by decide) rfl (fun ls hl => ?_)
            obtain ⟨v14, ev14, hf⟩ := bd1_e hf
            refine lv_iinc (k := 3) (x := x3_28) (v := v14) (nL := 7) (lv' := [(3, .int v14), (1, .long v13), (5, .long v6), (0, .ref (ra 0)), (4, .int x4_28)]) hx hb dX12_lacks_97 hl rfl (kt_inc (w := 1) (by decide) ev14) (by decide) rfl (fun ls hl => ?_)
            exact h_100 v13 v14 x4_28 M_28 ls _ _ (lv_sub hl [3, 1, 0, 4] rfl) hP hD hS hf
          · have hf := (if_neg hb15).symm.trans hf
            refine lv_goto (tgt := 100) hx hb dX12_lacks_89 (by decide) ?_
            exact h_100 x1_28 x3_28 x4_28 M_28 ls _ _ (lv_sub hl [1, 2, 3, 4] rfl) hP hD hS hf) 2000
  refine lv_aload_n hx hb dX12_lacks_0 rfl (lv_at hl 0 rfl) ?_
  refine lv_iconst (v := 0) hx hb dX12_lacks_1 (by decide) ?_
  obtain ⟨M18, eM18, hf⟩ := bd1_e hf
  refine km_put hx hb hts hin hown hK hP hD hS 0 (by decide) k_fieldLink_RX12_1__KeyLettersModel___thrown___I_ rfl (ty := .int) (v := .int (0 : Int32)) (by decide +kernel) rfl rfl (M1 := M18) (by rw [eM18]; exact mo_0 cB cI cJ cZ ra M (0 : Int32)) dX12_lacks_2 (fun H locs hP hD hS => ?_)
  refine lv_aload_n hx hb dX12_lacks_5 rfl (lv_at hl 0 rfl) ?_
  refine lv_sipush (v := 940) hx hb dX12_lacks_6 (by decide) ?_
  obtain ⟨M19, hq20, hf⟩ := bo_e hf
  refine km_callwv (M1 := M19) (km_run (As := [.int (940 : Int32)]) (rest := []) ⟨hx, hb, hml, hown, hts⟩ (c_X12_taken l dC dI cB cI cJ cZ ra _ M18 (940 : Int32) M19 hq20) (cwV 1 hts gX12_lacks_X12_taken rfl rfl rfl (by decide +kernel) ⟨Nat.le_of_ble_eq_true rfl, Nat.le_of_ble_eq_true rfl⟩) hK hP (fun _ _ _ _ => mPw_bl) (fun U hU hW => ⟨by rw [hU], by rw [hU]; exact hP, va_K.moved hW.alike hK, hD.weaken (fun _ _ _ _ => trivial)⟩) rfl rfl hl.1 rfl (lv_room (Nat.le_of_ble_eq_true rfl)) dX12_lacks_9 ⟨Nat.le_refl _, Nat.le_refl _⟩) hD hS hA (fun H locs hP hD hS => ?_)
  refine lv_aload_n hx hb dX12_lacks_12 rfl (lv_at hl 0 rfl) ?_
  obtain ⟨v21, hq22, hf⟩ := bo_e hf
  refine ko_call (v := some (.int v21)) (km_run (As := []) (rest := []) ⟨hx, hb, hml, hown, hts⟩ (c_X12_isRow l dC dI cB cI cJ cZ ra M19  v21 hq22) (cwV 0 hts gX12_lacks_X12_isRow rfl rfl rfl (by decide +kernel) ⟨Nat.le_of_ble_eq_true rfl, Nat.le_of_ble_eq_true rfl⟩) hK hP (fun _ _ _ _ => mPr_bl) (fun U hU hW => ⟨by rw [hU]; exact hP, va_K.moved hW.alike hK⟩) rfl rfl hl.1 rfl (lv_room (Nat.le_of_ble_eq_true rfl)) dX12_lacks_13 ⟨Nat.le_refl _, Nat.le_refl _⟩) ?_
  refine lv_if_ne (tgt := 21) hx hb dX12_lacks_16 (by decide) (fun hb23 => ?_) (fun hb23 => ?_)
  · have hf := (if_neg hb23).symm.trans hf
    refine lv_lconst (v := 0) hx hb dX12_lacks_21 (by decide) ?_
    refine lv_lstore_n (nL := 7) (lv' := [(1, .long (0 : Int64)), (0, .ref (ra 0))]) hx hb dX12_lacks_22 rfl hl (by decide) rfl (fun ls hl => ?_)
    refine lv_iconst (v := 0) hx hb dX12_lacks_23 (by decide) ?_
    refine lv_istore_n (nL := 7) (lv' := [(3, .int (0 : Int32)), (1, .long (0 : Int64)), (0, .ref (ra 0))]) hx hb dX12_lacks_24 rfl hl (by decide) rfl (fun ls hl => ?_)
    refine lv_iconst (v := 1) hx hb dX12_lacks_25 (by decide) ?_
    refine lv_istore (nL := 7) (lv' := [(4, .int (1 : Int32)), (3, .int (0 : Int32)), (1, .long (0 : Int64)), (0, .ref (ra 0))]) hx hb dX12_lacks_26 hl (by decide) rfl (fun ls hl => ?_)
    exact h_28 (0 : Int64) (0 : Int32) (1 : Int32) M19 ls _ _ (lv_sub hl [3, 2, 1, 0] rfl) hP hD hS hf
  · have hf := (if_pos hb23).symm.trans hf
    refine lv_iconst (v := -1) hx hb dX12_lacks_19 (by decide) ?_
    have hf := Option.some.inj hf
    subst hf
    exact m_iret hx hb hr hlocks hP hK hD hS dX12_lacks_20

abbrev rm_X12_longOf : Room := { frames := 0, cells := 0, slots := 0, locals := 0 }
set_option maxHeartbeats 4000000 in
set_option maxRecDepth 100000 in
theorem c_X12_longOf (l : Launch) (a0 : Int64) (r : Int32) (hf : f_X12_longOf a0 = some r) : Met l yX12_longOf wsX12_longOf rm_X12_longOf (va_Pc [.long a0] (fun _ => True)) (kQ (some (.int r))) 0 0 (kF) := by
  refine Met.ofW (cc := cX12_longOf) (maxL := 4) (ret := (some .int)) (by decide) rfl ?_
  intro p e s m args below meth c s₁ B hml hv
  obtain ⟨hav, -⟩ := hv
  have hx := B.exec
  have hb := B.bytes
  have hr := B.returns
  have hts := atoms_spec (ws := wsX12_longOf) B.pre
  have hown : s.vm.findClass RX12 = some m.cls := findClass_of_methodNamed B.named
  have hlocks := B.notSynchronized
  have k_constantLong_RX12_348_255 := hts (.constantLong RX12 348 255) (by decide +kernel)
  have hl := lv_entry ([.long a0]) (n := 4) (Nat.le_of_ble_eq_true rfl)
  rw [show entryFrame m args 4 = entryFrame m ([.long a0] : List Value).toArray 4 from by rw [hav], lg_entry_eq]
  generalize (lg_sl ([.long a0]) ++ List.replicate (4 - (lg_sl ([.long a0])).length) Slot.unset).toArray = ls at hl ⊢
  have hl : lv_has ls 4 [(0, .long a0)] := hl
  unfold f_X12_longOf at hf
  have h_4 := lp_ind (z := (fun _ _ _ => none)) (b := (g_X12_longOf_4)) (fun (rc_4 : Int64 → Int32 → Int32 → Option Int32) => ∀ (x0_4 : Int64) (x2_4 : Int32) (x3_4 : Int32) (ls : Array Slot), lv_has ls 4 [(0, .long x0_4), (2, .int x2_4), (3, .int x3_4)] → rc_4 x0_4 x2_4 x3_4 = some r → W p l e (headSpec wsX12_longOf rm_X12_longOf).room s m args below meth c s.heap [] 0 0 (MQ below (kQ (some (.int r))) args s 0 0 (kF)) (F0 m 4 ls [])) (by
      intro x0_4 x2_4 x3_4 ls hl hf
      cases hf) (by
      intro rc_4 ih_4 x0_4 x2_4 x3_4 ls hl hf
      unfold g_X12_longOf_4 at hf
      have h_28 : ∀ (x0_28 : Int64) (x3_28 : Int32) (t0_28 : Int32) (t1_28 : Int32) (ls : Array Slot), lv_has ls 4 [(0, .long x0_28), (3, .int x3_28)] → g_X12_longOf_28 rc_4 x0_28 x3_28 t0_28 t1_28 = some r → W p l e (headSpec wsX12_longOf rm_X12_longOf).room s m args below meth c s.heap [] 0 0 (MQ below (kQ (some (.int r))) args s 0 0 (kF)) (F0 m 28 ls [.int t1_28, .int t0_28]) := by
        intro x0_28 x3_28 t0_28 t1_28 ls hl hf
        unfold g_X12_longOf_28 at hf
        refine lv_iadd hx hb dX12_longOf_28 ?_
        obtain ⟨v1, ev1, hf⟩ := bd1_e hf
        refine kt_i ev1 ?_
        refine lv_istore_n (nL := 4) (lv' := [(2, .int v1), (0, .long x0_28), (3, .int x3_28)]) hx hb dX12_longOf_29 rfl hl (by decide) rfl (fun ls hl => ?_)
        obtain ⟨v2, ev2, hf⟩ := bd1_e hf
        refine lv_iinc (k := 2) (x := x3_28) (v := v2) (nL := 4) (lv' := [(3, .int v2), (2, .int v1), (0, .long x0_28)]) hx hb dX12_longOf_30 hl rfl (kt_inc (w := 8) (by decide) ev2) (by decide) rfl (fun ls hl => ?_)
        refine lv_goto (tgt := 4) hx hb dX12_longOf_33 (by decide) ?_
        exact ih_4 x0_28 v1 v2 ls (lv_sub hl [2, 1, 0] rfl) hf
      refine lv_iload_n hx hb dX12_longOf_4 rfl (lv_at hl 2 rfl) ?_
      refine lv_bipush (v := 64) hx hb dX12_longOf_5 (by decide) ?_
      refine lv_icmp_ge (tgt := 36) hx hb dX12_longOf_7 (by decide) (fun hb4 => ?_) (fun hb4 => ?_)
      · have hf := (if_pos hb4).symm.trans hf
        refine lv_iload_n hx hb dX12_longOf_36 rfl (lv_at hl 1 rfl) ?_
        have hf := Option.some.inj hf
        subst hf
        exact W.iret (v := x2_4) hx hb hr (fun t ht hW => ⟨rfl, ht⟩) (fun _ h => nomatch h) dX12_longOf_37
      · have hf := (if_neg hb4).symm.trans hf
        refine lv_iload_n hx hb dX12_longOf_10 rfl (lv_at hl 1 rfl) ?_
        refine lv_lload_n hx hb dX12_longOf_11 rfl (lv_at hl 0 rfl) ?_
        refine lv_iload_n hx hb dX12_longOf_12 rfl (lv_at hl 2 rfl) ?_
        refine lv_lshr (v := (x0_4 >>> (x3_4.toInt64 &&& 63))) hx hb dX12_longOf_13 rfl ?_
        refine lv_ldc2 (v := 255) hx hb hown k_constantLong_RX12_348_255 dX12_longOf_14 ?_
        refine lv_land hx hb dX12_longOf_17 ?_
        refine lv_lconst (v := 0) hx hb dX12_longOf_18 (by decide) ?_
        refine W.lcmp hx hb dX12_longOf_19 ?_
        refine lv_if_eq (tgt := 27) hx hb dX12_longOf_20 (by decide) (fun hb3 => ?_) (fun hb3 => ?_)
        · have hf := (if_pos hb3).symm.trans hf
          refine lv_iconst (v := 0) hx hb dX12_longOf_27 (by decide) ?_
          exact h_28 x0_4 x3_4 x2_4 (0 : Int32) ls (lv_sub hl [0, 2] rfl) hf
        · have hf := (if_neg hb3).symm.trans hf
          refine lv_iconst (v := 1) hx hb dX12_longOf_23 (by decide) ?_
          refine lv_goto (tgt := 28) hx hb dX12_longOf_24 (by decide) ?_
          exact h_28 x0_4 x3_4 x2_4 (1 : Int32) ls (lv_sub hl [0, 2] rfl) hf) 2000
  refine lv_iconst (v := 0) hx hb dX12_longOf_0 (by decide) ?_
  refine lv_istore_n (nL := 4) (lv' := [(2, .int (0 : Int32)), (0, .long a0)]) hx hb dX12_longOf_1 rfl hl (by decide) rfl (fun ls hl => ?_)
  refine lv_iconst (v := 0) hx hb dX12_longOf_2 (by decide) ?_
  refine lv_istore_n (nL := 4) (lv' := [(3, .int (0 : Int32)), (2, .int (0 : Int32)), (0, .long a0)]) hx hb dX12_longOf_3 rfl hl (by decide) rfl (fun ls hl => ?_)
  exact h_4 a0 (0 : Int32) (0 : Int32) ls (lv_sub hl [2, 1, 0] rfl) hf

abbrev rm_X12_letterOf : Room := { frames := 1, cells := 0, slots := 0, locals := 23 }
set_option maxHeartbeats 4000000 in
set_option maxRecDepth 100000 in
theorem c_X12_letterOf (l : Launch) (dC : Nat → ClassId) (dI : Nat → Nat → Nat) (cB cI cJ cZ : ClassId) (ra : Nat → Nat) (M : kD) (a0 : Int32) (a1 : Int32) (r : Int32) (hf : f_X12_letterOf a0 a1 M = some r) : Met l yX12_letterOf wsX12_letterOf rm_X12_letterOf (va_Pc [.ref (ra 0), .int a0, .int a1] (mPr dC dI cB cI cJ cZ ra M)) (kQ (some (.int r))) 0 0 (kF) := by
  refine Met.ofW (cc := cX12_letterOf) (maxL := 5) (ret := (some .int)) (by decide) rfl ?_
  intro p e s m args below meth c s₁ B hml hv
  obtain ⟨hav, hP, hK⟩ := hv
  have hx := B.exec
  have hb := B.bytes
  have hr := B.returns
  have hts := atoms_spec (ws := wsX12_letterOf) B.pre
  have hown : s.vm.findClass RX12 = some m.cls := findClass_of_methodNamed B.named
  have hlocks := B.notSynchronized
  have hin : ∀ w ∈ wsX120, w ∈ wsX12_letterOf := fun w h => List.mem_cons_of_mem _ (List.mem_append_right _ h)
  have k_constantLong_RX12_348_255 := hts (.constantLong RX12 348 255) (by decide +kernel)
  have k_fieldLink_RX12_43__KeyLettersModel___names____J_ := hts (.fieldLink RX12 43 "KeyLettersModel" "names" "[J") (by decide +kernel)
  have hl := lv_entry ([.ref (ra 0), .int a0, .int a1]) (n := 5) (Nat.le_of_ble_eq_true rfl)
  rw [show entryFrame m args 5 = entryFrame m ([.ref (ra 0), .int a0, .int a1] : List Value).toArray 5 from by rw [hav], lg_entry_eq]
  generalize (lg_sl ([.ref (ra 0), .int a0, .int a1]) ++ List.replicate (5 - (lg_sl ([.ref (ra 0), .int a0, .int a1])).length) Slot.unset).toArray = ls at hl ⊢
  have hl : lv_has ls 5 [(0, .ref (ra 0)), (1, .int a0), (2, .int a1)] := hl
  unfold f_X12_letterOf at hf
  refine lv_aload_n hx hb dX12_letterOf_0 rfl (lv_at hl 0 rfl) ?_
  refine km_get hx hb hts hin hown hK hP 9 (by decide) (v := .ref (ra 9)) k_fieldLink_RX12_43__KeyLettersModel___names____J_ rfl dX12_letterOf_1 ?_
  refine lv_bipush (v := 6) hx hb dX12_letterOf_4 (by decide) ?_
  refine lv_iload_n hx hb dX12_letterOf_6 rfl (lv_at hl 1 rfl) ?_
  refine lv_iadd hx hb dX12_letterOf_7 ?_
  obtain ⟨v1, ev1, hf⟩ := bd1_e hf
  refine kt_i ev1 ?_
  obtain ⟨hc2, hf⟩ := ck_e hf
  refine va_lald hx hb hK hP 5 2 rfl rfl hc2 dX12_letterOf_8 ?_
  obtain ⟨v3, ev3, hf⟩ := bd1_e hf
  refine kt_j ev3 ?_
  refine lv_lstore_n (nL := 5) (lv' := [(3, .long v3), (0, .ref (ra 0)), (1, .int a0), (2, .int a1)]) hx hb dX12_letterOf_9 rfl hl (by decide) rfl (fun ls hl => ?_)
  refine lv_lload_n hx hb dX12_letterOf_10 rfl (lv_at hl 0 rfl) ?_
  refine lv_bipush (v := 8) hx hb dX12_letterOf_11 (by decide) ?_
  refine lv_lload_n hx hb dX12_letterOf_13 rfl (lv_at hl 0 rfl) ?_
  obtain ⟨v4, hq5, hf⟩ := bo_e hf
  refine ko_call (v := some (.int v4)) (va_runS (As := [.long v3]) (rest := [.int (8 : Int32), .long v3]) ⟨hx, hb, hml, hown, hts⟩ (c_X12_longOf l v3 v4 hq5) (va_cwS 1 hts gX12_letterOf_X12_longOf rfl rfl rfl (by decide +kernel) ⟨Nat.le_of_ble_eq_true rfl, Nat.le_of_ble_eq_true rfl⟩) ⟨fun a U g mk q => q, fun U hU hW => ⟨rfl, trivial⟩⟩ rfl rfl hl.1 rfl (lv_room (Nat.le_of_ble_eq_true rfl)) dX12_letterOf_14 ⟨Nat.le_refl _, Nat.le_refl _⟩) ?_
  refine lv_iconst (v := 1) hx hb dX12_letterOf_17 (by decide) ?_
  refine lv_isub hx hb dX12_letterOf_18 ?_
  refine lv_iload_n hx hb dX12_letterOf_19 rfl (lv_at hl 3 rfl) ?_
  refine lv_isub hx hb dX12_letterOf_20 ?_
  refine lv_imul hx hb dX12_letterOf_21 ?_
  refine lv_lshr (v := (v3 >>> (((8 : Int32) * ((v4 - (1 : Int32)) - a1)).toInt64 &&& 63))) hx hb dX12_letterOf_22 rfl ?_
  refine lv_ldc2 (v := 255) hx hb hown k_constantLong_RX12_348_255 dX12_letterOf_23 ?_
  refine lv_land hx hb dX12_letterOf_26 ?_
  refine lv_l2i (v := (((v3 >>> (((8 : Int32) * ((v4 - (1 : Int32)) - a1)).toInt64 &&& 63)) &&& (255 : Int64)).toInt32)) hx hb dX12_letterOf_27 rfl ?_
  have hf := Option.some.inj hf
  subst hf
  exact W.iret (v := (((v3 >>> (((8 : Int32) * ((v4 - (1 : Int32)) - a1)).toInt64 &&& 63)) &&& (255 : Int64)).toInt32)) hx hb hr (fun t ht hW => ⟨rfl, ht⟩) (fun _ h => nomatch h) dX12_letterOf_28

abbrev rm_X12_isFaint : Room := { frames := 2, cells := 0, slots := 0, locals := 47 }
set_option maxHeartbeats 4000000 in
set_option maxRecDepth 100000 in
theorem c_X12_isFaint (l : Launch) (dC : Nat → ClassId) (dI : Nat → Nat → Nat) (cB cI cJ cZ : ClassId) (ra : Nat → Nat) (M : kD) (a0 : Int32) (r : Int32) (hf : f_X12_isFaint a0 M = some r) : Met l yX12_isFaint wsX12_isFaint rm_X12_isFaint (va_Pc [.ref (ra 0), .int a0] (mPr dC dI cB cI cJ cZ ra M)) (kQ (some (.int r))) 0 0 (kF) := by
  refine Met.ofW (cc := cX12_isFaint) (maxL := 4) (ret := (some .boolean)) (by decide) rfl ?_
  intro p e s m args below meth c s₁ B hml hv
  obtain ⟨hav, hP, hK⟩ := hv
  have hx := B.exec
  have hb := B.bytes
  have hr := B.returns
  have hts := atoms_spec (ws := wsX12_isFaint) B.pre
  have hown : s.vm.findClass RX12 = some m.cls := findClass_of_methodNamed B.named
  have hlocks := B.notSynchronized
  have hin : ∀ w ∈ wsX120, w ∈ wsX12_isFaint := fun w h => List.mem_cons_of_mem _ (List.mem_append_right _ h)
  have k_fieldLink_RX12_18__KeyLettersModel___size___I_ := hts (.fieldLink RX12 18 "KeyLettersModel" "size" "I") (by decide +kernel)
  have k_fieldLink_RX12_43__KeyLettersModel___names____J_ := hts (.fieldLink RX12 43 "KeyLettersModel" "names" "[J") (by decide +kernel)
  have hl := lv_entry ([.ref (ra 0), .int a0]) (n := 4) (Nat.le_of_ble_eq_true rfl)
  rw [show entryFrame m args 4 = entryFrame m ([.ref (ra 0), .int a0] : List Value).toArray 4 from by rw [hav], lg_entry_eq]
  generalize (lg_sl ([.ref (ra 0), .int a0]) ++ List.replicate (4 - (lg_sl ([.ref (ra 0), .int a0])).length) Slot.unset).toArray = ls at hl ⊢
  have hl : lv_has ls 4 [(0, .ref (ra 0)), (1, .int a0)] := hl
  unfold f_X12_isFaint at hf
  have h_24 : ∀ (x1_24 : Int32) (t0_24 : Int32) (ls : Array Slot), lv_has ls 4 [(0, .ref (ra 0)), (1, .int x1_24)] → g_X12_isFaint_24 M x1_24 t0_24 = some r → W p l e (headSpec wsX12_isFaint rm_X12_isFaint).room s m args below meth c s.heap [] 0 0 (MQ below (kQ (some (.int r))) args s 0 0 (kF)) (F0 m 24 ls [.int t0_24]) := by
    intro x1_24 t0_24 ls hl hf
    unfold g_X12_isFaint_24 at hf
    have h_27 := lp_ind (z := (fun _ _ _ => none)) (b := (g_X12_isFaint_27 M)) (fun (rc_27 : Int32 → Int32 → Int32 → Option Int32) => ∀ (x1_27 : Int32) (x2_27 : Int32) (x3_27 : Int32) (ls : Array Slot), lv_has ls 4 [(0, .ref (ra 0)), (1, .int x1_27), (2, .int x2_27), (3, .int x3_27)] → rc_27 x1_27 x2_27 x3_27 = some r → W p l e (headSpec wsX12_isFaint rm_X12_isFaint).room s m args below meth c s.heap [] 0 0 (MQ below (kQ (some (.int r))) args s 0 0 (kF)) (F0 m 27 ls [])) (by
        intro x1_27 x2_27 x3_27 ls hl hf
        cases hf) (by
        intro rc_27 ih_27 x1_27 x2_27 x3_27 ls hl hf
        unfold g_X12_isFaint_27 at hf
        have h_68 : ∀ (x1_68 : Int32) (x3_68 : Int32) (t0_68 : Int32) (ls : Array Slot), lv_has ls 4 [(0, .ref (ra 0)), (1, .int x1_68), (3, .int x3_68)] → g_X12_isFaint_68 rc_27 M x1_68 x3_68 t0_68 = some r → W p l e (headSpec wsX12_isFaint rm_X12_isFaint).room s m args below meth c s.heap [] 0 0 (MQ below (kQ (some (.int r))) args s 0 0 (kF)) (F0 m 68 ls [.int t0_68]) := by
          intro x1_68 x3_68 t0_68 ls hl hf
          unfold g_X12_isFaint_68 at hf
          refine lv_istore_n (nL := 4) (lv' := [(2, .int t0_68), (0, .ref (ra 0)), (1, .int x1_68), (3, .int x3_68)]) hx hb dX12_isFaint_68 rfl hl (by decide) rfl (fun ls hl => ?_)
          obtain ⟨v1, ev1, hf⟩ := bd1_e hf
          refine lv_iinc (k := 3) (x := x3_68) (v := v1) (nL := 4) (lv' := [(3, .int v1), (2, .int t0_68), (0, .ref (ra 0)), (1, .int x1_68)]) hx hb dX12_isFaint_69 hl rfl (kt_inc (w := 1) (by decide) ev1) (by decide) rfl (fun ls hl => ?_)
          refine lv_goto (tgt := 27) hx hb dX12_isFaint_72 (by decide) ?_
          exact ih_27 x1_68 t0_68 v1 ls (lv_sub hl [2, 3, 1, 0] rfl) hf
        have h_63 : ∀ (x1_63 : Int32) (x3_63 : Int32) (ls : Array Slot), lv_has ls 4 [(0, .ref (ra 0)), (1, .int x1_63), (3, .int x3_63)] → g_X12_isFaint_63 rc_27 M x1_63 x3_63 = some r → W p l e (headSpec wsX12_isFaint rm_X12_isFaint).room s m args below meth c s.heap [] 0 0 (MQ below (kQ (some (.int r))) args s 0 0 (kF)) (F0 m 63 ls []) := by
          intro x1_63 x3_63 ls hl hf
          unfold g_X12_isFaint_63 at hf
          refine lv_iconst (v := 1) hx hb dX12_isFaint_63 (by decide) ?_
          refine lv_goto (tgt := 68) hx hb dX12_isFaint_64 (by decide) ?_
          exact h_68 x1_63 x3_63 (1 : Int32) ls hl hf
        refine lv_iload_n hx hb dX12_isFaint_27 rfl (lv_at hl 3 rfl) ?_
        refine lv_aload_n hx hb dX12_isFaint_28 rfl (lv_at hl 0 rfl) ?_
        refine km_get hx hb hts hin hown hK hP 3 (by decide) (v := .int (M.1 0 3)) k_fieldLink_RX12_18__KeyLettersModel___size___I_ rfl dX12_isFaint_29 ?_
        refine lv_icmp_ge (tgt := 75) hx hb dX12_isFaint_32 (by decide) (fun hb13 => ?_) (fun hb13 => ?_)
        · have hf := (if_pos hb13).symm.trans hf
          refine lv_iload_n hx hb dX12_isFaint_75 rfl (lv_at hl 2 rfl) ?_
          obtain ⟨hz2, hf⟩ := ck_e hf
          have hf := Option.some.inj hf
          subst hf
          exact W.zret (v := x2_27) (ty := .boolean) hx hb hr (kt_z (Decidable.not_not.mp hz2)) (fun t ht hW => ⟨rfl, ht⟩) (fun _ h => nomatch h) dX12_isFaint_76
        · have hf := (if_neg hb13).symm.trans hf
          refine lv_iload_n hx hb dX12_isFaint_35 rfl (lv_at hl 2 rfl) ?_
          refine lv_if_eq (tgt := 75) hx hb dX12_isFaint_36 (by decide) (fun hb12 => ?_) (fun hb12 => ?_)
          · have hf := (if_pos hb12).symm.trans hf
            refine lv_iload_n hx hb dX12_isFaint_75 rfl (lv_at hl 2 rfl) ?_
            obtain ⟨hz3, hf⟩ := ck_e hf
            have hf := Option.some.inj hf
            subst hf
            exact W.zret (v := x2_27) (ty := .boolean) hx hb hr (kt_z (Decidable.not_not.mp hz3)) (fun t ht hW => ⟨rfl, ht⟩) (fun _ h => nomatch h) dX12_isFaint_76
          · have hf := (if_neg hb12).symm.trans hf
            refine lv_aload_n hx hb dX12_isFaint_39 rfl (lv_at hl 0 rfl) ?_
            refine lv_iload_n hx hb dX12_isFaint_40 rfl (lv_at hl 3 rfl) ?_
            obtain ⟨v4, hq5, hf⟩ := bo_e hf
            refine ko_call (v := some (.int v4)) (km_run (As := [.int x3_27]) (rest := []) ⟨hx, hb, hml, hown, hts⟩ (c_X12_octet l dC dI cB cI cJ cZ ra M x3_27 v4 hq5) (cwV 1 hts gX12_isFaint_X12_octet rfl rfl rfl (by decide +kernel) ⟨Nat.le_of_ble_eq_true rfl, Nat.le_of_ble_eq_true rfl⟩) hK hP (fun _ _ _ _ => mPr_bl) (fun U hU hW => ⟨by rw [hU]; exact hP, va_K.moved hW.alike hK⟩) rfl rfl hl.1 rfl (lv_room (Nat.le_of_ble_eq_true rfl)) dX12_isFaint_41 ⟨Nat.le_refl _, Nat.le_refl _⟩) ?_
            refine lv_bipush (v := 63) hx hb dX12_isFaint_44 (by decide) ?_
            refine lv_icmp_eq (tgt := 63) hx hb dX12_isFaint_46 (by decide) (fun hb11 => ?_) (fun hb11 => ?_)
            · have hf := (if_pos hb11).symm.trans hf
              exact h_63 x1_27 x3_27 ls (lv_sub hl [0, 1, 3] rfl) hf
            · have hf := (if_neg hb11).symm.trans hf
              refine lv_aload_n hx hb dX12_isFaint_49 rfl (lv_at hl 0 rfl) ?_
              refine lv_iload_n hx hb dX12_isFaint_50 rfl (lv_at hl 3 rfl) ?_
              obtain ⟨v6, hq7, hf⟩ := bo_e hf
              refine ko_call (v := some (.int v6)) (km_run (As := [.int x3_27]) (rest := []) ⟨hx, hb, hml, hown, hts⟩ (c_X12_octet l dC dI cB cI cJ cZ ra M x3_27 v6 hq7) (cwV 1 hts gX12_isFaint_X12_octet rfl rfl rfl (by decide +kernel) ⟨Nat.le_of_ble_eq_true rfl, Nat.le_of_ble_eq_true rfl⟩) hK hP (fun _ _ _ _ => mPr_bl) (fun U hU hW => ⟨by rw [hU]; exact hP, va_K.moved hW.alike hK⟩) rfl rfl hl.1 rfl (lv_room (Nat.le_of_ble_eq_true rfl)) dX12_isFaint_51 ⟨Nat.le_refl _, Nat.le_refl _⟩) ?_
              refine lv_aload_n hx hb dX12_isFaint_54 rfl (lv_at hl 0 rfl) ?_
              refine lv_iload_n hx hb dX12_isFaint_55 rfl (lv_at hl 1 rfl) ?_
              refine lv_iload_n hx hb dX12_isFaint_56 rfl (lv_at hl 3 rfl) ?_
              obtain ⟨v8, hq9, hf⟩ := bo_e hf
              refine ko_call (v := some (.int v8)) (km_run (As := [.int x1_27, .int x3_27]) (rest := [.int v6]) ⟨hx, hb, hml, hown, hts⟩ (c_X12_letterOf l dC dI cB cI cJ cZ ra M x1_27 x3_27 v8 hq9) (cwV 2 hts gX12_isFaint_X12_letterOf rfl rfl rfl (by decide +kernel) ⟨Nat.le_of_ble_eq_true rfl, Nat.le_of_ble_eq_true rfl⟩) hK hP (fun _ _ _ _ => mPr_bl) (fun U hU hW => ⟨by rw [hU]; exact hP, va_K.moved hW.alike hK⟩) rfl rfl hl.1 rfl (lv_room (Nat.le_of_ble_eq_true rfl)) dX12_isFaint_57 ⟨Nat.le_refl _, Nat.le_refl _⟩) ?_
              refine lv_icmp_ne (tgt := 67) hx hb dX12_isFaint_60 (by decide) (fun hb10 => ?_) (fun hb10 => ?_)
              · have hf := (if_neg hb10).symm.trans hf
                refine lv_iconst (v := 0) hx hb dX12_isFaint_67 (by decide) ?_
                exact h_68 x1_27 x3_27 (0 : Int32) ls (lv_sub hl [0, 1, 3] rfl) hf
              · have hf := (if_pos hb10).symm.trans hf
                exact h_63 x1_27 x3_27 ls (lv_sub hl [0, 1, 3] rfl) hf) 2000
    refine lv_istore_n (nL := 4) (lv' := [(2, .int t0_24), (0, .ref (ra 0)), (1, .int x1_24)]) hx hb dX12_isFaint_24 rfl hl (by decide) rfl (fun ls hl => ?_)
    refine lv_iconst (v := 0) hx hb dX12_isFaint_25 (by decide) ?_
    refine lv_istore_n (nL := 4) (lv' := [(3, .int (0 : Int32)), (2, .int t0_24), (0, .ref (ra 0)), (1, .int x1_24)]) hx hb dX12_isFaint_26 rfl hl (by decide) rfl (fun ls hl => ?_)
    exact h_27 x1_24 t0_24 (0 : Int32) ls (lv_sub hl [2, 3, 1, 0] rfl) hf
  refine lv_aload_n hx hb dX12_isFaint_0 rfl (lv_at hl 0 rfl) ?_
  refine km_get hx hb hts hin hown hK hP 9 (by decide) (v := .ref (ra 9)) k_fieldLink_RX12_43__KeyLettersModel___names____J_ rfl dX12_isFaint_1 ?_
  refine lv_bipush (v := 6) hx hb dX12_isFaint_4 (by decide) ?_
  refine lv_iload_n hx hb dX12_isFaint_6 rfl (lv_at hl 1 rfl) ?_
  refine lv_iadd hx hb dX12_isFaint_7 ?_
  obtain ⟨v14, ev14, hf⟩ := bd1_e hf
  refine kt_i ev14 ?_
  obtain ⟨hc15, hf⟩ := ck_e hf
  refine va_lald hx hb hK hP 5 2 rfl rfl hc15 dX12_isFaint_8 ?_
  obtain ⟨v16, hq17, hf⟩ := bo_e hf
  refine ko_call (v := some (.int v16)) (va_runS (As := [.long (M.2 9 v14.toNatClampNeg)]) (rest := []) ⟨hx, hb, hml, hown, hts⟩ (c_X12_longOf l (M.2 9 v14.toNatClampNeg) v16 hq17) (va_cwS 1 hts gX12_isFaint_X12_longOf rfl rfl rfl (by decide +kernel) ⟨Nat.le_of_ble_eq_true rfl, Nat.le_of_ble_eq_true rfl⟩) ⟨fun a U g mk q => q, fun U hU hW => ⟨rfl, trivial⟩⟩ rfl rfl hl.1 rfl (lv_room (Nat.le_of_ble_eq_true rfl)) dX12_isFaint_9 ⟨Nat.le_refl _, Nat.le_refl _⟩) ?_
  refine lv_aload_n hx hb dX12_isFaint_12 rfl (lv_at hl 0 rfl) ?_
  refine km_get hx hb hts hin hown hK hP 3 (by decide) (v := .int (M.1 0 3)) k_fieldLink_RX12_18__KeyLettersModel___size___I_ rfl dX12_isFaint_13 ?_
  refine lv_icmp_ne (tgt := 23) hx hb dX12_isFaint_16 (by decide) (fun hb18 => ?_) (fun hb18 => ?_)
  · have hf := (if_neg hb18).symm.trans hf
    refine lv_iconst (v := 0) hx hb dX12_isFaint_23 (by decide) ?_
    exact h_24 a0 (0 : Int32) ls hl hf
  · have hf := (if_pos hb18).symm.trans hf
    refine lv_iconst (v := 1) hx hb dX12_isFaint_19 (by decide) ?_
    refine lv_goto (tgt := 24) hx hb dX12_isFaint_20 (by decide) ?_
    exact h_24 a0 (1 : Int32) ls hl hf

abbrev rm_X12_leftBy : Room := { frames := 2, cells := 0, slots := 0, locals := 47 }
set_option maxHeartbeats 4000000 in
set_option maxRecDepth 100000 in
theorem c_X12_leftBy (l : Launch) (dC : Nat → ClassId) (dI : Nat → Nat → Nat) (cB cI cJ cZ : ClassId) (ra : Nat → Nat) (M : kD) (a0 : Int32) (a1 : Int32) (r : Int32) (hf : f_X12_leftBy a0 a1 M = some r) : Met l yX12_leftBy wsX12_leftBy rm_X12_leftBy (va_Pc [.ref (ra 0), .int a0, .int a1] (mPr dC dI cB cI cJ cZ ra M)) (kQ (some (.int r))) 0 0 (kF) := by
  refine Met.ofW (cc := cX12_leftBy) (maxL := 7) (ret := (some .int)) (by decide) rfl ?_
  intro p e s m args below meth c s₁ B hml hv
  obtain ⟨hav, hP, hK⟩ := hv
  have hx := B.exec
  have hb := B.bytes
  have hr := B.returns
  have hts := atoms_spec (ws := wsX12_leftBy) B.pre
  have hown : s.vm.findClass RX12 = some m.cls := findClass_of_methodNamed B.named
  have hlocks := B.notSynchronized
  have hin : ∀ w ∈ wsX120, w ∈ wsX12_leftBy := fun w h => List.mem_cons_of_mem _ (List.mem_append_right _ h)
  have k_fieldLink_RX12_33__KeyLettersModel___s____I_ := hts (.fieldLink RX12 33 "KeyLettersModel" "s" "[I") (by decide +kernel)
  have hl := lv_entry ([.ref (ra 0), .int a0, .int a1]) (n := 7) (Nat.le_of_ble_eq_true rfl)
  rw [show entryFrame m args 7 = entryFrame m ([.ref (ra 0), .int a0, .int a1] : List Value).toArray 7 from by rw [hav], lg_entry_eq]
  generalize (lg_sl ([.ref (ra 0), .int a0, .int a1]) ++ List.replicate (7 - (lg_sl ([.ref (ra 0), .int a0, .int a1])).length) Slot.unset).toArray = ls at hl ⊢
  have hl : lv_has ls 7 [(0, .ref (ra 0)), (1, .int a0), (2, .int a1)] := hl
  unfold f_X12_leftBy at hf
  have h_5 := lp_ind (z := (fun _ _ _ _ => none)) (b := (g_X12_leftBy_5 M)) (fun (rc_5 : Int32 → Int32 → Int32 → Int32 → Option Int32) => ∀ (x1_5 : Int32) (x2_5 : Int32) (x3_5 : Int32) (x4_5 : Int32) (ls : Array Slot), lv_has ls 7 [(0, .ref (ra 0)), (1, .int x1_5), (2, .int x2_5), (3, .int x3_5), (4, .int x4_5)] → rc_5 x1_5 x2_5 x3_5 x4_5 = some r → W p l e (headSpec wsX12_leftBy rm_X12_leftBy).room s m args below meth c s.heap [] 0 0 (MQ below (kQ (some (.int r))) args s 0 0 (kF)) (F0 m 5 ls [])) (by
      intro x1_5 x2_5 x3_5 x4_5 ls hl hf
      cases hf) (by
      intro rc_5 ih_5 x1_5 x2_5 x3_5 x4_5 ls hl hf
      unfold g_X12_leftBy_5 at hf
      have h_84 : ∀ (x1_84 : Int32) (x2_84 : Int32) (x3_84 : Int32) (x4_84 : Int32) (x5_84 : Int32) (ls : Array Slot), lv_has ls 7 [(0, .ref (ra 0)), (1, .int x1_84), (2, .int x2_84), (3, .int x3_84), (4, .int x4_84), (5, .int x5_84)] → g_X12_leftBy_84 rc_5 M x1_84 x2_84 x3_84 x4_84 x5_84 = some r → W p l e (headSpec wsX12_leftBy rm_X12_leftBy).room s m args below meth c s.heap [] 0 0 (MQ below (kQ (some (.int r))) args s 0 0 (kF)) (F0 m 84 ls []) := by
        intro x1_84 x2_84 x3_84 x4_84 x5_84 ls hl hf
        unfold g_X12_leftBy_84 at hf
        refine lv_iload_n hx hb dX12_leftBy_84 rfl (lv_at hl 3 rfl) ?_
        refine lv_iload hx hb dX12_leftBy_85 (lv_at hl 5 rfl) ?_
        refine ko_call (v := some (.int (f_X12_greater x3_84 x5_84))) (va_runS (As := [.int x3_84, .int x5_84]) (rest := []) ⟨hx, hb, hml, hown, hts⟩ (c_X12_greater l x3_84 x5_84 _ rfl) (va_cwS 2 hts gX12_leftBy_X12_greater rfl rfl rfl (by decide +kernel) ⟨Nat.le_of_ble_eq_true rfl, Nat.le_of_ble_eq_true rfl⟩) ⟨fun a U g mk q => q, fun U hU hW => ⟨rfl, trivial⟩⟩ rfl rfl hl.1 rfl (lv_room (Nat.le_of_ble_eq_true rfl)) dX12_leftBy_87 ⟨Nat.le_refl _, Nat.le_refl _⟩) ?_
        obtain ⟨v1, ev1, hf⟩ := bd1_e hf
        refine kt_i ev1 ?_
        refine lv_istore_n (nL := 7) (lv' := [(3, .int v1), (0, .ref (ra 0)), (1, .int x1_84), (2, .int x2_84), (4, .int x4_84), (5, .int x5_84)]) hx hb dX12_leftBy_90 rfl hl (by decide) rfl (fun ls hl => ?_)
        obtain ⟨v2, ev2, hf⟩ := bd1_e hf
        refine lv_iinc (k := 4) (x := x4_84) (v := v2) (nL := 7) (lv' := [(4, .int v2), (3, .int v1), (0, .ref (ra 0)), (1, .int x1_84), (2, .int x2_84), (5, .int x5_84)]) hx hb dX12_leftBy_91 hl rfl (kt_inc (w := 1) (by decide) ev2) (by decide) rfl (fun ls hl => ?_)
        refine lv_goto (tgt := 5) hx hb dX12_leftBy_94 (by decide) ?_
        exact ih_5 x1_84 x2_84 v1 v2 ls (lv_sub hl [2, 3, 4, 1, 0] rfl) hf
      have h_22 := lp_ind (z := (fun _ _ _ _ _ _ => none)) (b := (g_X12_leftBy_22 rc_5 M)) (fun (rc_22 : Int32 → Int32 → Int32 → Int32 → Int32 → Int32 → Option Int32) => ∀ (x1_22 : Int32) (x2_22 : Int32) (x3_22 : Int32) (x4_22 : Int32) (x5_22 : Int32) (x6_22 : Int32) (ls : Array Slot), lv_has ls 7 [(0, .ref (ra 0)), (1, .int x1_22), (2, .int x2_22), (3, .int x3_22), (4, .int x4_22), (5, .int x5_22), (6, .int x6_22)] → rc_22 x1_22 x2_22 x3_22 x4_22 x5_22 x6_22 = some r → W p l e (headSpec wsX12_leftBy rm_X12_leftBy).room s m args below meth c s.heap [] 0 0 (MQ below (kQ (some (.int r))) args s 0 0 (kF)) (F0 m 22 ls [])) (by
          intro x1_22 x2_22 x3_22 x4_22 x5_22 x6_22 ls hl hf
          cases hf) (by
          intro rc_22 ih_22 x1_22 x2_22 x3_22 x4_22 x5_22 x6_22 ls hl hf
          unfold g_X12_leftBy_22 at hf
          have h_75 : ∀ (x1_75 : Int32) (x2_75 : Int32) (x3_75 : Int32) (x4_75 : Int32) (x6_75 : Int32) (t0_75 : Int32) (t1_75 : Int32) (ls : Array Slot), lv_has ls 7 [(0, .ref (ra 0)), (1, .int x1_75), (2, .int x2_75), (3, .int x3_75), (4, .int x4_75), (6, .int x6_75)] → g_X12_leftBy_75 rc_5 rc_22 M x1_75 x2_75 x3_75 x4_75 x6_75 t0_75 t1_75 = some r → W p l e (headSpec wsX12_leftBy rm_X12_leftBy).room s m args below meth c s.heap [] 0 0 (MQ below (kQ (some (.int r))) args s 0 0 (kF)) (F0 m 75 ls [.int t1_75, .int t0_75]) := by
            intro x1_75 x2_75 x3_75 x4_75 x6_75 t0_75 t1_75 ls hl hf
            unfold g_X12_leftBy_75 at hf
            refine lv_iadd hx hb dX12_leftBy_75 ?_
            obtain ⟨v3, ev3, hf⟩ := bd1_e hf
            refine kt_i ev3 ?_
            refine lv_istore (nL := 7) (lv' := [(5, .int v3), (0, .ref (ra 0)), (1, .int x1_75), (2, .int x2_75), (3, .int x3_75), (4, .int x4_75), (6, .int x6_75)]) hx hb dX12_leftBy_76 hl (by decide) rfl (fun ls hl => ?_)
            obtain ⟨v4, ev4, hf⟩ := bd1_e hf
            refine lv_iinc (k := 6) (x := x6_75) (v := v4) (nL := 7) (lv' := [(6, .int v4), (5, .int v3), (0, .ref (ra 0)), (1, .int x1_75), (2, .int x2_75), (3, .int x3_75), (4, .int x4_75)]) hx hb dX12_leftBy_78 hl rfl (kt_inc (w := 1) (by decide) ev4) (by decide) rfl (fun ls hl => ?_)
            refine lv_goto (tgt := 22) hx hb dX12_leftBy_81 (by decide) ?_
            exact ih_22 x1_75 x2_75 x3_75 x4_75 v3 v4 ls (lv_sub hl [2, 3, 4, 5, 6, 1, 0] rfl) hf
          have h_74 : ∀ (x1_74 : Int32) (x2_74 : Int32) (x3_74 : Int32) (x4_74 : Int32) (x6_74 : Int32) (t0_74 : Int32) (ls : Array Slot), lv_has ls 7 [(0, .ref (ra 0)), (1, .int x1_74), (2, .int x2_74), (3, .int x3_74), (4, .int x4_74), (6, .int x6_74)] → g_X12_leftBy_74 rc_5 rc_22 M x1_74 x2_74 x3_74 x4_74 x6_74 t0_74 = some r → W p l e (headSpec wsX12_leftBy rm_X12_leftBy).room s m args below meth c s.heap [] 0 0 (MQ below (kQ (some (.int r))) args s 0 0 (kF)) (F0 m 74 ls [.int t0_74]) := by
            intro x1_74 x2_74 x3_74 x4_74 x6_74 t0_74 ls hl hf
            unfold g_X12_leftBy_74 at hf
            refine lv_iconst (v := 0) hx hb dX12_leftBy_74 (by decide) ?_
            exact h_75 x1_74 x2_74 x3_74 x4_74 x6_74 t0_74 (0 : Int32) ls hl hf
          refine lv_iload hx hb dX12_leftBy_22 (lv_at hl 6 rfl) ?_
          refine lv_aload_n hx hb dX12_leftBy_24 rfl (lv_at hl 0 rfl) ?_
          refine km_get hx hb hts hin hown hK hP 6 (by decide) (v := .ref (ra 6)) k_fieldLink_RX12_33__KeyLettersModel___s____I_ rfl dX12_leftBy_25 ?_
          refine lv_iconst (v := 1) hx hb dX12_leftBy_28 (by decide) ?_
          refine va_iald hx hb hK hP 2 1 rfl rfl (show ¬ ((1 : Int32) < 0 ∨ 279 ≤ (1 : Int32).toNatClampNeg) by decide +kernel) dX12_leftBy_29 ?_
          refine lv_icmp_ge (tgt := 84) hx hb dX12_leftBy_30 (by decide) (fun hb12 => ?_) (fun hb12 => ?_)
          · have hf := (if_pos hb12).symm.trans hf
            exact h_84 x1_22 x2_22 x3_22 x4_22 x5_22 ls (lv_sub hl [0, 1, 2, 3, 4, 5] rfl) hf
          · have hf := (if_neg hb12).symm.trans hf
            refine lv_iload hx hb dX12_leftBy_33 (lv_at hl 5 rfl) ?_
            refine lv_iload_n hx hb dX12_leftBy_35 rfl (lv_at hl 1 rfl) ?_
            refine lv_iload hx hb dX12_leftBy_36 (lv_at hl 4 rfl) ?_
            refine ko_call (v := some (.int (f_X12_bitOf x1_22 x4_22))) (va_runS (As := [.int x1_22, .int x4_22]) (rest := [.int x5_22]) ⟨hx, hb, hml, hown, hts⟩ (c_X12_bitOf l x1_22 x4_22 _ rfl) (va_cwS 2 hts gX12_leftBy_X12_bitOf rfl rfl rfl (by decide +kernel) ⟨Nat.le_of_ble_eq_true rfl, Nat.le_of_ble_eq_true rfl⟩) ⟨fun a U g mk q => q, fun U hU hW => ⟨rfl, trivial⟩⟩ rfl rfl hl.1 rfl (lv_room (Nat.le_of_ble_eq_true rfl)) dX12_leftBy_38 ⟨Nat.le_refl _, Nat.le_refl _⟩) ?_
            refine lv_if_eq (tgt := 74) hx hb dX12_leftBy_41 (by decide) (fun hb11 => ?_) (fun hb11 => ?_)
            · have hf := (if_pos hb11).symm.trans hf
              exact h_74 x1_22 x2_22 x3_22 x4_22 x6_22 x5_22 ls (lv_sub hl [0, 1, 2, 3, 4, 6] rfl) hf
            · have hf := (if_neg hb11).symm.trans hf
              refine lv_iload_n hx hb dX12_leftBy_44 rfl (lv_at hl 1 rfl) ?_
              refine lv_iload hx hb dX12_leftBy_45 (lv_at hl 6 rfl) ?_
              refine ko_call (v := some (.int (f_X12_bitOf x1_22 x6_22))) (va_runS (As := [.int x1_22, .int x6_22]) (rest := [.int x5_22]) ⟨hx, hb, hml, hown, hts⟩ (c_X12_bitOf l x1_22 x6_22 _ rfl) (va_cwS 2 hts gX12_leftBy_X12_bitOf rfl rfl rfl (by decide +kernel) ⟨Nat.le_of_ble_eq_true rfl, Nat.le_of_ble_eq_true rfl⟩) ⟨fun a U g mk q => q, fun U hU hW => ⟨rfl, trivial⟩⟩ rfl rfl hl.1 rfl (lv_room (Nat.le_of_ble_eq_true rfl)) dX12_leftBy_47 ⟨Nat.le_refl _, Nat.le_refl _⟩) ?_
              refine lv_if_eq (tgt := 74) hx hb dX12_leftBy_50 (by decide) (fun hb10 => ?_) (fun hb10 => ?_)
              · have hf := (if_pos hb10).symm.trans hf
                exact h_74 x1_22 x2_22 x3_22 x4_22 x6_22 x5_22 ls (lv_sub hl [0, 1, 2, 3, 4, 6] rfl) hf
              · have hf := (if_neg hb10).symm.trans hf
                refine lv_aload_n hx hb dX12_leftBy_53 rfl (lv_at hl 0 rfl) ?_
                refine lv_iload hx hb dX12_leftBy_54 (lv_at hl 4 rfl) ?_
                refine lv_iload_n hx hb dX12_leftBy_56 rfl (lv_at hl 2 rfl) ?_
                obtain ⟨v5, hq6, hf⟩ := bo_e hf
                refine ko_call (v := some (.int v5)) (km_run (As := [.int x4_22, .int x2_22]) (rest := [.int x5_22]) ⟨hx, hb, hml, hown, hts⟩ (c_X12_letterOf l dC dI cB cI cJ cZ ra M x4_22 x2_22 v5 hq6) (cwV 2 hts gX12_leftBy_X12_letterOf rfl rfl rfl (by decide +kernel) ⟨Nat.le_of_ble_eq_true rfl, Nat.le_of_ble_eq_true rfl⟩) hK hP (fun _ _ _ _ => mPr_bl) (fun U hU hW => ⟨by rw [hU]; exact hP, va_K.moved hW.alike hK⟩) rfl rfl hl.1 rfl (lv_room (Nat.le_of_ble_eq_true rfl)) dX12_leftBy_57 ⟨Nat.le_refl _, Nat.le_refl _⟩) ?_
                refine lv_aload_n hx hb dX12_leftBy_60 rfl (lv_at hl 0 rfl) ?_
                refine lv_iload hx hb dX12_leftBy_61 (lv_at hl 6 rfl) ?_
                refine lv_iload_n hx hb dX12_leftBy_63 rfl (lv_at hl 2 rfl) ?_
                obtain ⟨v7, hq8, hf⟩ := bo_e hf
                refine ko_call (v := some (.int v7)) (km_run (As := [.int x6_22, .int x2_22]) (rest := [.int v5, .int x5_22]) ⟨hx, hb, hml, hown, hts⟩ (c_X12_letterOf l dC dI cB cI cJ cZ ra M x6_22 x2_22 v7 hq8) (cwV 2 hts gX12_leftBy_X12_letterOf rfl rfl rfl (by decide +kernel) ⟨Nat.le_of_ble_eq_true rfl, Nat.le_of_ble_eq_true rfl⟩) hK hP (fun _ _ _ _ => mPr_bl) (fun U hU hW => ⟨by rw [hU]; exact hP, va_K.moved hW.alike hK⟩) rfl rfl hl.1 rfl (lv_room (Nat.le_of_ble_eq_true rfl)) dX12_leftBy_64 ⟨Nat.le_refl _, Nat.le_refl _⟩) ?_
                refine lv_icmp_ne (tgt := 74) hx hb dX12_leftBy_67 (by decide) (fun hb9 => ?_) (fun hb9 => ?_)
                · have hf := (if_neg hb9).symm.trans hf
                  exact h_74 x1_22 x2_22 x3_22 x4_22 x6_22 x5_22 ls (lv_sub hl [0, 1, 2, 3, 4, 6] rfl) hf
                · have hf := (if_pos hb9).symm.trans hf
                  refine lv_iconst (v := 1) hx hb dX12_leftBy_70 (by decide) ?_
                  refine lv_goto (tgt := 75) hx hb dX12_leftBy_71 (by decide) ?_
                  exact h_75 x1_22 x2_22 x3_22 x4_22 x6_22 x5_22 (1 : Int32) ls (lv_sub hl [0, 1, 2, 3, 4, 6] rfl) hf) 2000
      refine lv_iload hx hb dX12_leftBy_5 (lv_at hl 4 rfl) ?_
      refine lv_aload_n hx hb dX12_leftBy_7 rfl (lv_at hl 0 rfl) ?_
      refine km_get hx hb hts hin hown hK hP 6 (by decide) (v := .ref (ra 6)) k_fieldLink_RX12_33__KeyLettersModel___s____I_ rfl dX12_leftBy_8 ?_
      refine lv_iconst (v := 1) hx hb dX12_leftBy_11 (by decide) ?_
      refine va_iald hx hb hK hP 2 1 rfl rfl (show ¬ ((1 : Int32) < 0 ∨ 279 ≤ (1 : Int32).toNatClampNeg) by decide +kernel) dX12_leftBy_12 ?_
      refine lv_icmp_ge (tgt := 97) hx hb dX12_leftBy_13 (by decide) (fun hb13 => ?_) (fun hb13 => ?_)
      · have hf := (if_pos hb13).symm.trans hf
        refine lv_iload_n hx hb dX12_leftBy_97 rfl (lv_at hl 3 rfl) ?_
        have hf := Option.some.inj hf
        subst hf
        exact W.iret (v := x3_5) hx hb hr (fun t ht hW => ⟨rfl, ht⟩) (fun _ h => nomatch h) dX12_leftBy_98
      · have hf := (if_neg hb13).symm.trans hf
        refine lv_iconst (v := 0) hx hb dX12_leftBy_16 (by decide) ?_
        refine lv_istore (nL := 7) (lv' := [(5, .int (0 : Int32)), (0, .ref (ra 0)), (1, .int x1_5), (2, .int x2_5), (3, .int x3_5), (4, .int x4_5)]) hx hb dX12_leftBy_17 hl (by decide) rfl (fun ls hl => ?_)
        refine lv_iconst (v := 0) hx hb dX12_leftBy_19 (by decide) ?_
        refine lv_istore (nL := 7) (lv' := [(6, .int (0 : Int32)), (5, .int (0 : Int32)), (0, .ref (ra 0)), (1, .int x1_5), (2, .int x2_5), (3, .int x3_5), (4, .int x4_5)]) hx hb dX12_leftBy_20 hl (by decide) rfl (fun ls hl => ?_)
        exact h_22 x1_5 x2_5 x3_5 x4_5 (0 : Int32) (0 : Int32) ls (lv_sub hl [2, 3, 4, 5, 6, 1, 0] rfl) hf) 2000
  refine lv_iconst (v := 0) hx hb dX12_leftBy_0 (by decide) ?_
  refine lv_istore_n (nL := 7) (lv' := [(3, .int (0 : Int32)), (0, .ref (ra 0)), (1, .int a0), (2, .int a1)]) hx hb dX12_leftBy_1 rfl hl (by decide) rfl (fun ls hl => ?_)
  refine lv_iconst (v := 0) hx hb dX12_leftBy_2 (by decide) ?_
  refine lv_istore (nL := 7) (lv' := [(4, .int (0 : Int32)), (3, .int (0 : Int32)), (0, .ref (ra 0)), (1, .int a0), (2, .int a1)]) hx hb dX12_leftBy_3 hl (by decide) rfl (fun ls hl => ?_)
  exact h_5 a0 a1 (0 : Int32) (0 : Int32) ls (lv_sub hl [2, 3, 4, 1, 0] rfl) hf

