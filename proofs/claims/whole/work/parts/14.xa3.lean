def ww_X9_owedBy (cs : Nat → ClassId) (ad : Nat → Nat) (raS : Nat → Nat) (S : kD) : va_W := (wX9 cs ad raS S)
abbrev rm_X9_owedBy : Room := { frames := 1, cells := 0, slots := 0, locals := 22 }
set_option maxHeartbeats 4000000 in
set_option maxRecDepth 100000 in
theorem c_X9_owedBy (l : Launch) (dC : Nat → ClassId) (dI : Nat → Nat → Nat) (cs : Nat → ClassId) (ad : Nat → Nat) (raS : Nat → Nat) (S : kD) (a0 : Int32) (r : Int32) (hf : f_X9_owedBy a0 S = some r) : Met l yX9_owedBy wsX9_owedBy rm_X9_owedBy (va_Pc [.ref (raS 0), .int a0] (cPr dC dI cs (ww_X9_owedBy cs ad raS S))) (kQ (some (.int r))) 0 0 (kF) := by
  refine Met.ofW (cc := cX9_owedBy) (maxL := 4) (ret := (some .int)) (by decide) rfl ?_
  intro p e s m args below meth c s₁ B hml hv
  obtain ⟨hav, hP, hK, hN⟩ := hv
  have hx := B.exec
  have hb := B.bytes
  have hr := B.returns
  have hts := atoms_spec (ws := wsX9_owedBy) B.pre
  have hown : s.vm.findClass RX9 = some m.cls := findClass_of_methodNamed B.named
  have hlocks := B.notSynchronized
  have hl := lv_entry ([.ref (raS 0), .int a0]) (n := 4) (Nat.le_of_ble_eq_true rfl)
  rw [show entryFrame m args 4 = entryFrame m ([.ref (raS 0), .int a0] : List Value).toArray 4 from by rw [hav], lg_entry_eq]
  generalize (lg_sl ([.ref (raS 0), .int a0]) ++ List.replicate (4 - (lg_sl ([.ref (raS 0), .int a0])).length) Slot.unset).toArray = ls at hl ⊢
  have hl : lv_has ls 4 [(0, .ref (raS 0)), (1, .int a0)] := hl
  unfold f_X9_owedBy at hf
  have h_4 := lp_ind (z := (fun _ _ _ => none)) (b := (g_X9_owedBy_4 S)) (fun (rc_4 : Int32 → Int32 → Int32 → Option Int32) => ∀ (x1_4 : Int32) (x2_4 : Int32) (x3_4 : Int32) (ls : Array Slot), lv_has ls 4 [(0, .ref (raS 0)), (1, .int x1_4), (2, .int x2_4), (3, .int x3_4)] → rc_4 x1_4 x2_4 x3_4 = some r → W p l e (headSpec wsX9_owedBy rm_X9_owedBy).room s m args below meth c s.heap [] 0 0 (MQ below (kQ (some (.int r))) args s 0 0 (kF)) (F0 m 4 ls [])) (by
      intro x1_4 x2_4 x3_4 ls hl hf
      cases hf) (by
      intro rc_4 ih_4 x1_4 x2_4 x3_4 ls hl hf
      unfold g_X9_owedBy_4 at hf
      refine lv_iload_n hx hb dX9_owedBy_4 rfl (lv_at hl 3 rfl) ?_
      refine lv_bipush (v := 6) hx hb dX9_owedBy_5 (by decide) ?_
      refine lv_icmp_ge (tgt := 25) hx hb dX9_owedBy_7 (by decide) (fun hb5 => ?_) (fun hb5 => ?_)
      · have hf := (if_pos hb5).symm.trans hf
        refine lv_iload_n hx hb dX9_owedBy_25 rfl (lv_at hl 2 rfl) ?_
        have hf := Option.some.inj hf
        subst hf
        exact W.iret (v := x2_4) hx hb hr (fun t ht hW => ⟨rfl, ht⟩) (fun _ h => nomatch h) dX9_owedBy_26
      · have hf := (if_neg hb5).symm.trans hf
        refine lv_iload_n hx hb dX9_owedBy_10 rfl (lv_at hl 2 rfl) ?_
        refine lv_aload_n hx hb dX9_owedBy_11 rfl (lv_at hl 0 rfl) ?_
        refine lv_iload_n hx hb dX9_owedBy_12 rfl (lv_at hl 1 rfl) ?_
        refine lv_iload_n hx hb dX9_owedBy_13 rfl (lv_at hl 3 rfl) ?_
        obtain ⟨v2, hq1, hf⟩ := bo_e hf
        refine ko_call (v := some (.int v2)) (va_runV (As := [.int x1_4, .int x3_4]) (rest := [.int x2_4]) ⟨hx, hb, hml, hown, hts⟩ (c_X9_debtOf l dC dI cs ad raS S x1_4 x3_4 v2 hq1) (cwV 2 hts gX9_owedBy_X9_debtOf rfl rfl rfl (by decide +kernel) ⟨Nat.le_of_ble_eq_true rfl, Nat.le_of_ble_eq_true rfl⟩) ⟨fun a U g mk q => ⟨q.1, (fun _ _ _ _ => cPr_bl) a U g mk q.2⟩, va_recv hK hP (ci := 10) (q0 := 0) rfl rfl, fun U hU hW => ⟨rfl, ⟨by rw [hU]; exact (hP.sub (ws' := (ww_X9_debtOf cs ad raS S)) [0, 1, 2, 3, 4] rfl), va_K.moved hW.alike hK, kN_warm hW hN⟩⟩⟩ rfl rfl hl.1 rfl (lv_room (Nat.le_of_ble_eq_true rfl)) dX9_owedBy_14 ⟨Nat.le_refl _, Nat.le_refl _⟩) ?_
        refine lv_iadd hx hb dX9_owedBy_17 ?_
        obtain ⟨v3, ev3, hf⟩ := bd1_e hf
        refine kt_i ev3 ?_
        refine lv_istore_n (nL := 4) (lv' := [(2, .int v3), (0, .ref (raS 0)), (1, .int x1_4), (3, .int x3_4)]) hx hb dX9_owedBy_18 rfl hl (by decide) rfl (fun ls hl => ?_)
        obtain ⟨v4, ev4, hf⟩ := bd1_e hf
        refine lv_iinc (k := 3) (x := x3_4) (v := v4) (nL := 4) (lv' := [(3, .int v4), (2, .int v3), (0, .ref (raS 0)), (1, .int x1_4)]) hx hb dX9_owedBy_19 hl rfl (kt_inc (w := 1) (by decide) ev4) (by decide) rfl (fun ls hl => ?_)
        refine lv_goto (tgt := 4) hx hb dX9_owedBy_22 (by decide) ?_
        exact ih_4 x1_4 v3 v4 ls (lv_sub hl [2, 3, 1, 0] rfl) hf) 2000
  refine lv_iconst (v := 0) hx hb dX9_owedBy_0 (by decide) ?_
  refine lv_istore_n (nL := 4) (lv' := [(2, .int (0 : Int32)), (0, .ref (raS 0)), (1, .int a0)]) hx hb dX9_owedBy_1 rfl hl (by decide) rfl (fun ls hl => ?_)
  refine lv_iconst (v := 0) hx hb dX9_owedBy_2 (by decide) ?_
  refine lv_istore_n (nL := 4) (lv' := [(3, .int (0 : Int32)), (2, .int (0 : Int32)), (0, .ref (raS 0)), (1, .int a0)]) hx hb dX9_owedBy_3 rfl hl (by decide) rfl (fun ls hl => ?_)
  exact h_4 a0 (0 : Int32) (0 : Int32) ls (lv_sub hl [2, 3, 1, 0] rfl) hf

def ww_X9_owedTo (cs : Nat → ClassId) (ad : Nat → Nat) (raS : Nat → Nat) (S : kD) : va_W := (wX9 cs ad raS S)
abbrev rm_X9_owedTo : Room := { frames := 1, cells := 0, slots := 0, locals := 22 }
set_option maxHeartbeats 4000000 in
set_option maxRecDepth 100000 in
theorem c_X9_owedTo (l : Launch) (dC : Nat → ClassId) (dI : Nat → Nat → Nat) (cs : Nat → ClassId) (ad : Nat → Nat) (raS : Nat → Nat) (S : kD) (a0 : Int32) (r : Int32) (hf : f_X9_owedTo a0 S = some r) : Met l yX9_owedTo wsX9_owedTo rm_X9_owedTo (va_Pc [.ref (raS 0), .int a0] (cPr dC dI cs (ww_X9_owedTo cs ad raS S))) (kQ (some (.int r))) 0 0 (kF) := by
  refine Met.ofW (cc := cX9_owedTo) (maxL := 4) (ret := (some .int)) (by decide) rfl ?_
  intro p e s m args below meth c s₁ B hml hv
  obtain ⟨hav, hP, hK, hN⟩ := hv
  have hx := B.exec
  have hb := B.bytes
  have hr := B.returns
  have hts := atoms_spec (ws := wsX9_owedTo) B.pre
  have hown : s.vm.findClass RX9 = some m.cls := findClass_of_methodNamed B.named
  have hlocks := B.notSynchronized
  have hl := lv_entry ([.ref (raS 0), .int a0]) (n := 4) (Nat.le_of_ble_eq_true rfl)
  rw [show entryFrame m args 4 = entryFrame m ([.ref (raS 0), .int a0] : List Value).toArray 4 from by rw [hav], lg_entry_eq]
  generalize (lg_sl ([.ref (raS 0), .int a0]) ++ List.replicate (4 - (lg_sl ([.ref (raS 0), .int a0])).length) Slot.unset).toArray = ls at hl ⊢
  have hl : lv_has ls 4 [(0, .ref (raS 0)), (1, .int a0)] := hl
  unfold f_X9_owedTo at hf
  have h_4 := lp_ind (z := (fun _ _ _ => none)) (b := (g_X9_owedTo_4 S)) (fun (rc_4 : Int32 → Int32 → Int32 → Option Int32) => ∀ (x1_4 : Int32) (x2_4 : Int32) (x3_4 : Int32) (ls : Array Slot), lv_has ls 4 [(0, .ref (raS 0)), (1, .int x1_4), (2, .int x2_4), (3, .int x3_4)] → rc_4 x1_4 x2_4 x3_4 = some r → W p l e (headSpec wsX9_owedTo rm_X9_owedTo).room s m args below meth c s.heap [] 0 0 (MQ below (kQ (some (.int r))) args s 0 0 (kF)) (F0 m 4 ls [])) (by
      intro x1_4 x2_4 x3_4 ls hl hf
      cases hf) (by
      intro rc_4 ih_4 x1_4 x2_4 x3_4 ls hl hf
      unfold g_X9_owedTo_4 at hf
      refine lv_iload_n hx hb dX9_owedTo_4 rfl (lv_at hl 3 rfl) ?_
      refine lv_bipush (v := 6) hx hb dX9_owedTo_5 (by decide) ?_
      refine lv_icmp_ge (tgt := 25) hx hb dX9_owedTo_7 (by decide) (fun hb5 => ?_) (fun hb5 => ?_)
      · have hf := (if_pos hb5).symm.trans hf
        refine lv_iload_n hx hb dX9_owedTo_25 rfl (lv_at hl 2 rfl) ?_
        have hf := Option.some.inj hf
        subst hf
        exact W.iret (v := x2_4) hx hb hr (fun t ht hW => ⟨rfl, ht⟩) (fun _ h => nomatch h) dX9_owedTo_26
      · have hf := (if_neg hb5).symm.trans hf
        refine lv_iload_n hx hb dX9_owedTo_10 rfl (lv_at hl 2 rfl) ?_
        refine lv_aload_n hx hb dX9_owedTo_11 rfl (lv_at hl 0 rfl) ?_
        refine lv_iload_n hx hb dX9_owedTo_12 rfl (lv_at hl 3 rfl) ?_
        refine lv_iload_n hx hb dX9_owedTo_13 rfl (lv_at hl 1 rfl) ?_
        obtain ⟨v2, hq1, hf⟩ := bo_e hf
        refine ko_call (v := some (.int v2)) (va_runV (As := [.int x3_4, .int x1_4]) (rest := [.int x2_4]) ⟨hx, hb, hml, hown, hts⟩ (c_X9_debtOf l dC dI cs ad raS S x3_4 x1_4 v2 hq1) (cwV 2 hts gX9_owedTo_X9_debtOf rfl rfl rfl (by decide +kernel) ⟨Nat.le_of_ble_eq_true rfl, Nat.le_of_ble_eq_true rfl⟩) ⟨fun a U g mk q => ⟨q.1, (fun _ _ _ _ => cPr_bl) a U g mk q.2⟩, va_recv hK hP (ci := 10) (q0 := 0) rfl rfl, fun U hU hW => ⟨rfl, ⟨by rw [hU]; exact (hP.sub (ws' := (ww_X9_debtOf cs ad raS S)) [0, 1, 2, 3, 4] rfl), va_K.moved hW.alike hK, kN_warm hW hN⟩⟩⟩ rfl rfl hl.1 rfl (lv_room (Nat.le_of_ble_eq_true rfl)) dX9_owedTo_14 ⟨Nat.le_refl _, Nat.le_refl _⟩) ?_
        refine lv_iadd hx hb dX9_owedTo_17 ?_
        obtain ⟨v3, ev3, hf⟩ := bd1_e hf
        refine kt_i ev3 ?_
        refine lv_istore_n (nL := 4) (lv' := [(2, .int v3), (0, .ref (raS 0)), (1, .int x1_4), (3, .int x3_4)]) hx hb dX9_owedTo_18 rfl hl (by decide) rfl (fun ls hl => ?_)
        obtain ⟨v4, ev4, hf⟩ := bd1_e hf
        refine lv_iinc (k := 3) (x := x3_4) (v := v4) (nL := 4) (lv' := [(3, .int v4), (2, .int v3), (0, .ref (raS 0)), (1, .int x1_4)]) hx hb dX9_owedTo_19 hl rfl (kt_inc (w := 1) (by decide) ev4) (by decide) rfl (fun ls hl => ?_)
        refine lv_goto (tgt := 4) hx hb dX9_owedTo_22 (by decide) ?_
        exact ih_4 x1_4 v3 v4 ls (lv_sub hl [2, 3, 1, 0] rfl) hf) 2000
  refine lv_iconst (v := 0) hx hb dX9_owedTo_0 (by decide) ?_
  refine lv_istore_n (nL := 4) (lv' := [(2, .int (0 : Int32)), (0, .ref (raS 0)), (1, .int a0)]) hx hb dX9_owedTo_1 rfl hl (by decide) rfl (fun ls hl => ?_)
  refine lv_iconst (v := 0) hx hb dX9_owedTo_2 (by decide) ?_
  refine lv_istore_n (nL := 4) (lv' := [(3, .int (0 : Int32)), (2, .int (0 : Int32)), (0, .ref (raS 0)), (1, .int a0)]) hx hb dX9_owedTo_3 rfl hl (by decide) rfl (fun ls hl => ?_)
  exact h_4 a0 (0 : Int32) (0 : Int32) ls (lv_sub hl [2, 3, 1, 0] rfl) hf

def ww_X9_performIfItCan (cs : Nat → ClassId) (ad : Nat → Nat) (raS : Nat → Nat) (raO : Nat → Nat) (S : kD) (O : kD) : va_W := (wX9 cs ad raS S ++ (wX3 cs ad raO O))
abbrev rm_X9_performIfItCan : Room := { frames := 4, cells := 0, slots := 0, locals := 90 }
set_option maxHeartbeats 4000000 in
set_option maxRecDepth 100000 in
theorem c_X9_performIfItCan (l : Launch) (dC : Nat → ClassId) (dI : Nat → Nat → Nat) (cs : Nat → ClassId) (ad : Nat → Nat) (raS : Nat → Nat) (raO : Nat → Nat) (sz : Nat) (S : kD) (O : kD) (a1 : Int32) (a2 : Int32) (a3 : Int32) (r : kD) (hf : f_X9_performIfItCan a1 a2 a3 S O = some r) : Met l yX9_performIfItCan wsX9_performIfItCan rm_X9_performIfItCan (va_Pc [.ref (raS 0), .ref (raO 0), .int a1, .int a2, .int a3] (cPw dC dI cs sz (ww_X9_performIfItCan cs ad raS raO S O))) (cQv dC dI cs (va_A (ww_X9_performIfItCan cs ad raS raO zD zD) sz) (ww_X9_performIfItCan cs ad raS raO r O)) 0 0 (va_A (ww_X9_performIfItCan cs ad raS raO zD zD) sz) := by
  refine Met.ofW (cc := cX9_performIfItCan) (maxL := 5) (ret := none) (by decide) rfl ?_
  intro p e s m args below meth c s₁ B hml hv
  obtain ⟨hav, hsz, hP, hK, hD0, hN⟩ := hv
  have hx := B.exec
  have hb := B.bytes
  have hr := B.returns
  have hts := atoms_spec (ws := wsX9_performIfItCan) B.pre
  have hown : s.vm.findClass RX9 = some m.cls := findClass_of_methodNamed B.named
  have hlocks := B.notSynchronized
  subst hsz
  have hA : ∀ q, s.heap.size ≤ q → va_A (ww_X9_performIfItCan cs ad raS raO zD zD) s.heap.size q := fun q h => Or.inr h
  have hD : va_D (va_A (ww_X9_performIfItCan cs ad raS raO zD zD) s.heap.size) (ww_X9_performIfItCan cs ad raS raO S O) := hD0.weaken (fun k q h _ => cA_in (ws := (ww_X9_performIfItCan cs ad raS raO S O)) (ws' := (ww_X9_performIfItCan cs ad raS raO zD zD)) rfl h)
  have hS : va_S (va_A (ww_X9_performIfItCan cs ad raS raO zD zD) s.heap.size) s.heap s.heap [] := va_S.rf
  have hl := lv_entry ([.ref (raS 0), .ref (raO 0), .int a1, .int a2, .int a3]) (n := 5) (Nat.le_of_ble_eq_true rfl)
  rw [show entryFrame m args 5 = entryFrame m ([.ref (raS 0), .ref (raO 0), .int a1, .int a2, .int a3] : List Value).toArray 5 from by rw [hav], lg_entry_eq]
  generalize (lg_sl ([.ref (raS 0), .ref (raO 0), .int a1, .int a2, .int a3]) ++ List.replicate (5 - (lg_sl ([.ref (raS 0), .ref (raO 0), .int a1, .int a2, .int a3])).length) Slot.unset).toArray = ls at hl ⊢
  have hl : lv_has ls 5 [(0, .ref (raS 0)), (1, .ref (raO 0)), (2, .int a1), (3, .int a2), (4, .int a3)] := hl
  unfold f_X9_performIfItCan at hf
  refine lv_aload_n hx hb dX9_performIfItCan_0 rfl (lv_at hl 0 rfl) ?_
  refine lv_aload_n hx hb dX9_performIfItCan_1 rfl (lv_at hl 1 rfl) ?_
  refine lv_iload_n hx hb dX9_performIfItCan_2 rfl (lv_at hl 2 rfl) ?_
  refine lv_iload_n hx hb dX9_performIfItCan_3 rfl (lv_at hl 3 rfl) ?_
  refine lv_iload hx hb dX9_performIfItCan_4 (lv_at hl 4 rfl) ?_
  obtain ⟨v2, hq1, hf⟩ := bo_e hf
  refine ko_call (v := some (.int v2)) (va_runV (As := [.ref (raO 0), .int a1, .int a2, .int a3]) (rest := []) ⟨hx, hb, hml, hown, hts⟩ (c_X9_whyNot l dC dI cs ad raS raO S O a1 a2 a3 v2 hq1) (cwV 4 hts gX9_performIfItCan_X9_whyNot rfl rfl rfl (by decide +kernel) ⟨Nat.le_of_ble_eq_true rfl, Nat.le_of_ble_eq_true rfl⟩) ⟨fun a U g mk q => ⟨q.1, (fun _ _ _ _ => cPr_bl) a U g mk q.2⟩, va_recv hK hP (ci := 10) (q0 := 0) rfl rfl, fun U hU hW => ⟨rfl, ⟨by rw [hU]; exact (hP.sub (ws' := (ww_X9_whyNot cs ad raS raO S O)) [0, 1, 2, 3, 4, 5, 6, 7, 8, 9, 10, 11, 12] rfl), va_K.moved hW.alike hK, kN_warm hW hN⟩⟩⟩ rfl rfl hl.1 rfl (lv_room (Nat.le_of_ble_eq_true rfl)) dX9_performIfItCan_6 ⟨Nat.le_refl _, Nat.le_refl _⟩) ?_
  refine lv_if_ne (tgt := 21) hx hb dX9_performIfItCan_9 (by decide) (fun hb5 => ?_) (fun hb5 => ?_)
  · have hf := (if_neg hb5).symm.trans hf
    have hf := Option.some.inj hf
    subst hf
    exact c_vret hx hb hr hlocks hP hK hD hS dX9_performIfItCan_21
  · have hf := (if_pos hb5).symm.trans hf
    refine lv_aload_n hx hb dX9_performIfItCan_12 rfl (lv_at hl 0 rfl) ?_
    refine lv_aload_n hx hb dX9_performIfItCan_13 rfl (lv_at hl 1 rfl) ?_
    refine lv_iload_n hx hb dX9_performIfItCan_14 rfl (lv_at hl 2 rfl) ?_
    refine lv_iload_n hx hb dX9_performIfItCan_15 rfl (lv_at hl 3 rfl) ?_
    refine lv_iload hx hb dX9_performIfItCan_16 (lv_at hl 4 rfl) ?_
    obtain ⟨Sv4, hq3, hf⟩ := bo_e hf
    refine g_callv (isC := [0, 1, 2, 3, 4, 5, 6, 7, 8, 9, 10, 11, 12]) (isR := []) (wc := (ww_X9_perform cs ad raS raO S O)) (wz := (ww_X9_perform cs ad raS raO zD zD)) (w1 := (ww_X9_perform cs ad raS raO Sv4 O)) (ws' := (ww_X9_performIfItCan cs ad raS raO Sv4 O)) (va_runV (As := [.ref (raO 0), .int a1, .int a2, .int a3]) (rest := []) ⟨hx, hb, hml, hown, hts⟩ (c_X9_perform l dC dI cs ad raS raO _ S O a1 a2 a3 Sv4 hq3) (cwV 4 hts gX9_performIfItCan_X9_perform rfl rfl rfl (by decide +kernel) ⟨Nat.le_of_ble_eq_true rfl, Nat.le_of_ble_eq_true rfl⟩) ⟨fun a U g mk q => ⟨q.1, (fun _ _ _ _ => cPw_bl) a U g mk q.2⟩, va_recv hK hP (ci := 10) (q0 := 0) rfl rfl, fun U hU hW => ⟨rfl, ⟨by rw [hU], by rw [hU]; exact (hP.sub (ws' := (ww_X9_perform cs ad raS raO S O)) [0, 1, 2, 3, 4, 5, 6, 7, 8, 9, 10, 11, 12] rfl), va_K.moved hW.alike hK, (hD.sub (ws' := (ww_X9_perform cs ad raS raO S O)) [0, 1, 2, 3, 4, 5, 6, 7, 8, 9, 10, 11, 12] (by decide) rfl).weaken (fun _ _ _ _ => trivial), kN_warm hW hN⟩⟩⟩ rfl rfl hl.1 rfl (lv_room (Nat.le_of_ble_eq_true rfl)) dX9_performIfItCan_18 ⟨Nat.le_refl _, Nat.le_refl _⟩) hP hD hS hA rfl rfl (wr := ([] : va_W)) rfl rfl rfl (nw := 13) rfl (by decide +kernel) rfl (fun H locs hP hD hS => ?_)
    have hf := Option.some.inj hf
    subst hf
    exact c_vret hx hb hr hlocks hP hK hD hS dX9_performIfItCan_21

def ww_X9_drawAct (cs : Nat → ClassId) (ad : Nat → Nat) (raS : Nat → Nat) (raO : Nat → Nat) (raD : Nat → Nat) (S : kD) (O : kD) (D : kD) : va_W := (wX9 cs ad raS S ++ (wX3 cs ad raO O ++ (wX1 cs ad raD D)))
abbrev rm_X9_drawAct : Room := { frames := 5, cells := 0, slots := 0, locals := 114 }
set_option maxHeartbeats 4000000 in
set_option maxRecDepth 100000 in
theorem c_X9_drawAct (l : Launch) (dC : Nat → ClassId) (dI : Nat → Nat → Nat) (cs : Nat → ClassId) (ad : Nat → Nat) (raS : Nat → Nat) (raO : Nat → Nat) (raD : Nat → Nat) (sz : Nat) (S : kD) (O : kD) (D : kD) (r : kD × kD) (hf : f_X9_drawAct S O D = some r) : Met l yX9_drawAct wsX9_drawAct rm_X9_drawAct (va_Pc [.ref (raS 0), .ref (raO 0), .ref (raD 0)] (cPw dC dI cs sz (ww_X9_drawAct cs ad raS raO raD S O D))) (cQv dC dI cs (va_A (ww_X9_drawAct cs ad raS raO raD zD zD zD) sz) (ww_X9_drawAct cs ad raS raO raD r.1 O r.2)) 0 0 (va_A (ww_X9_drawAct cs ad raS raO raD zD zD zD) sz) := by
  refine Met.ofW (cc := cX9_drawAct) (maxL := 5) (ret := none) (by decide) rfl ?_
  intro p e s m args below meth c s₁ B hml hv
  obtain ⟨hav, hsz, hP, hK, hD0, hN⟩ := hv
  have hx := B.exec
  have hb := B.bytes
  have hr := B.returns
  have hts := atoms_spec (ws := wsX9_drawAct) B.pre
  have hown : s.vm.findClass RX9 = some m.cls := findClass_of_methodNamed B.named
  have hlocks := B.notSynchronized
  subst hsz
  have hA : ∀ q, s.heap.size ≤ q → va_A (ww_X9_drawAct cs ad raS raO raD zD zD zD) s.heap.size q := fun q h => Or.inr h
  have hD : va_D (va_A (ww_X9_drawAct cs ad raS raO raD zD zD zD) s.heap.size) (ww_X9_drawAct cs ad raS raO raD S O D) := hD0.weaken (fun k q h _ => cA_in (ws := (ww_X9_drawAct cs ad raS raO raD S O D)) (ws' := (ww_X9_drawAct cs ad raS raO raD zD zD zD)) rfl h)
  have hS : va_S (va_A (ww_X9_drawAct cs ad raS raO raD zD zD zD) s.heap.size) s.heap s.heap [] := va_S.rf
  have hinX3 := (show ∀ w ∈ wsX30, w ∈ wsX9_drawAct from fun w h => List.mem_cons_of_mem _ (List.mem_append_left _ (List.mem_append_left _ (List.mem_append_right _ h))))
  have k_initialized_RX1 := hts (.initialized RX1) (List.mem_of_getElem? (i := 2) rfl)
  have k_instanceMethod_yX1_draw := hts (.instanceMethod yX1_draw) (List.mem_of_getElem? (i := 1) rfl)
  have k_selects_RX1_yX1_draw_yX1_draw := hts (.selects RX1 yX1_draw yX1_draw) (List.mem_of_getElem? (i := 3) rfl)
  have hl := lv_entry ([.ref (raS 0), .ref (raO 0), .ref (raD 0)]) (n := 5) (Nat.le_of_ble_eq_true rfl)
  rw [show entryFrame m args 5 = entryFrame m ([.ref (raS 0), .ref (raO 0), .ref (raD 0)] : List Value).toArray 5 from by rw [hav], lg_entry_eq]
  generalize (lg_sl ([.ref (raS 0), .ref (raO 0), .ref (raD 0)]) ++ List.replicate (5 - (lg_sl ([.ref (raS 0), .ref (raO 0), .ref (raD 0)])).length) Slot.unset).toArray = ls at hl ⊢
  have hl : lv_has ls 5 [(0, .ref (raS 0)), (1, .ref (raO 0)), (2, .ref (raD 0))] := hl
  unfold f_X9_drawAct at hf
  have h_47 : ∀ (x4_47 : Int32) (t2_47 : Int32) (S_47 : kD) (D_47 : kD) (ls : Array Slot) (H : Heap) (locs : List Loc), lv_has ls 5 [(4, .int x4_47)] → va_P (dC, dI) vwCl (ww_X9_drawAct cs ad raS raO raD S_47 O D_47) H → va_D (va_A (ww_X9_drawAct cs ad raS raO raD zD zD zD) s.heap.size) (ww_X9_drawAct cs ad raS raO raD S_47 O D_47) → va_S (va_A (ww_X9_drawAct cs ad raS raO raD zD zD zD) s.heap.size) s.heap H locs → g_X9_drawAct_47 O x4_47 t2_47 S_47 D_47 = some r → W p l e (headSpec wsX9_drawAct rm_X9_drawAct).room s m args below meth c H locs 0 0 (MQ below (cQv dC dI cs (va_A (ww_X9_drawAct cs ad raS raO raD zD zD zD) s.heap.size) (ww_X9_drawAct cs ad raS raO raD r.1 O r.2)) args s 0 0 (va_A (ww_X9_drawAct cs ad raS raO raD zD zD zD) s.heap.size)) (F0 m 47 ls [.int t2_47, .ref (raO 0), .ref (raS 0)]) := by
    intro x4_47 t2_47 S_47 D_47 ls H locs hl hP hD hS hf
    unfold g_X9_drawAct_47 at hf
    refine lv_iload hx hb dX9_drawAct_47 (lv_at hl 0 rfl) ?_
    refine lv_iconst (v := 0) hx hb dX9_drawAct_49 (by decide) ?_
    obtain ⟨Sv2, hq1, hf⟩ := bo_e hf
    refine g_callv (isC := [0, 1, 2, 3, 4, 5, 6, 7, 8, 9, 10, 11, 12]) (isR := [13]) (wc := (ww_X9_performIfItCan cs ad raS raO S_47 O)) (wz := (ww_X9_performIfItCan cs ad raS raO zD zD)) (w1 := (ww_X9_performIfItCan cs ad raS raO Sv2 O)) (ws' := (ww_X9_drawAct cs ad raS raO raD Sv2 O D_47)) (va_runV (As := [.ref (raO 0), .int t2_47, .int x4_47, .int (0 : Int32)]) (rest := []) ⟨hx, hb, hml, hown, hts⟩ (c_X9_performIfItCan l dC dI cs ad raS raO _ S_47 O t2_47 x4_47 (0 : Int32) Sv2 hq1) (cwV 4 hts gX9_drawAct_X9_performIfItCan rfl rfl rfl (by decide +kernel) ⟨Nat.le_of_ble_eq_true rfl, Nat.le_of_ble_eq_true rfl⟩) ⟨fun a U g mk q => ⟨q.1, (fun _ _ _ _ => cPw_bl) a U g mk q.2⟩, va_recv hK hP (ci := 10) (q0 := 0) rfl rfl, fun U hU hW => ⟨rfl, ⟨by rw [hU], by rw [hU]; exact (hP.sub (ws' := (ww_X9_performIfItCan cs ad raS raO S_47 O)) [0, 1, 2, 3, 4, 5, 6, 7, 8, 9, 10, 11, 12] rfl), va_K.moved hW.alike hK, (hD.sub (ws' := (ww_X9_performIfItCan cs ad raS raO S_47 O)) [0, 1, 2, 3, 4, 5, 6, 7, 8, 9, 10, 11, 12] (by decide) rfl).weaken (fun _ _ _ _ => trivial), kN_warm hW hN⟩⟩⟩ rfl rfl hl.1 rfl (lv_room (Nat.le_of_ble_eq_true rfl)) dX9_drawAct_50 ⟨Nat.le_refl _, Nat.le_refl _⟩) hP hD hS hA rfl rfl (wr := ((wX1 cs ad raD D_47))) rfl rfl rfl (nw := 14) rfl (by decide +kernel) rfl (fun H locs hP hD hS => ?_)
    refine lv_goto (tgt := 129) hx hb dX9_drawAct_53 (by decide) ?_
    have hf := Option.some.inj hf
    subst hf
    exact c_vret hx hb hr hlocks hP hK hD hS dX9_drawAct_129
  refine lv_aload_n hx hb dX9_drawAct_0 rfl (lv_at hl 1 rfl) ?_
  refine va_getN (D := (dC, dI)) (ci := 4) (C := RX3) (T := TX3) (N := 11) hx hb hts hinX3 hown hK hP 5 rfl rfl 1 (by decide) (v := .int (O.1 0 1)) (va_Nw.use rfl (hN _ (List.mem_of_getElem? (i := 13) rfl))) (fun _ h9 => h9) rfl dX9_drawAct_1 ?_
  refine lv_if_ne (tgt := 8) hx hb dX9_drawAct_4 (by decide) (fun hb30 => ?_) (fun hb30 => ?_)
  · have hf := (if_neg hb30).symm.trans hf
    refine lv_aload_n hx hb dX9_drawAct_8 rfl (lv_at hl 2 rfl) ?_
    refine lv_bipush (v := 8) hx hb dX9_drawAct_9 (by decide) ?_
    obtain ⟨v4, Dv5, hq3, hf⟩ := bo2_e hf
    refine g_callw (isC := [13]) (isR := [0, 1, 2, 3, 4, 5, 6, 7, 8, 9, 10, 11, 12]) (wc := (ww_X1_draw cs ad raD D)) (wz := (ww_X1_draw cs ad raD zD)) (w1 := (ww_X1_draw cs ad raD Dv5)) (ws' := (ww_X9_drawAct cs ad raS raO raD S O Dv5)) (v := v4) (va_runVN (As := [.int (8 : Int32)]) (rest := []) ⟨hx, hb, hml, hown, hts⟩ (c_X1_draw l dC dI cs ad raD _ D (8 : Int32) (v4, Dv5) hq3) ⟨va_cnB 1 hts gX9_drawAct_X1_draw_n132 rfl rfl rfl (hN _ (List.mem_of_getElem? (i := 119) rfl)) k_initialized_RX1 (by decide +kernel) ⟨Nat.le_of_ble_eq_true rfl, Nat.le_of_ble_eq_true rfl⟩, k_instanceMethod_yX1_draw, k_selects_RX1_yX1_draw_yX1_draw⟩ ⟨fun a U g mk q => ⟨q.1, (fun _ _ _ _ => cPw_bl) a U g mk q.2⟩, va_recv hK hP (ci := 2) (q0 := 13) rfl rfl, fun U hU hW => ⟨rfl, ⟨by rw [hU], by rw [hU]; exact (hP.sub (ws' := (ww_X1_draw cs ad raD D)) [13] rfl), va_K.moved hW.alike hK, (hD.sub (ws' := (ww_X1_draw cs ad raD D)) [13] (by decide) rfl).weaken (fun _ _ _ _ => trivial), kN_warm hW hN⟩⟩⟩ rfl rfl hl.1 rfl (lv_room (Nat.le_of_ble_eq_true rfl)) dX9_drawAct_11 ⟨Nat.le_refl _, Nat.le_refl _⟩) hP hD hS hA rfl rfl (wr := ((wX9 cs ad raS S) ++ ((wX3 cs ad raO O)))) rfl rfl rfl (nw := 14) rfl (by decide +kernel) rfl (fun H locs hP hD hS => ?_)
    refine lv_istore_n (nL := 5) (lv' := [(3, .int v4), (0, .ref (raS 0)), (1, .ref (raO 0)), (2, .ref (raD 0))]) hx hb dX9_drawAct_14 rfl hl (by decide) rfl (fun ls hl => ?_)
    refine lv_iload_n hx hb dX9_drawAct_15 rfl (lv_at hl 0 rfl) ?_
    refine lv_if_ne (tgt := 56) hx hb dX9_drawAct_16 (by decide) (fun hb29 => ?_) (fun hb29 => ?_)
    · have hf := (if_neg hb29).symm.trans hf
      refine lv_iload_n hx hb dX9_drawAct_56 rfl (lv_at hl 0 rfl) ?_
      refine lv_iconst (v := 1) hx hb dX9_drawAct_57 (by decide) ?_
      refine lv_icmp_ne (tgt := 91) hx hb dX9_drawAct_58 (by decide) (fun hb24 => ?_) (fun hb24 => ?_)
      · have hf := (if_neg hb24).symm.trans hf
        refine lv_iload_n hx hb dX9_drawAct_91 rfl (lv_at hl 0 rfl) ?_
        refine lv_iconst (v := 4) hx hb dX9_drawAct_92 (by decide) ?_
        refine lv_icmp_gt (tgt := 129) hx hb dX9_drawAct_93 (by decide) (fun hb15 => ?_) (fun hb15 => ?_)
        · have hf := (if_pos hb15).symm.trans hf
          have hf := Option.some.inj hf
          subst hf
          exact c_vret hx hb hr hlocks hP hK hD hS dX9_drawAct_129
        · have hf := (if_neg hb15).symm.trans hf
          refine lv_aload_n hx hb dX9_drawAct_96 rfl (lv_at hl 2 rfl) ?_
          refine va_getN (D := (dC, dI)) (ci := 4) (C := RX3) (T := TX3) (N := 11) hx hb hts hinX3 hown hK hP 5 rfl rfl 2 (by decide) (v := .int (O.1 0 2)) (va_Nw.use rfl (hN _ (List.mem_of_getElem? (i := 17) rfl))) (fun _ h9 => h9) rfl dX9_drawAct_97 ?_
          refine lv_if_le (tgt := 129) hx hb dX9_drawAct_100 (by decide) (fun hb14 => ?_) (fun hb14 => ?_)
          · have hf := (if_pos hb14).symm.trans hf
            have hf := Option.some.inj hf
            subst hf
            exact c_vret hx hb hr hlocks hP hK hD hS dX9_drawAct_129
          · have hf := (if_neg hb14).symm.trans hf
            refine lv_aload_n hx hb dX9_drawAct_103 rfl (lv_at hl 3 rfl) ?_
            refine lv_aload_n hx hb dX9_drawAct_104 rfl (lv_at hl 2 rfl) ?_
            refine va_getN (D := (dC, dI)) (ci := 4) (C := RX3) (T := TX3) (N := 11) hx hb hts hinX3 hown hK hP 5 rfl rfl 1 (by decide) (v := .int (O.1 0 1)) (va_Nw.use rfl (hN _ (List.mem_of_getElem? (i := 13) rfl))) (fun _ h9 => h9) rfl dX9_drawAct_105 ?_
            obtain ⟨v7, Dv8, hq6, hf⟩ := bo2_e hf
            refine g_callw (isC := [13]) (isR := [0, 1, 2, 3, 4, 5, 6, 7, 8, 9, 10, 11, 12]) (wc := (ww_X1_draw cs ad raD Dv5)) (wz := (ww_X1_draw cs ad raD zD)) (w1 := (ww_X1_draw cs ad raD Dv8)) (ws' := (ww_X9_drawAct cs ad raS raO raD S O Dv8)) (v := v7) (va_runVN (As := [.int (O.1 0 1)]) (rest := []) ⟨hx, hb, hml, hown, hts⟩ (c_X1_draw l dC dI cs ad raD _ Dv5 (O.1 0 1) (v7, Dv8) hq6) ⟨va_cnB 1 hts gX9_drawAct_X1_draw_n132 rfl rfl rfl (hN _ (List.mem_of_getElem? (i := 119) rfl)) k_initialized_RX1 (by decide +kernel) ⟨Nat.le_of_ble_eq_true rfl, Nat.le_of_ble_eq_true rfl⟩, k_instanceMethod_yX1_draw, k_selects_RX1_yX1_draw_yX1_draw⟩ ⟨fun a U g mk q => ⟨q.1, (fun _ _ _ _ => cPw_bl) a U g mk q.2⟩, va_recv hK hP (ci := 2) (q0 := 13) rfl rfl, fun U hU hW => ⟨rfl, ⟨by rw [hU], by rw [hU]; exact (hP.sub (ws' := (ww_X1_draw cs ad raD Dv5)) [13] rfl), va_K.moved hW.alike hK, (hD.sub (ws' := (ww_X1_draw cs ad raD Dv5)) [13] (by decide) rfl).weaken (fun _ _ _ _ => trivial), kN_warm hW hN⟩⟩⟩ rfl rfl hl.1 rfl (lv_room (Nat.le_of_ble_eq_true rfl)) dX9_drawAct_108 ⟨Nat.le_refl _, Nat.le_refl _⟩) hP hD hS hA rfl rfl (wr := ((wX9 cs ad raS S) ++ ((wX3 cs ad raO O)))) rfl rfl rfl (nw := 14) rfl (by decide +kernel) rfl (fun H locs hP hD hS => ?_)
            refine lv_istore (nL := 5) (lv' := [(4, .int v7), (3, .int v4), (0, .ref (raS 0)), (1, .ref (raO 0)), (2, .ref (raD 0))]) hx hb dX9_drawAct_111 hl (by decide) rfl (fun ls hl => ?_)
            refine lv_aload_n hx hb dX9_drawAct_113 rfl (lv_at hl 2 rfl) ?_
            refine lv_aload_n hx hb dX9_drawAct_114 rfl (lv_at hl 3 rfl) ?_
            refine lv_iconst (v := 0) hx hb dX9_drawAct_115 (by decide) ?_
            refine lv_iload hx hb dX9_drawAct_116 (lv_at hl 0 rfl) ?_
            refine lv_aload_n hx hb dX9_drawAct_118 rfl (lv_at hl 4 rfl) ?_
            refine lv_aload_n hx hb dX9_drawAct_119 rfl (lv_at hl 3 rfl) ?_
            refine va_getN (D := (dC, dI)) (ci := 4) (C := RX3) (T := TX3) (N := 11) hx hb hts hinX3 hown hK hP 5 rfl rfl 2 (by decide) (v := .int (O.1 0 2)) (va_Nw.use rfl (hN _ (List.mem_of_getElem? (i := 17) rfl))) (fun _ h9 => h9) rfl dX9_drawAct_120 ?_
            obtain ⟨v10, Dv11, hq9, hf⟩ := bo2_e hf
            refine g_callw (isC := [13]) (isR := [0, 1, 2, 3, 4, 5, 6, 7, 8, 9, 10, 11, 12]) (wc := (ww_X1_draw cs ad raD Dv8)) (wz := (ww_X1_draw cs ad raD zD)) (w1 := (ww_X1_draw cs ad raD Dv11)) (ws' := (ww_X9_drawAct cs ad raS raO raD S O Dv11)) (v := v10) (va_runVN (As := [.int (O.1 0 2)]) (rest := [.int v7, .int (0 : Int32), .ref (raO 0), .ref (raS 0)]) ⟨hx, hb, hml, hown, hts⟩ (c_X1_draw l dC dI cs ad raD _ Dv8 (O.1 0 2) (v10, Dv11) hq9) ⟨va_cnB 1 hts gX9_drawAct_X1_draw_n132 rfl rfl rfl (hN _ (List.mem_of_getElem? (i := 119) rfl)) k_initialized_RX1 (by decide +kernel) ⟨Nat.le_of_ble_eq_true rfl, Nat.le_of_ble_eq_true rfl⟩, k_instanceMethod_yX1_draw, k_selects_RX1_yX1_draw_yX1_draw⟩ ⟨fun a U g mk q => ⟨q.1, (fun _ _ _ _ => cPw_bl) a U g mk q.2⟩, va_recv hK hP (ci := 2) (q0 := 13) rfl rfl, fun U hU hW => ⟨rfl, ⟨by rw [hU], by rw [hU]; exact (hP.sub (ws' := (ww_X1_draw cs ad raD Dv8)) [13] rfl), va_K.moved hW.alike hK, (hD.sub (ws' := (ww_X1_draw cs ad raD Dv8)) [13] (by decide) rfl).weaken (fun _ _ _ _ => trivial), kN_warm hW hN⟩⟩⟩ rfl rfl hl.1 rfl (lv_room (Nat.le_of_ble_eq_true rfl)) dX9_drawAct_123 ⟨Nat.le_refl _, Nat.le_refl _⟩) hP hD hS hA rfl rfl (wr := ((wX9 cs ad raS S) ++ ((wX3 cs ad raO O)))) rfl rfl rfl (nw := 14) rfl (by decide +kernel) rfl (fun H locs hP hD hS => ?_)
            obtain ⟨Sv13, hq12, hf⟩ := bo_e hf
            refine g_callv (isC := [0, 1, 2, 3, 4, 5, 6, 7, 8, 9, 10, 11, 12]) (isR := [13]) (wc := (ww_X9_performIfItCan cs ad raS raO S O)) (wz := (ww_X9_performIfItCan cs ad raS raO zD zD)) (w1 := (ww_X9_performIfItCan cs ad raS raO Sv13 O)) (ws' := (ww_X9_drawAct cs ad raS raO raD Sv13 O Dv11)) (va_runV (As := [.ref (raO 0), .int (0 : Int32), .int v7, .int v10]) (rest := []) ⟨hx, hb, hml, hown, hts⟩ (c_X9_performIfItCan l dC dI cs ad raS raO _ S O (0 : Int32) v7 v10 Sv13 hq12) (cwV 4 hts gX9_drawAct_X9_performIfItCan rfl rfl rfl (by decide +kernel) ⟨Nat.le_of_ble_eq_true rfl, Nat.le_of_ble_eq_true rfl⟩) ⟨fun a U g mk q => ⟨q.1, (fun _ _ _ _ => cPw_bl) a U g mk q.2⟩, va_recv hK hP (ci := 10) (q0 := 0) rfl rfl, fun U hU hW => ⟨rfl, ⟨by rw [hU], by rw [hU]; exact (hP.sub (ws' := (ww_X9_performIfItCan cs ad raS raO S O)) [0, 1, 2, 3, 4, 5, 6, 7, 8, 9, 10, 11, 12] rfl), va_K.moved hW.alike hK, (hD.sub (ws' := (ww_X9_performIfItCan cs ad raS raO S O)) [0, 1, 2, 3, 4, 5, 6, 7, 8, 9, 10, 11, 12] (by decide) rfl).weaken (fun _ _ _ _ => trivial), kN_warm hW hN⟩⟩⟩ rfl rfl hl.1 rfl (lv_room (Nat.le_of_ble_eq_true rfl)) dX9_drawAct_126 ⟨Nat.le_refl _, Nat.le_refl _⟩) hP hD hS hA rfl rfl (wr := ((wX1 cs ad raD Dv11))) rfl rfl rfl (nw := 14) rfl (by decide +kernel) rfl (fun H locs hP hD hS => ?_)
            have hf := Option.some.inj hf
            subst hf
            exact c_vret hx hb hr hlocks hP hK hD hS dX9_drawAct_129
      · have hf := (if_pos hb24).symm.trans hf
        refine lv_aload_n hx hb dX9_drawAct_61 rfl (lv_at hl 3 rfl) ?_
        refine lv_aload_n hx hb dX9_drawAct_62 rfl (lv_at hl 2 rfl) ?_
        refine va_getN (D := (dC, dI)) (ci := 4) (C := RX3) (T := TX3) (N := 11) hx hb hts hinX3 hown hK hP 5 rfl rfl 1 (by decide) (v := .int (O.1 0 1)) (va_Nw.use rfl (hN _ (List.mem_of_getElem? (i := 13) rfl))) (fun _ h9 => h9) rfl dX9_drawAct_63 ?_
        obtain ⟨v17, Dv18, hq16, hf⟩ := bo2_e hf
        refine g_callw (isC := [13]) (isR := [0, 1, 2, 3, 4, 5, 6, 7, 8, 9, 10, 11, 12]) (wc := (ww_X1_draw cs ad raD Dv5)) (wz := (ww_X1_draw cs ad raD zD)) (w1 := (ww_X1_draw cs ad raD Dv18)) (ws' := (ww_X9_drawAct cs ad raS raO raD S O Dv18)) (v := v17) (va_runVN (As := [.int (O.1 0 1)]) (rest := []) ⟨hx, hb, hml, hown, hts⟩ (c_X1_draw l dC dI cs ad raD _ Dv5 (O.1 0 1) (v17, Dv18) hq16) ⟨va_cnB 1 hts gX9_drawAct_X1_draw_n132 rfl rfl rfl (hN _ (List.mem_of_getElem? (i := 119) rfl)) k_initialized_RX1 (by decide +kernel) ⟨Nat.le_of_ble_eq_true rfl, Nat.le_of_ble_eq_true rfl⟩, k_instanceMethod_yX1_draw, k_selects_RX1_yX1_draw_yX1_draw⟩ ⟨fun a U g mk q => ⟨q.1, (fun _ _ _ _ => cPw_bl) a U g mk q.2⟩, va_recv hK hP (ci := 2) (q0 := 13) rfl rfl, fun U hU hW => ⟨rfl, ⟨by rw [hU], by rw [hU]; exact (hP.sub (ws' := (ww_X1_draw cs ad raD Dv5)) [13] rfl), va_K.moved hW.alike hK, (hD.sub (ws' := (ww_X1_draw cs ad raD Dv5)) [13] (by decide) rfl).weaken (fun _ _ _ _ => trivial), kN_warm hW hN⟩⟩⟩ rfl rfl hl.1 rfl (lv_room (Nat.le_of_ble_eq_true rfl)) dX9_drawAct_66 ⟨Nat.le_refl _, Nat.le_refl _⟩) hP hD hS hA rfl rfl (wr := ((wX9 cs ad raS S) ++ ((wX3 cs ad raO O)))) rfl rfl rfl (nw := 14) rfl (by decide +kernel) rfl (fun H locs hP hD hS => ?_)
        refine lv_istore (nL := 5) (lv' := [(4, .int v17), (3, .int v4), (0, .ref (raS 0)), (1, .ref (raO 0)), (2, .ref (raD 0))]) hx hb dX9_drawAct_69 hl (by decide) rfl (fun ls hl => ?_)
        refine lv_aload_n hx hb dX9_drawAct_71 rfl (lv_at hl 2 rfl) ?_
        refine lv_aload_n hx hb dX9_drawAct_72 rfl (lv_at hl 3 rfl) ?_
        refine lv_bipush (v := 30) hx hb dX9_drawAct_73 (by decide) ?_
        refine lv_iload hx hb dX9_drawAct_75 (lv_at hl 0 rfl) ?_
        refine lv_aload_n hx hb dX9_drawAct_77 rfl (lv_at hl 4 rfl) ?_
        refine lv_bipush (v := 60) hx hb dX9_drawAct_78 (by decide) ?_
        obtain ⟨v20, Dv21, hq19, hf⟩ := bo2_e hf
        refine g_callw (isC := [13]) (isR := [0, 1, 2, 3, 4, 5, 6, 7, 8, 9, 10, 11, 12]) (wc := (ww_X1_draw cs ad raD Dv18)) (wz := (ww_X1_draw cs ad raD zD)) (w1 := (ww_X1_draw cs ad raD Dv21)) (ws' := (ww_X9_drawAct cs ad raS raO raD S O Dv21)) (v := v20) (va_runVN (As := [.int (60 : Int32)]) (rest := [.int v17, .int (30 : Int32), .ref (raO 0), .ref (raS 0)]) ⟨hx, hb, hml, hown, hts⟩ (c_X1_draw l dC dI cs ad raD _ Dv18 (60 : Int32) (v20, Dv21) hq19) ⟨va_cnB 1 hts gX9_drawAct_X1_draw_n132 rfl rfl rfl (hN _ (List.mem_of_getElem? (i := 119) rfl)) k_initialized_RX1 (by decide +kernel) ⟨Nat.le_of_ble_eq_true rfl, Nat.le_of_ble_eq_true rfl⟩, k_instanceMethod_yX1_draw, k_selects_RX1_yX1_draw_yX1_draw⟩ ⟨fun a U g mk q => ⟨q.1, (fun _ _ _ _ => cPw_bl) a U g mk q.2⟩, va_recv hK hP (ci := 2) (q0 := 13) rfl rfl, fun U hU hW => ⟨rfl, ⟨by rw [hU], by rw [hU]; exact (hP.sub (ws' := (ww_X1_draw cs ad raD Dv18)) [13] rfl), va_K.moved hW.alike hK, (hD.sub (ws' := (ww_X1_draw cs ad raD Dv18)) [13] (by decide) rfl).weaken (fun _ _ _ _ => trivial), kN_warm hW hN⟩⟩⟩ rfl rfl hl.1 rfl (lv_room (Nat.le_of_ble_eq_true rfl)) dX9_drawAct_80 ⟨Nat.le_refl _, Nat.le_refl _⟩) hP hD hS hA rfl rfl (wr := ((wX9 cs ad raS S) ++ ((wX3 cs ad raO O)))) rfl rfl rfl (nw := 14) rfl (by decide +kernel) rfl (fun H locs hP hD hS => ?_)
        refine lv_iconst (v := 1) hx hb dX9_drawAct_83 (by decide) ?_
        refine lv_iadd hx hb dX9_drawAct_84 ?_
        obtain ⟨Sv23, hq22, hf⟩ := bo_e hf
        refine g_callv (isC := [0, 1, 2, 3, 4, 5, 6, 7, 8, 9, 10, 11, 12]) (isR := [13]) (wc := (ww_X9_performIfItCan cs ad raS raO S O)) (wz := (ww_X9_performIfItCan cs ad raS raO zD zD)) (w1 := (ww_X9_performIfItCan cs ad raS raO Sv23 O)) (ws' := (ww_X9_drawAct cs ad raS raO raD Sv23 O Dv21)) (va_runV (As := [.ref (raO 0), .int (30 : Int32), .int v17, .int (v20 + (1 : Int32))]) (rest := []) ⟨hx, hb, hml, hown, hts⟩ (c_X9_performIfItCan l dC dI cs ad raS raO _ S O (30 : Int32) v17 (v20 + (1 : Int32)) Sv23 hq22) (cwV 4 hts gX9_drawAct_X9_performIfItCan rfl rfl rfl (by decide +kernel) ⟨Nat.le_of_ble_eq_true rfl, Nat.le_of_ble_eq_true rfl⟩) ⟨fun a U g mk q => ⟨q.1, (fun _ _ _ _ => cPw_bl) a U g mk q.2⟩, va_recv hK hP (ci := 10) (q0 := 0) rfl rfl, fun U hU hW => ⟨rfl, ⟨by rw [hU], by rw [hU]; exact (hP.sub (ws' := (ww_X9_performIfItCan cs ad raS raO S O)) [0, 1, 2, 3, 4, 5, 6, 7, 8, 9, 10, 11, 12] rfl), va_K.moved hW.alike hK, (hD.sub (ws' := (ww_X9_performIfItCan cs ad raS raO S O)) [0, 1, 2, 3, 4, 5, 6, 7, 8, 9, 10, 11, 12] (by decide) rfl).weaken (fun _ _ _ _ => trivial), kN_warm hW hN⟩⟩⟩ rfl rfl hl.1 rfl (lv_room (Nat.le_of_ble_eq_true rfl)) dX9_drawAct_85 ⟨Nat.le_refl _, Nat.le_refl _⟩) hP hD hS hA rfl rfl (wr := ((wX1 cs ad raD Dv21))) rfl rfl rfl (nw := 14) rfl (by decide +kernel) rfl (fun H locs hP hD hS => ?_)
        refine lv_goto (tgt := 129) hx hb dX9_drawAct_88 (by decide) ?_
        have hf := Option.some.inj hf
        subst hf
        exact c_vret hx hb hr hlocks hP hK hD hS dX9_drawAct_129
    · have hf := (if_pos hb29).symm.trans hf
      refine lv_aload_n hx hb dX9_drawAct_19 rfl (lv_at hl 3 rfl) ?_
      refine lv_aload_n hx hb dX9_drawAct_20 rfl (lv_at hl 2 rfl) ?_
      refine va_getN (D := (dC, dI)) (ci := 4) (C := RX3) (T := TX3) (N := 11) hx hb hts hinX3 hown hK hP 5 rfl rfl 1 (by decide) (v := .int (O.1 0 1)) (va_Nw.use rfl (hN _ (List.mem_of_getElem? (i := 13) rfl))) (fun _ h9 => h9) rfl dX9_drawAct_21 ?_
      obtain ⟨v26, Dv27, hq25, hf⟩ := bo2_e hf
      refine g_callw (isC := [13]) (isR := [0, 1, 2, 3, 4, 5, 6, 7, 8, 9, 10, 11, 12]) (wc := (ww_X1_draw cs ad raD Dv5)) (wz := (ww_X1_draw cs ad raD zD)) (w1 := (ww_X1_draw cs ad raD Dv27)) (ws' := (ww_X9_drawAct cs ad raS raO raD S O Dv27)) (v := v26) (va_runVN (As := [.int (O.1 0 1)]) (rest := []) ⟨hx, hb, hml, hown, hts⟩ (c_X1_draw l dC dI cs ad raD _ Dv5 (O.1 0 1) (v26, Dv27) hq25) ⟨va_cnB 1 hts gX9_drawAct_X1_draw_n132 rfl rfl rfl (hN _ (List.mem_of_getElem? (i := 119) rfl)) k_initialized_RX1 (by decide +kernel) ⟨Nat.le_of_ble_eq_true rfl, Nat.le_of_ble_eq_true rfl⟩, k_instanceMethod_yX1_draw, k_selects_RX1_yX1_draw_yX1_draw⟩ ⟨fun a U g mk q => ⟨q.1, (fun _ _ _ _ => cPw_bl) a U g mk q.2⟩, va_recv hK hP (ci := 2) (q0 := 13) rfl rfl, fun U hU hW => ⟨rfl, ⟨by rw [hU], by rw [hU]; exact (hP.sub (ws' := (ww_X1_draw cs ad raD Dv5)) [13] rfl), va_K.moved hW.alike hK, (hD.sub (ws' := (ww_X1_draw cs ad raD Dv5)) [13] (by decide) rfl).weaken (fun _ _ _ _ => trivial), kN_warm hW hN⟩⟩⟩ rfl rfl hl.1 rfl (lv_room (Nat.le_of_ble_eq_true rfl)) dX9_drawAct_24 ⟨Nat.le_refl _, Nat.le_refl _⟩) hP hD hS hA rfl rfl (wr := ((wX9 cs ad raS S) ++ ((wX3 cs ad raO O)))) rfl rfl rfl (nw := 14) rfl (by decide +kernel) rfl (fun H locs hP hD hS => ?_)
      refine lv_istore (nL := 5) (lv' := [(4, .int v26), (3, .int v4), (0, .ref (raS 0)), (1, .ref (raO 0)), (2, .ref (raD 0))]) hx hb dX9_drawAct_27 hl (by decide) rfl (fun ls hl => ?_)
      refine lv_aload_n hx hb dX9_drawAct_29 rfl (lv_at hl 2 rfl) ?_
      refine lv_aload_n hx hb dX9_drawAct_30 rfl (lv_at hl 3 rfl) ?_
      refine lv_aload_n hx hb dX9_drawAct_31 rfl (lv_at hl 2 rfl) ?_
      refine lv_iload hx hb dX9_drawAct_32 (lv_at hl 0 rfl) ?_
      refine ko_call (v := some (.int (f_X9_isHeld v26 S))) (va_runV (As := [.int v26]) (rest := [.ref (raO 0), .ref (raS 0)]) ⟨hx, hb, hml, hown, hts⟩ (c_X9_isHeld l dC dI cs ad raS S v26 _ rfl) (cwV 1 hts gX9_drawAct_X9_isHeld rfl rfl rfl (by decide +kernel) ⟨Nat.le_of_ble_eq_true rfl, Nat.le_of_ble_eq_true rfl⟩) ⟨fun a U g mk q => ⟨q.1, (fun _ _ _ _ => cPr_bl) a U g mk q.2⟩, va_recv hK hP (ci := 10) (q0 := 0) rfl rfl, fun U hU hW => ⟨rfl, ⟨by rw [hU]; exact (hP.sub (ws' := (ww_X9_isHeld cs ad raS S)) [0, 1, 2, 3, 4] rfl), va_K.moved hW.alike hK, kN_warm hW hN⟩⟩⟩ rfl rfl hl.1 rfl (lv_room (Nat.le_of_ble_eq_true rfl)) dX9_drawAct_34 ⟨Nat.le_refl _, Nat.le_refl _⟩) ?_
      refine lv_if_eq (tgt := 45) hx hb dX9_drawAct_37 (by decide) (fun hb28 => ?_) (fun hb28 => ?_)
      · have hf := (if_pos hb28).symm.trans hf
        refine lv_bipush (v := 10) hx hb dX9_drawAct_45 (by decide) ?_
        exact h_47 v26 (10 : Int32) S Dv27 ls _ _ (lv_sub hl [0] rfl) hP hD hS hf
      · have hf := (if_neg hb28).symm.trans hf
        refine lv_bipush (v := 20) hx hb dX9_drawAct_40 (by decide) ?_
        refine lv_goto (tgt := 47) hx hb dX9_drawAct_42 (by decide) ?_
        exact h_47 v26 (20 : Int32) S Dv27 ls _ _ (lv_sub hl [0] rfl) hP hD hS hf
  · have hf := (if_pos hb30).symm.trans hf
    have hf := Option.some.inj hf
    subst hf
    exact c_vret hx hb hr hlocks hP hK hD hS dX9_drawAct_7

def ww_X9_drawDays (cs : Nat → ClassId) (ad : Nat → Nat) (raS : Nat → Nat) (raO : Nat → Nat) (raD : Nat → Nat) (S : kD) (O : kD) (D : kD) : va_W := (wX9 cs ad raS S ++ (wX3 cs ad raO O ++ (wX1 cs ad raD D)))
abbrev rm_X9_drawDays : Room := { frames := 6, cells := 0, slots := 0, locals := 138 }
set_option maxHeartbeats 4000000 in
set_option maxRecDepth 100000 in
theorem c_X9_drawDays (l : Launch) (dC : Nat → ClassId) (dI : Nat → Nat → Nat) (cs : Nat → ClassId) (ad : Nat → Nat) (raS : Nat → Nat) (raO : Nat → Nat) (raD : Nat → Nat) (sz : Nat) (S : kD) (O : kD) (D : kD) (a2 : Int32) (r : kD × kD) (hf : f_X9_drawDays a2 S O D = some r) : Met l yX9_drawDays wsX9_drawDays rm_X9_drawDays (va_Pc [.ref (raS 0), .ref (raO 0), .ref (raD 0), .int a2] (cPw dC dI cs sz (ww_X9_drawDays cs ad raS raO raD S O D))) (cQv dC dI cs (va_A (ww_X9_drawDays cs ad raS raO raD zD zD zD) sz) (ww_X9_drawDays cs ad raS raO raD r.1 O r.2)) 0 0 (va_A (ww_X9_drawDays cs ad raS raO raD zD zD zD) sz) := by
  refine Met.ofW (cc := cX9_drawDays) (maxL := 5) (ret := none) (by decide) rfl ?_
  intro p e s m args below meth c s₁ B hml hv
  obtain ⟨hav, hsz, hP, hK, hD0, hN⟩ := hv
  have hx := B.exec
  have hb := B.bytes
  have hr := B.returns
  have hts := atoms_spec (ws := wsX9_drawDays) B.pre
  have hown : s.vm.findClass RX9 = some m.cls := findClass_of_methodNamed B.named
  have hlocks := B.notSynchronized
  subst hsz
  have hA : ∀ q, s.heap.size ≤ q → va_A (ww_X9_drawDays cs ad raS raO raD zD zD zD) s.heap.size q := fun q h => Or.inr h
  have hD : va_D (va_A (ww_X9_drawDays cs ad raS raO raD zD zD zD) s.heap.size) (ww_X9_drawDays cs ad raS raO raD S O D) := hD0.weaken (fun k q h _ => cA_in (ws := (ww_X9_drawDays cs ad raS raO raD S O D)) (ws' := (ww_X9_drawDays cs ad raS raO raD zD zD zD)) rfl h)
  have hS : va_S (va_A (ww_X9_drawDays cs ad raS raO raD zD zD zD) s.heap.size) s.heap s.heap [] := va_S.rf
  have hinX9 := (show ∀ w ∈ wsX90, w ∈ wsX9_drawDays from fun w h => List.mem_cons_of_mem _ (List.mem_append_left _ (List.mem_append_left _ (List.mem_append_right _ h))))
  have k_fieldLink_RX9_31__KeyLetters_State___day___I_ := hts (.fieldLink RX9 31 "KeyLetters$State" "day" "I") (List.mem_of_getElem? (i := 1) rfl)
  have hl := lv_entry ([.ref (raS 0), .ref (raO 0), .ref (raD 0), .int a2]) (n := 5) (Nat.le_of_ble_eq_true rfl)
  rw [show entryFrame m args 5 = entryFrame m ([.ref (raS 0), .ref (raO 0), .ref (raD 0), .int a2] : List Value).toArray 5 from by rw [hav], lg_entry_eq]
  generalize (lg_sl ([.ref (raS 0), .ref (raO 0), .ref (raD 0), .int a2]) ++ List.replicate (5 - (lg_sl ([.ref (raS 0), .ref (raO 0), .ref (raD 0), .int a2])).length) Slot.unset).toArray = ls at hl ⊢
  have hl : lv_has ls 5 [(0, .ref (raS 0)), (1, .ref (raO 0)), (2, .ref (raD 0)), (3, .int a2)] := hl
  unfold f_X9_drawDays at hf
  have h_3 := lp_ind (z := (fun _ _ _ _ => none)) (b := (g_X9_drawDays_3 O)) (fun (rc_3 : Int32 → Int32 → kD → kD → Option (kD × kD)) => ∀ (x3_3 : Int32) (x4_3 : Int32) (S_3 : kD) (D_3 : kD) (ls : Array Slot) (H : Heap) (locs : List Loc), lv_has ls 5 [(0, .ref (raS 0)), (1, .ref (raO 0)), (2, .ref (raD 0)), (3, .int x3_3), (4, .int x4_3)] → va_P (dC, dI) vwCl (ww_X9_drawDays cs ad raS raO raD S_3 O D_3) H → va_D (va_A (ww_X9_drawDays cs ad raS raO raD zD zD zD) s.heap.size) (ww_X9_drawDays cs ad raS raO raD S_3 O D_3) → va_S (va_A (ww_X9_drawDays cs ad raS raO raD zD zD zD) s.heap.size) s.heap H locs → rc_3 x3_3 x4_3 S_3 D_3 = some r → W p l e (headSpec wsX9_drawDays rm_X9_drawDays).room s m args below meth c H locs 0 0 (MQ below (cQv dC dI cs (va_A (ww_X9_drawDays cs ad raS raO raD zD zD zD) s.heap.size) (ww_X9_drawDays cs ad raS raO raD r.1 O r.2)) args s 0 0 (va_A (ww_X9_drawDays cs ad raS raO raD zD zD zD) s.heap.size)) (F0 m 3 ls [])) (by
      intro x3_3 x4_3 S_3 D_3 ls H locs hl hP hD hS hf
      cases hf) (by
      intro rc_3 ih_3 x3_3 x4_3 S_3 D_3 ls H locs hl hP hD hS hf
      unfold g_X9_drawDays_3 at hf
      refine lv_iload hx hb dX9_drawDays_3 (lv_at hl 4 rfl) ?_
      refine lv_iload_n hx hb dX9_drawDays_5 rfl (lv_at hl 3 rfl) ?_
      refine lv_icmp_ge (tgt := 37) hx hb dX9_drawDays_6 (by decide) (fun hb9 => ?_) (fun hb9 => ?_)
      · have hf := (if_pos hb9).symm.trans hf
        have hf := Option.some.inj hf
        subst hf
        exact c_vret hx hb hr hlocks hP hK hD hS dX9_drawDays_37
      · have hf := (if_neg hb9).symm.trans hf
        refine lv_aload_n hx hb dX9_drawDays_9 rfl (lv_at hl 0 rfl) ?_
        refine va_get (D := (dC, dI)) (ci := 10) (C := RX9) (T := TX9) (N := 9) hx hb hts hinX9 hown hK hP 0 rfl rfl 0 (by decide) (v := .int (S_3.1 0 0)) k_fieldLink_RX9_31__KeyLetters_State___day___I_ (fun _ h9 => h9) rfl dX9_drawDays_10 ?_
        refine lv_sipush (v := 400) hx hb dX9_drawDays_13 (by decide) ?_
        refine lv_icmp_ge (tgt := 37) hx hb dX9_drawDays_16 (by decide) (fun hb8 => ?_) (fun hb8 => ?_)
        · have hf := (if_pos hb8).symm.trans hf
          have hf := Option.some.inj hf
          subst hf
          exact c_vret hx hb hr hlocks hP hK hD hS dX9_drawDays_37
        · have hf := (if_neg hb8).symm.trans hf
          refine lv_aload_n hx hb dX9_drawDays_19 rfl (lv_at hl 0 rfl) ?_
          refine lv_aload_n hx hb dX9_drawDays_20 rfl (lv_at hl 1 rfl) ?_
          refine lv_aload_n hx hb dX9_drawDays_21 rfl (lv_at hl 2 rfl) ?_
          obtain ⟨Sv2, Dv3, hq1, hf⟩ := bo2_e hf
          refine g_callv (isC := [0, 1, 2, 3, 4, 5, 6, 7, 8, 9, 10, 11, 12, 13]) (isR := []) (wc := (ww_X9_drawAct cs ad raS raO raD S_3 O D_3)) (wz := (ww_X9_drawAct cs ad raS raO raD zD zD zD)) (w1 := (ww_X9_drawAct cs ad raS raO raD Sv2 O Dv3)) (ws' := (ww_X9_drawDays cs ad raS raO raD Sv2 O Dv3)) (va_runV (As := [.ref (raO 0), .ref (raD 0)]) (rest := []) ⟨hx, hb, hml, hown, hts⟩ (c_X9_drawAct l dC dI cs ad raS raO raD _ S_3 O D_3 (Sv2, Dv3) hq1) (cwV 2 hts gX9_drawDays_X9_drawAct rfl rfl rfl (by decide +kernel) ⟨Nat.le_of_ble_eq_true rfl, Nat.le_of_ble_eq_true rfl⟩) ⟨fun a U g mk q => ⟨q.1, (fun _ _ _ _ => cPw_bl) a U g mk q.2⟩, va_recv hK hP (ci := 10) (q0 := 0) rfl rfl, fun U hU hW => ⟨rfl, ⟨by rw [hU], by rw [hU]; exact (hP.sub (ws' := (ww_X9_drawAct cs ad raS raO raD S_3 O D_3)) [0, 1, 2, 3, 4, 5, 6, 7, 8, 9, 10, 11, 12, 13] rfl), va_K.moved hW.alike hK, (hD.sub (ws' := (ww_X9_drawAct cs ad raS raO raD S_3 O D_3)) [0, 1, 2, 3, 4, 5, 6, 7, 8, 9, 10, 11, 12, 13] (by decide) rfl).weaken (fun _ _ _ _ => trivial), kN_warm hW hN⟩⟩⟩ rfl rfl hl.1 rfl (lv_room (Nat.le_of_ble_eq_true rfl)) dX9_drawDays_22 ⟨Nat.le_refl _, Nat.le_refl _⟩) hP hD hS hA rfl rfl (wr := ([] : va_W)) rfl rfl rfl (nw := 14) rfl (by decide +kernel) rfl (fun H locs hP hD hS => ?_)
          refine lv_aload_n hx hb dX9_drawDays_25 rfl (lv_at hl 0 rfl) ?_
          refine lv_aload_n hx hb dX9_drawDays_26 rfl (lv_at hl 1 rfl) ?_
          obtain ⟨v5, Sv6, hq4, hf⟩ := bo2_e hf
          refine g_callw (isC := [0, 1, 2, 3, 4, 5, 6, 7, 8, 9, 10, 11, 12]) (isR := [13]) (wc := (ww_X9_passDay cs ad raS raO Sv2 O)) (wz := (ww_X9_passDay cs ad raS raO zD zD)) (w1 := (ww_X9_passDay cs ad raS raO Sv6 O)) (ws' := (ww_X9_drawDays cs ad raS raO raD Sv6 O Dv3)) (v := v5) (va_runV (As := [.ref (raO 0)]) (rest := []) ⟨hx, hb, hml, hown, hts⟩ (c_X9_passDay l dC dI cs ad raS raO _ Sv2 O (v5, Sv6) hq4) (cwV 1 hts gX9_drawDays_X9_passDay rfl rfl rfl (by decide +kernel) ⟨Nat.le_of_ble_eq_true rfl, Nat.le_of_ble_eq_true rfl⟩) ⟨fun a U g mk q => ⟨q.1, (fun _ _ _ _ => cPw_bl) a U g mk q.2⟩, va_recv hK hP (ci := 10) (q0 := 0) rfl rfl, fun U hU hW => ⟨rfl, ⟨by rw [hU], by rw [hU]; exact (hP.sub (ws' := (ww_X9_passDay cs ad raS raO Sv2 O)) [0, 1, 2, 3, 4, 5, 6, 7, 8, 9, 10, 11, 12] rfl), va_K.moved hW.alike hK, (hD.sub (ws' := (ww_X9_passDay cs ad raS raO Sv2 O)) [0, 1, 2, 3, 4, 5, 6, 7, 8, 9, 10, 11, 12] (by decide) rfl).weaken (fun _ _ _ _ => trivial), kN_warm hW hN⟩⟩⟩ rfl rfl hl.1 rfl (lv_room (Nat.le_of_ble_eq_true rfl)) dX9_drawDays_27 ⟨Nat.le_refl _, Nat.le_refl _⟩) hP hD hS hA rfl rfl (wr := ((wX1 cs ad raD Dv3))) rfl rfl rfl (nw := 14) rfl (by decide +kernel) rfl (fun H locs hP hD hS => ?_)
          refine lv_pop hx hb dX9_drawDays_30 rfl ?_
          obtain ⟨v7, ev7, hf⟩ := bd1_e hf
          refine lv_iinc (k := 4) (x := x4_3) (v := v7) (nL := 5) (lv' := [(4, .int v7), (0, .ref (raS 0)), (1, .ref (raO 0)), (2, .ref (raD 0)), (3, .int x3_3)]) hx hb dX9_drawDays_31 hl rfl (kt_inc (w := 1) (by decide) ev7) (by decide) rfl (fun ls hl => ?_)
          refine lv_goto (tgt := 3) hx hb dX9_drawDays_34 (by decide) ?_
          exact ih_3 x3_3 v7 Sv6 Dv3 ls _ _ (lv_sub hl [1, 2, 3, 4, 0] rfl) hP hD hS hf) 2000
  refine lv_iconst (v := 0) hx hb dX9_drawDays_0 (by decide) ?_
  refine lv_istore (nL := 5) (lv' := [(4, .int (0 : Int32)), (0, .ref (raS 0)), (1, .ref (raO 0)), (2, .ref (raD 0)), (3, .int a2)]) hx hb dX9_drawDays_1 hl (by decide) rfl (fun ls hl => ?_)
  exact h_3 a2 (0 : Int32) S D ls _ _ (lv_sub hl [1, 2, 3, 4, 0] rfl) hP hD hS hf

def ww_X11_appendBytes (cs : Nat → ClassId) (ad : Nat → Nat) (raK : Nat → Nat) (raT : Nat) (xK2 : Nat) (xK3 : Nat) (xK4 : Nat) (xK5 : Nat) (xK6 : Nat) (xK7 : Nat) (xK8 : Nat) (xK9 : Nat) (xK10 : Nat) (xK11 : Nat) (xK12 : Nat) (xK13 : Nat) (xK14 : Nat) (xK18 : Nat) (K : kD) (T : Nat → Int32) : va_W := (wX11 cs ad raK raT xK2 xK3 xK4 xK5 xK6 xK7 xK8 xK9 xK10 xK11 xK12 xK13 xK14 xK18 K ++ ([(raT, .inl (cs 1, 940, .inl T))]))
abbrev rm_X11_appendBytes : Room := { frames := 0, cells := 0, slots := 0, locals := 0 }
set_option maxHeartbeats 4000000 in
set_option maxRecDepth 100000 in
theorem c_X11_appendBytes (l : Launch) (dC : Nat → ClassId) (dI : Nat → Nat → Nat) (cs : Nat → ClassId) (ad : Nat → Nat) (raK : Nat → Nat) (raT : Nat) (xK2 : Nat) (xK3 : Nat) (xK4 : Nat) (xK5 : Nat) (xK6 : Nat) (xK7 : Nat) (xK8 : Nat) (xK9 : Nat) (xK10 : Nat) (xK11 : Nat) (xK12 : Nat) (xK13 : Nat) (xK14 : Nat) (xK18 : Nat) (sz : Nat) (K : kD) (T : Nat → Int32) (a0 : Int32) (r : kD × (Nat → Int32)) (hf : f_X11_appendBytes a0 K T = some r) : Met l yX11_appendBytes wsX11_appendBytes rm_X11_appendBytes (va_Pc [.ref (raK 0), .int a0] (cPw dC dI cs sz (ww_X11_appendBytes cs ad raK raT xK2 xK3 xK4 xK5 xK6 xK7 xK8 xK9 xK10 xK11 xK12 xK13 xK14 xK18 K T))) (cQv dC dI cs (va_A (ww_X11_appendBytes cs ad raK raT xK2 xK3 xK4 xK5 xK6 xK7 xK8 xK9 xK10 xK11 xK12 xK13 xK14 xK18 zD (fun _ => 0)) sz) (ww_X11_appendBytes cs ad raK raT xK2 xK3 xK4 xK5 xK6 xK7 xK8 xK9 xK10 xK11 xK12 xK13 xK14 xK18 r.1 r.2)) 0 0 (va_A (ww_X11_appendBytes cs ad raK raT xK2 xK3 xK4 xK5 xK6 xK7 xK8 xK9 xK10 xK11 xK12 xK13 xK14 xK18 zD (fun _ => 0)) sz) := by
  refine Met.ofW (cc := cX11_appendBytes) (maxL := 3) (ret := none) (by decide) rfl ?_
  intro p e s m args below meth c s₁ B hml hv
  obtain ⟨hav, hsz, hP, hK, hD0, hN⟩ := hv
  have hx := B.exec
  have hb := B.bytes
  have hr := B.returns
  have hts := atoms_spec (ws := wsX11_appendBytes) B.pre
  have hown : s.vm.findClass RX11 = some m.cls := findClass_of_methodNamed B.named
  have hlocks := B.notSynchronized
  subst hsz
  have hA : ∀ q, s.heap.size ≤ q → va_A (ww_X11_appendBytes cs ad raK raT xK2 xK3 xK4 xK5 xK6 xK7 xK8 xK9 xK10 xK11 xK12 xK13 xK14 xK18 zD (fun _ => 0)) s.heap.size q := fun q h => Or.inr h
  have hD : va_D (va_A (ww_X11_appendBytes cs ad raK raT xK2 xK3 xK4 xK5 xK6 xK7 xK8 xK9 xK10 xK11 xK12 xK13 xK14 xK18 zD (fun _ => 0)) s.heap.size) (ww_X11_appendBytes cs ad raK raT xK2 xK3 xK4 xK5 xK6 xK7 xK8 xK9 xK10 xK11 xK12 xK13 xK14 xK18 K T) := hD0.weaken (fun k q h _ => cA_in (ws := (ww_X11_appendBytes cs ad raK raT xK2 xK3 xK4 xK5 xK6 xK7 xK8 xK9 xK10 xK11 xK12 xK13 xK14 xK18 K T)) (ws' := (ww_X11_appendBytes cs ad raK raT xK2 xK3 xK4 xK5 xK6 xK7 xK8 xK9 xK10 xK11 xK12 xK13 xK14 xK18 zD (fun _ => 0))) rfl h)
  have hS : va_S (va_A (ww_X11_appendBytes cs ad raK raT xK2 xK3 xK4 xK5 xK6 xK7 xK8 xK9 xK10 xK11 xK12 xK13 xK14 xK18 zD (fun _ => 0)) s.heap.size) s.heap s.heap [] := va_S.rf
  have hinX11 := (show ∀ w ∈ wsX110, w ∈ wsX11_appendBytes from fun w h => List.mem_cons_of_mem _ (List.mem_append_right _ h))
  have k_fieldLink_RX11_105__KeyLetters___tapeBytes___I_ := hts (.fieldLink RX11 105 "KeyLetters" "tapeBytes" "I") (List.mem_of_getElem? (i := 1) rfl)
  have k_fieldLink_RX11_9__KeyLetters___tape____I_ := hts (.fieldLink RX11 9 "KeyLetters" "tape" "[I") (List.mem_of_getElem? (i := 2) rfl)
  have hl := lv_entry ([.ref (raK 0), .int a0]) (n := 3) (Nat.le_of_ble_eq_true rfl)
  rw [show entryFrame m args 3 = entryFrame m ([.ref (raK 0), .int a0] : List Value).toArray 3 from by rw [hav], lg_entry_eq]
  generalize (lg_sl ([.ref (raK 0), .int a0]) ++ List.replicate (3 - (lg_sl ([.ref (raK 0), .int a0])).length) Slot.unset).toArray = ls at hl ⊢
  have hl : lv_has ls 3 [(0, .ref (raK 0)), (1, .int a0)] := hl
  unfold f_X11_appendBytes at hf
  have h_3 := lp_ind (z := (fun _ _ _ _ => none)) (b := (g_X11_appendBytes_3)) (fun (rc_3 : Int32 → Int32 → kD → (Nat → Int32) → Option (kD × (Nat → Int32))) => ∀ (x1_3 : Int32) (x2_3 : Int32) (K_3 : kD) (T_3 : Nat → Int32) (ls : Array Slot) (H : Heap) (locs : List Loc), lv_has ls 3 [(0, .ref (raK 0)), (1, .int x1_3), (2, .int x2_3)] → va_P (dC, dI) vwCl (ww_X11_appendBytes cs ad raK raT xK2 xK3 xK4 xK5 xK6 xK7 xK8 xK9 xK10 xK11 xK12 xK13 xK14 xK18 K_3 T_3) H → va_D (va_A (ww_X11_appendBytes cs ad raK raT xK2 xK3 xK4 xK5 xK6 xK7 xK8 xK9 xK10 xK11 xK12 xK13 xK14 xK18 zD (fun _ => 0)) s.heap.size) (ww_X11_appendBytes cs ad raK raT xK2 xK3 xK4 xK5 xK6 xK7 xK8 xK9 xK10 xK11 xK12 xK13 xK14 xK18 K_3 T_3) → va_S (va_A (ww_X11_appendBytes cs ad raK raT xK2 xK3 xK4 xK5 xK6 xK7 xK8 xK9 xK10 xK11 xK12 xK13 xK14 xK18 zD (fun _ => 0)) s.heap.size) s.heap H locs → rc_3 x1_3 x2_3 K_3 T_3 = some r → W p l e (headSpec wsX11_appendBytes rm_X11_appendBytes).room s m args below meth c H locs 0 0 (MQ below (cQv dC dI cs (va_A (ww_X11_appendBytes cs ad raK raT xK2 xK3 xK4 xK5 xK6 xK7 xK8 xK9 xK10 xK11 xK12 xK13 xK14 xK18 zD (fun _ => 0)) s.heap.size) (ww_X11_appendBytes cs ad raK raT xK2 xK3 xK4 xK5 xK6 xK7 xK8 xK9 xK10 xK11 xK12 xK13 xK14 xK18 r.1 r.2)) args s 0 0 (va_A (ww_X11_appendBytes cs ad raK raT xK2 xK3 xK4 xK5 xK6 xK7 xK8 xK9 xK10 xK11 xK12 xK13 xK14 xK18 zD (fun _ => 0)) s.heap.size)) (F0 m 3 ls [])) (by
      intro x1_3 x2_3 K_3 T_3 ls H locs hl hP hD hS hf
      cases hf) (by
      intro rc_3 ih_3 x1_3 x2_3 K_3 T_3 ls H locs hl hP hD hS hf
      unfold g_X11_appendBytes_3 at hf
      refine lv_iload_n hx hb dX11_appendBytes_3 rfl (lv_at hl 2 rfl) ?_
      refine lv_if_lt (tgt := 49) hx hb dX11_appendBytes_4 (by decide) (fun hb6 => ?_) (fun hb6 => ?_)
      · have hf := (if_pos hb6).symm.trans hf
        have hf := Option.some.inj hf
        subst hf
        exact c_vret hx hb hr hlocks hP hK hD hS dX11_appendBytes_49
      · have hf := (if_neg hb6).symm.trans hf
        refine lv_aload_n hx hb dX11_appendBytes_7 rfl (lv_at hl 0 rfl) ?_
        refine va_get (D := (dC, dI)) (ci := 11) (C := RX11) (T := TX11) (N := 19) hx hb hts hinX11 hown hK hP 0 rfl rfl 1 (by decide) (v := .int (K_3.1 0 1)) k_fieldLink_RX11_105__KeyLetters___tapeBytes___I_ (fun _ h9 => h9) rfl dX11_appendBytes_8 ?_
        refine lv_sipush (v := 940) hx hb dX11_appendBytes_11 (by decide) ?_
        refine lv_icmp_ge (tgt := 49) hx hb dX11_appendBytes_14 (by decide) (fun hb5 => ?_) (fun hb5 => ?_)
        · have hf := (if_pos hb5).symm.trans hf
          have hf := Option.some.inj hf
          subst hf
          exact c_vret hx hb hr hlocks hP hK hD hS dX11_appendBytes_49
        · have hf := (if_neg hb5).symm.trans hf
          refine lv_aload_n hx hb dX11_appendBytes_17 rfl (lv_at hl 0 rfl) ?_
          refine va_get (D := (dC, dI)) (ci := 11) (C := RX11) (T := TX11) (N := 19) hx hb hts hinX11 hown hK hP 0 rfl rfl 0 (by decide) (v := .ref raT) k_fieldLink_RX11_9__KeyLetters___tape____I_ (fun _ h9 => h9) rfl dX11_appendBytes_18 ?_
          refine lv_aload_n hx hb dX11_appendBytes_21 rfl (lv_at hl 0 rfl) ?_
          refine va_get (D := (dC, dI)) (ci := 11) (C := RX11) (T := TX11) (N := 19) hx hb hts hinX11 hown hK hP 0 rfl rfl 1 (by decide) (v := .int (K_3.1 0 1)) k_fieldLink_RX11_105__KeyLetters___tapeBytes___I_ (fun _ h9 => h9) rfl dX11_appendBytes_22 ?_
          refine lv_iload_n hx hb dX11_appendBytes_25 rfl (lv_at hl 1 rfl) ?_
          refine lv_iload_n hx hb dX11_appendBytes_26 rfl (lv_at hl 2 rfl) ?_
          refine lv_iushr (v := (kUshr x1_3 x2_3)) hx hb dX11_appendBytes_27 rfl ?_
          refine lv_sipush (v := 255) hx hb dX11_appendBytes_28 (by decide) ?_
          refine lv_iand hx hb dX11_appendBytes_31 ?_
          obtain ⟨hc1, hf⟩ := ck_e hf
          obtain ⟨Tv2, eTv2, hf⟩ := bd1_e hf
          refine va_iast hx hb hK hP hD hS 1 1 rfl rfl hc1 dX11_appendBytes_32 (fun H locs hP hD hS => ?_)
          have hP : va_P (dC, dI) vwCl (ww_X11_appendBytes cs ad raK raT xK2 xK3 xK4 xK5 xK6 xK7 xK8 xK9 xK10 xK11 xK12 xK13 xK14 xK18 K_3 Tv2) H := g_toP (by rw [eTv2]; rfl) hP
          have hD : va_D (va_A (ww_X11_appendBytes cs ad raK raT xK2 xK3 xK4 xK5 xK6 xK7 xK8 xK9 xK10 xK11 xK12 xK13 xK14 xK18 zD (fun _ => 0)) s.heap.size) (ww_X11_appendBytes cs ad raK raT xK2 xK3 xK4 xK5 xK6 xK7 xK8 xK9 xK10 xK11 xK12 xK13 xK14 xK18 K_3 Tv2) := g_toD (by rw [eTv2]; rfl) hD
          refine lv_aload_n hx hb dX11_appendBytes_33 rfl (lv_at hl 0 rfl) ?_
          refine lv_dup hx hb dX11_appendBytes_34 rfl ?_
          refine va_get (D := (dC, dI)) (ci := 11) (C := RX11) (T := TX11) (N := 19) hx hb hts hinX11 hown hK hP 0 rfl rfl 1 (by decide) (v := .int (K_3.1 0 1)) k_fieldLink_RX11_105__KeyLetters___tapeBytes___I_ (fun _ h9 => h9) rfl dX11_appendBytes_35 ?_
          refine lv_iconst (v := 1) hx hb dX11_appendBytes_38 (by decide) ?_
          refine lv_iadd hx hb dX11_appendBytes_39 ?_
          obtain ⟨Kv3, eKv3, hf⟩ := bd1_e hf
          refine g_put (D := (dC, dI)) (ci := 11) (C := RX11) (T := TX11) (N := 19) hx hb hts hinX11 tyX11 tyX11_ok nmX11 hown hK hP hD hS 0 rfl rfl 1 (by decide) k_fieldLink_RX11_105__KeyLetters___tapeBytes___I_ (fun _ h9 => h9) rfl (ty := .int) (v := .int ((K_3.1 0 1) + (1 : Int32))) (by decide +kernel) rfl rfl (Nat.le_of_ble_eq_true rfl) (ws' := (ww_X11_appendBytes cs ad raK raT xK2 xK3 xK4 xK5 xK6 xK7 xK8 xK9 xK10 xK11 xK12 xK13 xK14 xK18 Kv3 Tv2)) (by rw [eKv3]; rfl) dX11_appendBytes_40 (fun H locs hP hD hS => ?_)
          obtain ⟨v4, ev4, hf⟩ := bd1_e hf
          refine lv_iinc (k := 2) (x := x2_3) (v := v4) (nL := 3) (lv' := [(2, .int v4), (0, .ref (raK 0)), (1, .int x1_3)]) hx hb dX11_appendBytes_43 hl rfl (kt_inc (w := (-8)) (by decide) ev4) (by decide) rfl (fun ls hl => ?_)
          refine lv_goto (tgt := 3) hx hb dX11_appendBytes_46 (by decide) ?_
          exact ih_3 x1_3 v4 Kv3 Tv2 ls _ _ (lv_sub hl [1, 2, 0] rfl) hP hD hS hf) 2000
  refine lv_bipush (v := 24) hx hb dX11_appendBytes_0 (by decide) ?_
  refine lv_istore_n (nL := 3) (lv' := [(2, .int (24 : Int32)), (0, .ref (raK 0)), (1, .int a0)]) hx hb dX11_appendBytes_2 rfl hl (by decide) rfl (fun ls hl => ?_)
  exact h_3 a0 (24 : Int32) K T ls _ _ (lv_sub hl [1, 2, 0] rfl) hP hD hS hf

def ww_X11_feed (cs : Nat → ClassId) (ad : Nat → Nat) (raK : Nat → Nat) (raT : Nat) (xK2 : Nat) (xK3 : Nat) (xK4 : Nat) (xK5 : Nat) (xK6 : Nat) (xK7 : Nat) (xK8 : Nat) (xK9 : Nat) (xK10 : Nat) (xK11 : Nat) (xK12 : Nat) (xK13 : Nat) (xK14 : Nat) (xK18 : Nat) (K : kD) (T : Nat → Int32) : va_W := (wX11 cs ad raK raT xK2 xK3 xK4 xK5 xK6 xK7 xK8 xK9 xK10 xK11 xK12 xK13 xK14 xK18 K ++ ([(raT, .inl (cs 1, 940, .inl T))]))
abbrev rm_X11_feed : Room := { frames := 1, cells := 0, slots := 0, locals := 22 }
set_option maxHeartbeats 4000000 in
set_option maxRecDepth 100000 in
theorem c_X11_feed (l : Launch) (dC : Nat → ClassId) (dI : Nat → Nat → Nat) (cs : Nat → ClassId) (ad : Nat → Nat) (raK : Nat → Nat) (raT : Nat) (xK2 : Nat) (xK3 : Nat) (xK4 : Nat) (xK5 : Nat) (xK6 : Nat) (xK7 : Nat) (xK8 : Nat) (xK9 : Nat) (xK10 : Nat) (xK11 : Nat) (xK12 : Nat) (xK13 : Nat) (xK14 : Nat) (xK18 : Nat) (sz : Nat) (K : kD) (T : Nat → Int32) (a0 : Int32) (a1 : Int32) (a2 : Int32) (a3 : Int32) (a4 : Int32) (r : Int32 × kD × (Nat → Int32)) (hf : f_X11_feed a0 a1 a2 a3 a4 K T = some r) : Met l yX11_feed wsX11_feed rm_X11_feed (va_Pc [.ref (raK 0), .int a0, .int a1, .int a2, .int a3, .int a4] (cPw dC dI cs sz (ww_X11_feed cs ad raK raT xK2 xK3 xK4 xK5 xK6 xK7 xK8 xK9 xK10 xK11 xK12 xK13 xK14 xK18 K T))) (cQi dC dI cs (va_A (ww_X11_feed cs ad raK raT xK2 xK3 xK4 xK5 xK6 xK7 xK8 xK9 xK10 xK11 xK12 xK13 xK14 xK18 zD (fun _ => 0)) sz) r.1 (ww_X11_feed cs ad raK raT xK2 xK3 xK4 xK5 xK6 xK7 xK8 xK9 xK10 xK11 xK12 xK13 xK14 xK18 r.2.1 r.2.2)) 0 0 (va_A (ww_X11_feed cs ad raK raT xK2 xK3 xK4 xK5 xK6 xK7 xK8 xK9 xK10 xK11 xK12 xK13 xK14 xK18 zD (fun _ => 0)) sz) := by
  refine Met.ofW (cc := cX11_feed) (maxL := 6) (ret := (some .int)) (by decide) rfl ?_
  intro p e s m args below meth c s₁ B hml hv
  obtain ⟨hav, hsz, hP, hK, hD0, hN⟩ := hv
  have hx := B.exec
  have hb := B.bytes
  have hr := B.returns
  have hts := atoms_spec (ws := wsX11_feed) B.pre
  have hown : s.vm.findClass RX11 = some m.cls := findClass_of_methodNamed B.named
  have hlocks := B.notSynchronized
  subst hsz
  have hA : ∀ q, s.heap.size ≤ q → va_A (ww_X11_feed cs ad raK raT xK2 xK3 xK4 xK5 xK6 xK7 xK8 xK9 xK10 xK11 xK12 xK13 xK14 xK18 zD (fun _ => 0)) s.heap.size q := fun q h => Or.inr h
  have hD : va_D (va_A (ww_X11_feed cs ad raK raT xK2 xK3 xK4 xK5 xK6 xK7 xK8 xK9 xK10 xK11 xK12 xK13 xK14 xK18 zD (fun _ => 0)) s.heap.size) (ww_X11_feed cs ad raK raT xK2 xK3 xK4 xK5 xK6 xK7 xK8 xK9 xK10 xK11 xK12 xK13 xK14 xK18 K T) := hD0.weaken (fun k q h _ => cA_in (ws := (ww_X11_feed cs ad raK raT xK2 xK3 xK4 xK5 xK6 xK7 xK8 xK9 xK10 xK11 xK12 xK13 xK14 xK18 K T)) (ws' := (ww_X11_feed cs ad raK raT xK2 xK3 xK4 xK5 xK6 xK7 xK8 xK9 xK10 xK11 xK12 xK13 xK14 xK18 zD (fun _ => 0))) rfl h)
  have hS : va_S (va_A (ww_X11_feed cs ad raK raT xK2 xK3 xK4 xK5 xK6 xK7 xK8 xK9 xK10 xK11 xK12 xK13 xK14 xK18 zD (fun _ => 0)) s.heap.size) s.heap s.heap [] := va_S.rf
  have hinX11 := (show ∀ w ∈ wsX110, w ∈ wsX11_feed from fun w h => List.mem_cons_of_mem _ (List.mem_append_right _ h))
  have k_fieldLink_RX11_105__KeyLetters___tapeBytes___I_ := hts (.fieldLink RX11 105 "KeyLetters" "tapeBytes" "I") (List.mem_of_getElem? (i := 1) rfl)
  have hl := lv_entry ([.ref (raK 0), .int a0, .int a1, .int a2, .int a3, .int a4]) (n := 6) (Nat.le_of_ble_eq_true rfl)
  rw [show entryFrame m args 6 = entryFrame m ([.ref (raK 0), .int a0, .int a1, .int a2, .int a3, .int a4] : List Value).toArray 6 from by rw [hav], lg_entry_eq]
  generalize (lg_sl ([.ref (raK 0), .int a0, .int a1, .int a2, .int a3, .int a4]) ++ List.replicate (6 - (lg_sl ([.ref (raK 0), .int a0, .int a1, .int a2, .int a3, .int a4])).length) Slot.unset).toArray = ls at hl ⊢
  have hl : lv_has ls 6 [(0, .ref (raK 0)), (1, .int a0), (2, .int a1), (3, .int a2), (4, .int a3), (5, .int a4)] := hl
  unfold f_X11_feed at hf
  refine lv_aload_n hx hb dX11_feed_0 rfl (lv_at hl 0 rfl) ?_
  refine va_get (D := (dC, dI)) (ci := 11) (C := RX11) (T := TX11) (N := 19) hx hb hts hinX11 hown hK hP 0 rfl rfl 1 (by decide) (v := .int (K.1 0 1)) k_fieldLink_RX11_105__KeyLetters___tapeBytes___I_ (fun _ h9 => h9) rfl dX11_feed_1 ?_
  refine lv_bipush (v := 20) hx hb dX11_feed_4 (by decide) ?_
  refine lv_iadd hx hb dX11_feed_6 ?_
  refine lv_sipush (v := 940) hx hb dX11_feed_7 (by decide) ?_
  refine lv_icmp_le (tgt := 15) hx hb dX11_feed_10 (by decide) (fun hb16 => ?_) (fun hb16 => ?_)
  · have hf := (if_pos hb16).symm.trans hf
    refine lv_aload_n hx hb dX11_feed_15 rfl (lv_at hl 0 rfl) ?_
    refine lv_iload_n hx hb dX11_feed_16 rfl (lv_at hl 1 rfl) ?_
    obtain ⟨Kv2, Tv3, hq1, hf⟩ := bo2_e hf
    refine g_callv (isC := [0, 1]) (isR := []) (wc := (ww_X11_appendBytes cs ad raK raT xK2 xK3 xK4 xK5 xK6 xK7 xK8 xK9 xK10 xK11 xK12 xK13 xK14 xK18 K T)) (wz := (ww_X11_appendBytes cs ad raK raT xK2 xK3 xK4 xK5 xK6 xK7 xK8 xK9 xK10 xK11 xK12 xK13 xK14 xK18 zD (fun _ => 0))) (w1 := (ww_X11_appendBytes cs ad raK raT xK2 xK3 xK4 xK5 xK6 xK7 xK8 xK9 xK10 xK11 xK12 xK13 xK14 xK18 Kv2 Tv3)) (ws' := (ww_X11_feed cs ad raK raT xK2 xK3 xK4 xK5 xK6 xK7 xK8 xK9 xK10 xK11 xK12 xK13 xK14 xK18 Kv2 Tv3)) (va_runV (As := [.int a0]) (rest := []) ⟨hx, hb, hml, hown, hts⟩ (c_X11_appendBytes l dC dI cs ad raK raT xK2 xK3 xK4 xK5 xK6 xK7 xK8 xK9 xK10 xK11 xK12 xK13 xK14 xK18 _ K T a0 (Kv2, Tv3) hq1) (cwV 1 hts gX11_feed_X11_appendBytes rfl rfl rfl (by decide +kernel) ⟨Nat.le_of_ble_eq_true rfl, Nat.le_of_ble_eq_true rfl⟩) ⟨fun a U g mk q => ⟨q.1, (fun _ _ _ _ => cPw_bl) a U g mk q.2⟩, va_recv hK hP (ci := 11) (q0 := 0) rfl rfl, fun U hU hW => ⟨rfl, ⟨by rw [hU], by rw [hU]; exact (hP.sub (ws' := (ww_X11_appendBytes cs ad raK raT xK2 xK3 xK4 xK5 xK6 xK7 xK8 xK9 xK10 xK11 xK12 xK13 xK14 xK18 K T)) [0, 1] rfl), va_K.moved hW.alike hK, (hD.sub (ws' := (ww_X11_appendBytes cs ad raK raT xK2 xK3 xK4 xK5 xK6 xK7 xK8 xK9 xK10 xK11 xK12 xK13 xK14 xK18 K T)) [0, 1] (by decide) rfl).weaken (fun _ _ _ _ => trivial), kN_warm hW hN⟩⟩⟩ rfl rfl hl.1 rfl (lv_room (Nat.le_of_ble_eq_true rfl)) dX11_feed_17 ⟨Nat.le_refl _, Nat.le_refl _⟩) hP hD hS hA rfl rfl (wr := ([] : va_W)) rfl rfl rfl (nw := 2) rfl (by decide +kernel) rfl (fun H locs hP hD hS => ?_)
    refine lv_aload_n hx hb dX11_feed_20 rfl (lv_at hl 0 rfl) ?_
    refine lv_iload_n hx hb dX11_feed_21 rfl (lv_at hl 2 rfl) ?_
    obtain ⟨Kv5, Tv6, hq4, hf⟩ := bo2_e hf
    refine g_callv (isC := [0, 1]) (isR := []) (wc := (ww_X11_appendBytes cs ad raK raT xK2 xK3 xK4 xK5 xK6 xK7 xK8 xK9 xK10 xK11 xK12 xK13 xK14 xK18 Kv2 Tv3)) (wz := (ww_X11_appendBytes cs ad raK raT xK2 xK3 xK4 xK5 xK6 xK7 xK8 xK9 xK10 xK11 xK12 xK13 xK14 xK18 zD (fun _ => 0))) (w1 := (ww_X11_appendBytes cs ad raK raT xK2 xK3 xK4 xK5 xK6 xK7 xK8 xK9 xK10 xK11 xK12 xK13 xK14 xK18 Kv5 Tv6)) (ws' := (ww_X11_feed cs ad raK raT xK2 xK3 xK4 xK5 xK6 xK7 xK8 xK9 xK10 xK11 xK12 xK13 xK14 xK18 Kv5 Tv6)) (va_runV (As := [.int a1]) (rest := []) ⟨hx, hb, hml, hown, hts⟩ (c_X11_appendBytes l dC dI cs ad raK raT xK2 xK3 xK4 xK5 xK6 xK7 xK8 xK9 xK10 xK11 xK12 xK13 xK14 xK18 _ Kv2 Tv3 a1 (Kv5, Tv6) hq4) (cwV 1 hts gX11_feed_X11_appendBytes rfl rfl rfl (by decide +kernel) ⟨Nat.le_of_ble_eq_true rfl, Nat.le_of_ble_eq_true rfl⟩) ⟨fun a U g mk q => ⟨q.1, (fun _ _ _ _ => cPw_bl) a U g mk q.2⟩, va_recv hK hP (ci := 11) (q0 := 0) rfl rfl, fun U hU hW => ⟨rfl, ⟨by rw [hU], by rw [hU]; exact (hP.sub (ws' := (ww_X11_appendBytes cs ad raK raT xK2 xK3 xK4 xK5 xK6 xK7 xK8 xK9 xK10 xK11 xK12 xK13 xK14 xK18 Kv2 Tv3)) [0, 1] rfl), va_K.moved hW.alike hK, (hD.sub (ws' := (ww_X11_appendBytes cs ad raK raT xK2 xK3 xK4 xK5 xK6 xK7 xK8 xK9 xK10 xK11 xK12 xK13 xK14 xK18 Kv2 Tv3)) [0, 1] (by decide) rfl).weaken (fun _ _ _ _ => trivial), kN_warm hW hN⟩⟩⟩ rfl rfl hl.1 rfl (lv_room (Nat.le_of_ble_eq_true rfl)) dX11_feed_22 ⟨Nat.le_refl _, Nat.le_refl _⟩) hP hD hS hA rfl rfl (wr := ([] : va_W)) rfl rfl rfl (nw := 2) rfl (by decide +kernel) rfl (fun H locs hP hD hS => ?_)
    refine lv_aload_n hx hb dX11_feed_25 rfl (lv_at hl 0 rfl) ?_
    refine lv_iload_n hx hb dX11_feed_26 rfl (lv_at hl 3 rfl) ?_
    obtain ⟨Kv8, Tv9, hq7, hf⟩ := bo2_e hf
    refine g_callv (isC := [0, 1]) (isR := []) (wc := (ww_X11_appendBytes cs ad raK raT xK2 xK3 xK4 xK5 xK6 xK7 xK8 xK9 xK10 xK11 xK12 xK13 xK14 xK18 Kv5 Tv6)) (wz := (ww_X11_appendBytes cs ad raK raT xK2 xK3 xK4 xK5 xK6 xK7 xK8 xK9 xK10 xK11 xK12 xK13 xK14 xK18 zD (fun _ => 0))) (w1 := (ww_X11_appendBytes cs ad raK raT xK2 xK3 xK4 xK5 xK6 xK7 xK8 xK9 xK10 xK11 xK12 xK13 xK14 xK18 Kv8 Tv9)) (ws' := (ww_X11_feed cs ad raK raT xK2 xK3 xK4 xK5 xK6 xK7 xK8 xK9 xK10 xK11 xK12 xK13 xK14 xK18 Kv8 Tv9)) (va_runV (As := [.int a2]) (rest := []) ⟨hx, hb, hml, hown, hts⟩ (c_X11_appendBytes l dC dI cs ad raK raT xK2 xK3 xK4 xK5 xK6 xK7 xK8 xK9 xK10 xK11 xK12 xK13 xK14 xK18 _ Kv5 Tv6 a2 (Kv8, Tv9) hq7) (cwV 1 hts gX11_feed_X11_appendBytes rfl rfl rfl (by decide +kernel) ⟨Nat.le_of_ble_eq_true rfl, Nat.le_of_ble_eq_true rfl⟩) ⟨fun a U g mk q => ⟨q.1, (fun _ _ _ _ => cPw_bl) a U g mk q.2⟩, va_recv hK hP (ci := 11) (q0 := 0) rfl rfl, fun U hU hW => ⟨rfl, ⟨by rw [hU], by rw [hU]; exact (hP.sub (ws' := (ww_X11_appendBytes cs ad raK raT xK2 xK3 xK4 xK5 xK6 xK7 xK8 xK9 xK10 xK11 xK12 xK13 xK14 xK18 Kv5 Tv6)) [0, 1] rfl), va_K.moved hW.alike hK, (hD.sub (ws' := (ww_X11_appendBytes cs ad raK raT xK2 xK3 xK4 xK5 xK6 xK7 xK8 xK9 xK10 xK11 xK12 xK13 xK14 xK18 Kv5 Tv6)) [0, 1] (by decide) rfl).weaken (fun _ _ _ _ => trivial), kN_warm hW hN⟩⟩⟩ rfl rfl hl.1 rfl (lv_room (Nat.le_of_ble_eq_true rfl)) dX11_feed_27 ⟨Nat.le_refl _, Nat.le_refl _⟩) hP hD hS hA rfl rfl (wr := ([] : va_W)) rfl rfl rfl (nw := 2) rfl (by decide +kernel) rfl (fun H locs hP hD hS => ?_)
    refine lv_aload_n hx hb dX11_feed_30 rfl (lv_at hl 0 rfl) ?_
    refine lv_iload hx hb dX11_feed_31 (lv_at hl 4 rfl) ?_
    obtain ⟨Kv11, Tv12, hq10, hf⟩ := bo2_e hf
    refine g_callv (isC := [0, 1]) (isR := []) (wc := (ww_X11_appendBytes cs ad raK raT xK2 xK3 xK4 xK5 xK6 xK7 xK8 xK9 xK10 xK11 xK12 xK13 xK14 xK18 Kv8 Tv9)) (wz := (ww_X11_appendBytes cs ad raK raT xK2 xK3 xK4 xK5 xK6 xK7 xK8 xK9 xK10 xK11 xK12 xK13 xK14 xK18 zD (fun _ => 0))) (w1 := (ww_X11_appendBytes cs ad raK raT xK2 xK3 xK4 xK5 xK6 xK7 xK8 xK9 xK10 xK11 xK12 xK13 xK14 xK18 Kv11 Tv12)) (ws' := (ww_X11_feed cs ad raK raT xK2 xK3 xK4 xK5 xK6 xK7 xK8 xK9 xK10 xK11 xK12 xK13 xK14 xK18 Kv11 Tv12)) (va_runV (As := [.int a3]) (rest := []) ⟨hx, hb, hml, hown, hts⟩ (c_X11_appendBytes l dC dI cs ad raK raT xK2 xK3 xK4 xK5 xK6 xK7 xK8 xK9 xK10 xK11 xK12 xK13 xK14 xK18 _ Kv8 Tv9 a3 (Kv11, Tv12) hq10) (cwV 1 hts gX11_feed_X11_appendBytes rfl rfl rfl (by decide +kernel) ⟨Nat.le_of_ble_eq_true rfl, Nat.le_of_ble_eq_true rfl⟩) ⟨fun a U g mk q => ⟨q.1, (fun _ _ _ _ => cPw_bl) a U g mk q.2⟩, va_recv hK hP (ci := 11) (q0 := 0) rfl rfl, fun U hU hW => ⟨rfl, ⟨by rw [hU], by rw [hU]; exact (hP.sub (ws' := (ww_X11_appendBytes cs ad raK raT xK2 xK3 xK4 xK5 xK6 xK7 xK8 xK9 xK10 xK11 xK12 xK13 xK14 xK18 Kv8 Tv9)) [0, 1] rfl), va_K.moved hW.alike hK, (hD.sub (ws' := (ww_X11_appendBytes cs ad raK raT xK2 xK3 xK4 xK5 xK6 xK7 xK8 xK9 xK10 xK11 xK12 xK13 xK14 xK18 Kv8 Tv9)) [0, 1] (by decide) rfl).weaken (fun _ _ _ _ => trivial), kN_warm hW hN⟩⟩⟩ rfl rfl hl.1 rfl (lv_room (Nat.le_of_ble_eq_true rfl)) dX11_feed_33 ⟨Nat.le_refl _, Nat.le_refl _⟩) hP hD hS hA rfl rfl (wr := ([] : va_W)) rfl rfl rfl (nw := 2) rfl (by decide +kernel) rfl (fun H locs hP hD hS => ?_)
    refine lv_aload_n hx hb dX11_feed_36 rfl (lv_at hl 0 rfl) ?_
    refine lv_iload hx hb dX11_feed_37 (lv_at hl 5 rfl) ?_
    obtain ⟨Kv14, Tv15, hq13, hf⟩ := bo2_e hf
    refine g_callv (isC := [0, 1]) (isR := []) (wc := (ww_X11_appendBytes cs ad raK raT xK2 xK3 xK4 xK5 xK6 xK7 xK8 xK9 xK10 xK11 xK12 xK13 xK14 xK18 Kv11 Tv12)) (wz := (ww_X11_appendBytes cs ad raK raT xK2 xK3 xK4 xK5 xK6 xK7 xK8 xK9 xK10 xK11 xK12 xK13 xK14 xK18 zD (fun _ => 0))) (w1 := (ww_X11_appendBytes cs ad raK raT xK2 xK3 xK4 xK5 xK6 xK7 xK8 xK9 xK10 xK11 xK12 xK13 xK14 xK18 Kv14 Tv15)) (ws' := (ww_X11_feed cs ad raK raT xK2 xK3 xK4 xK5 xK6 xK7 xK8 xK9 xK10 xK11 xK12 xK13 xK14 xK18 Kv14 Tv15)) (va_runV (As := [.int a4]) (rest := []) ⟨hx, hb, hml, hown, hts⟩ (c_X11_appendBytes l dC dI cs ad raK raT xK2 xK3 xK4 xK5 xK6 xK7 xK8 xK9 xK10 xK11 xK12 xK13 xK14 xK18 _ Kv11 Tv12 a4 (Kv14, Tv15) hq13) (cwV 1 hts gX11_feed_X11_appendBytes rfl rfl rfl (by decide +kernel) ⟨Nat.le_of_ble_eq_true rfl, Nat.le_of_ble_eq_true rfl⟩) ⟨fun a U g mk q => ⟨q.1, (fun _ _ _ _ => cPw_bl) a U g mk q.2⟩, va_recv hK hP (ci := 11) (q0 := 0) rfl rfl, fun U hU hW => ⟨rfl, ⟨by rw [hU], by rw [hU]; exact (hP.sub (ws' := (ww_X11_appendBytes cs ad raK raT xK2 xK3 xK4 xK5 xK6 xK7 xK8 xK9 xK10 xK11 xK12 xK13 xK14 xK18 Kv11 Tv12)) [0, 1] rfl), va_K.moved hW.alike hK, (hD.sub (ws' := (ww_X11_appendBytes cs ad raK raT xK2 xK3 xK4 xK5 xK6 xK7 xK8 xK9 xK10 xK11 xK12 xK13 xK14 xK18 Kv11 Tv12)) [0, 1] (by decide) rfl).weaken (fun _ _ _ _ => trivial), kN_warm hW hN⟩⟩⟩ rfl rfl hl.1 rfl (lv_room (Nat.le_of_ble_eq_true rfl)) dX11_feed_39 ⟨Nat.le_refl _, Nat.le_refl _⟩) hP hD hS hA rfl rfl (wr := ([] : va_W)) rfl rfl rfl (nw := 2) rfl (by decide +kernel) rfl (fun H locs hP hD hS => ?_)
    refine lv_aload_n hx hb dX11_feed_42 rfl (lv_at hl 0 rfl) ?_
    refine va_get (D := (dC, dI)) (ci := 11) (C := RX11) (T := TX11) (N := 19) hx hb hts hinX11 hown hK hP 0 rfl rfl 1 (by decide) (v := .int (Kv14.1 0 1)) k_fieldLink_RX11_105__KeyLetters___tapeBytes___I_ (fun _ h9 => h9) rfl dX11_feed_43 ?_
    have hf := Option.some.inj hf
    subst hf
    exact c_iret (v := (Kv14.1 0 1)) hx hb hr hlocks hP hK hD hS dX11_feed_46
  · have hf := (if_neg hb16).symm.trans hf
    refine lv_iconst (v := -1) hx hb dX11_feed_13 (by decide) ?_
    have hf := Option.some.inj hf
    subst hf
    exact c_iret (v := (-1 : Int32)) hx hb hr hlocks hP hK hD hS dX11_feed_14

def ww_X11_end (cs : Nat → ClassId) (ad : Nat → Nat) (raK : Nat → Nat) (xK0 : Nat) (xK2 : Nat) (xK3 : Nat) (xK4 : Nat) (xK5 : Nat) (xK6 : Nat) (xK7 : Nat) (xK8 : Nat) (xK9 : Nat) (xK10 : Nat) (xK11 : Nat) (xK12 : Nat) (xK13 : Nat) (xK14 : Nat) (xK18 : Nat) (K : kD) : va_W := (wX11 cs ad raK xK0 xK2 xK3 xK4 xK5 xK6 xK7 xK8 xK9 xK10 xK11 xK12 xK13 xK14 xK18 K)
abbrev rm_X11_end : Room := { frames := 0, cells := 0, slots := 0, locals := 0 }
set_option maxHeartbeats 4000000 in
set_option maxRecDepth 100000 in
theorem c_X11_end (l : Launch) (dC : Nat → ClassId) (dI : Nat → Nat → Nat) (cs : Nat → ClassId) (ad : Nat → Nat) (raK : Nat → Nat) (xK0 : Nat) (xK2 : Nat) (xK3 : Nat) (xK4 : Nat) (xK5 : Nat) (xK6 : Nat) (xK7 : Nat) (xK8 : Nat) (xK9 : Nat) (xK10 : Nat) (xK11 : Nat) (xK12 : Nat) (xK13 : Nat) (xK14 : Nat) (xK18 : Nat) (sz : Nat) (K : kD) (a0 : Int32) (r : Int32 × kD) (hf : f_X11_end a0 K = some r) : Met l yX11_end wsX11_end rm_X11_end (va_Pc [.ref (raK 0), .int a0] (cPw dC dI cs sz (ww_X11_end cs ad raK xK0 xK2 xK3 xK4 xK5 xK6 xK7 xK8 xK9 xK10 xK11 xK12 xK13 xK14 xK18 K))) (cQi dC dI cs (va_A (ww_X11_end cs ad raK xK0 xK2 xK3 xK4 xK5 xK6 xK7 xK8 xK9 xK10 xK11 xK12 xK13 xK14 xK18 zD) sz) r.1 (ww_X11_end cs ad raK xK0 xK2 xK3 xK4 xK5 xK6 xK7 xK8 xK9 xK10 xK11 xK12 xK13 xK14 xK18 r.2)) 0 0 (va_A (ww_X11_end cs ad raK xK0 xK2 xK3 xK4 xK5 xK6 xK7 xK8 xK9 xK10 xK11 xK12 xK13 xK14 xK18 zD) sz) := by
  refine Met.ofW (cc := cX11_end) (maxL := 2) (ret := (some .boolean)) (by decide) rfl ?_
  intro p e s m args below meth c s₁ B hml hv
  obtain ⟨hav, hsz, hP, hK, hD0, hN⟩ := hv
  have hx := B.exec
  have hb := B.bytes
  have hr := B.returns
  have hts := atoms_spec (ws := wsX11_end) B.pre
  have hown : s.vm.findClass RX11 = some m.cls := findClass_of_methodNamed B.named
  have hlocks := B.notSynchronized
  subst hsz
  have hA : ∀ q, s.heap.size ≤ q → va_A (ww_X11_end cs ad raK xK0 xK2 xK3 xK4 xK5 xK6 xK7 xK8 xK9 xK10 xK11 xK12 xK13 xK14 xK18 zD) s.heap.size q := fun q h => Or.inr h
  have hD : va_D (va_A (ww_X11_end cs ad raK xK0 xK2 xK3 xK4 xK5 xK6 xK7 xK8 xK9 xK10 xK11 xK12 xK13 xK14 xK18 zD) s.heap.size) (ww_X11_end cs ad raK xK0 xK2 xK3 xK4 xK5 xK6 xK7 xK8 xK9 xK10 xK11 xK12 xK13 xK14 xK18 K) := hD0.weaken (fun k q h _ => cA_in (ws := (ww_X11_end cs ad raK xK0 xK2 xK3 xK4 xK5 xK6 xK7 xK8 xK9 xK10 xK11 xK12 xK13 xK14 xK18 K)) (ws' := (ww_X11_end cs ad raK xK0 xK2 xK3 xK4 xK5 xK6 xK7 xK8 xK9 xK10 xK11 xK12 xK13 xK14 xK18 zD)) rfl h)
  have hS : va_S (va_A (ww_X11_end cs ad raK xK0 xK2 xK3 xK4 xK5 xK6 xK7 xK8 xK9 xK10 xK11 xK12 xK13 xK14 xK18 zD) s.heap.size) s.heap s.heap [] := va_S.rf
  have hinX11 := (show ∀ w ∈ wsX110, w ∈ wsX11_end from fun w h => List.mem_cons_of_mem _ (List.mem_append_right _ h))
  have k_fieldLink_RX11_105__KeyLetters___tapeBytes___I_ := hts (.fieldLink RX11 105 "KeyLetters" "tapeBytes" "I") (List.mem_of_getElem? (i := 1) rfl)
  have hl := lv_entry ([.ref (raK 0), .int a0]) (n := 2) (Nat.le_of_ble_eq_true rfl)
  rw [show entryFrame m args 2 = entryFrame m ([.ref (raK 0), .int a0] : List Value).toArray 2 from by rw [hav], lg_entry_eq]
  generalize (lg_sl ([.ref (raK 0), .int a0]) ++ List.replicate (2 - (lg_sl ([.ref (raK 0), .int a0])).length) Slot.unset).toArray = ls at hl ⊢
  have hl : lv_has ls 2 [(0, .ref (raK 0)), (1, .int a0)] := hl
  unfold f_X11_end at hf
  refine lv_iload_n hx hb dX11_end_0 rfl (lv_at hl 1 rfl) ?_
  refine lv_if_lt (tgt := 12) hx hb dX11_end_1 (by decide) (fun hb3 => ?_) (fun hb3 => ?_)
  · have hf := (if_pos hb3).symm.trans hf
    refine lv_iconst (v := 0) hx hb dX11_end_12 (by decide) ?_
    have hf := Option.some.inj hf
    subst hf
    exact c_zret (v := (0 : Int32)) hx hb hr rfl hlocks hP hK hD hS dX11_end_13
  · have hf := (if_neg hb3).symm.trans hf
    refine lv_iload_n hx hb dX11_end_4 rfl (lv_at hl 1 rfl) ?_
    refine lv_aload_n hx hb dX11_end_5 rfl (lv_at hl 0 rfl) ?_
    refine va_get (D := (dC, dI)) (ci := 11) (C := RX11) (T := TX11) (N := 19) hx hb hts hinX11 hown hK hP 0 rfl rfl 1 (by decide) (v := .int (K.1 0 1)) k_fieldLink_RX11_105__KeyLetters___tapeBytes___I_ (fun _ h9 => h9) rfl dX11_end_6 ?_
    refine lv_icmp_le (tgt := 14) hx hb dX11_end_9 (by decide) (fun hb2 => ?_) (fun hb2 => ?_)
    · have hf := (if_pos hb2).symm.trans hf
      refine lv_aload_n hx hb dX11_end_14 rfl (lv_at hl 0 rfl) ?_
      refine lv_iload_n hx hb dX11_end_15 rfl (lv_at hl 1 rfl) ?_
      obtain ⟨Kv1, eKv1, hf⟩ := bd1_e hf
      refine g_put (D := (dC, dI)) (ci := 11) (C := RX11) (T := TX11) (N := 19) hx hb hts hinX11 tyX11 tyX11_ok nmX11 hown hK hP hD hS 0 rfl rfl 1 (by decide) k_fieldLink_RX11_105__KeyLetters___tapeBytes___I_ (fun _ h9 => h9) rfl (ty := .int) (v := .int a0) (by decide +kernel) rfl rfl (Nat.le_of_ble_eq_true rfl) (ws' := (ww_X11_end cs ad raK xK0 xK2 xK3 xK4 xK5 xK6 xK7 xK8 xK9 xK10 xK11 xK12 xK13 xK14 xK18 Kv1)) (by rw [eKv1]; rfl) dX11_end_16 (fun H locs hP hD hS => ?_)
      refine lv_iconst (v := 1) hx hb dX11_end_19 (by decide) ?_
      have hf := Option.some.inj hf
      subst hf
      exact c_zret (v := (1 : Int32)) hx hb hr rfl hlocks hP hK hD hS dX11_end_20
    · have hf := (if_neg hb2).symm.trans hf
      refine lv_iconst (v := 0) hx hb dX11_end_12 (by decide) ?_
      have hf := Option.some.inj hf
      subst hf
      exact c_zret (v := (0 : Int32)) hx hb hr rfl hlocks hP hK hD hS dX11_end_13

def ww_X11_takeTape (cs : Nat → ClassId) (ad : Nat → Nat) (raK : Nat → Nat) (xK0 : Nat) (xK2 : Nat) (xK3 : Nat) (xK4 : Nat) (xK5 : Nat) (xK6 : Nat) (xK7 : Nat) (xK8 : Nat) (xK9 : Nat) (xK10 : Nat) (xK11 : Nat) (xK12 : Nat) (xK13 : Nat) (xK14 : Nat) (xK18 : Nat) (K : kD) : va_W := (wX11 cs ad raK xK0 xK2 xK3 xK4 xK5 xK6 xK7 xK8 xK9 xK10 xK11 xK12 xK13 xK14 xK18 K)
abbrev rm_X11_takeTape : Room := { frames := 0, cells := 0, slots := 0, locals := 0 }
set_option maxHeartbeats 4000000 in
set_option maxRecDepth 100000 in
theorem c_X11_takeTape (l : Launch) (dC : Nat → ClassId) (dI : Nat → Nat → Nat) (cs : Nat → ClassId) (ad : Nat → Nat) (raK : Nat → Nat) (xK0 : Nat) (xK2 : Nat) (xK3 : Nat) (xK4 : Nat) (xK5 : Nat) (xK6 : Nat) (xK7 : Nat) (xK8 : Nat) (xK9 : Nat) (xK10 : Nat) (xK11 : Nat) (xK12 : Nat) (xK13 : Nat) (xK14 : Nat) (xK18 : Nat) (sz : Nat) (K : kD) (r : Int32 × kD) (hf : f_X11_takeTape K = some r) : Met l yX11_takeTape wsX11_takeTape rm_X11_takeTape (va_Pc [.ref (raK 0)] (cPw dC dI cs sz (ww_X11_takeTape cs ad raK xK0 xK2 xK3 xK4 xK5 xK6 xK7 xK8 xK9 xK10 xK11 xK12 xK13 xK14 xK18 K))) (cQi dC dI cs (va_A (ww_X11_takeTape cs ad raK xK0 xK2 xK3 xK4 xK5 xK6 xK7 xK8 xK9 xK10 xK11 xK12 xK13 xK14 xK18 zD) sz) r.1 (ww_X11_takeTape cs ad raK xK0 xK2 xK3 xK4 xK5 xK6 xK7 xK8 xK9 xK10 xK11 xK12 xK13 xK14 xK18 r.2)) 0 0 (va_A (ww_X11_takeTape cs ad raK xK0 xK2 xK3 xK4 xK5 xK6 xK7 xK8 xK9 xK10 xK11 xK12 xK13 xK14 xK18 zD) sz) := by
  refine Met.ofW (cc := cX11_takeTape) (maxL := 2) (ret := (some .int)) (by decide) rfl ?_
  intro p e s m args below meth c s₁ B hml hv
  obtain ⟨hav, hsz, hP, hK, hD0, hN⟩ := hv
  have hx := B.exec
  have hb := B.bytes
  have hr := B.returns
  have hts := atoms_spec (ws := wsX11_takeTape) B.pre
  have hown : s.vm.findClass RX11 = some m.cls := findClass_of_methodNamed B.named
  have hlocks := B.notSynchronized
  subst hsz
  have hA : ∀ q, s.heap.size ≤ q → va_A (ww_X11_takeTape cs ad raK xK0 xK2 xK3 xK4 xK5 xK6 xK7 xK8 xK9 xK10 xK11 xK12 xK13 xK14 xK18 zD) s.heap.size q := fun q h => Or.inr h
  have hD : va_D (va_A (ww_X11_takeTape cs ad raK xK0 xK2 xK3 xK4 xK5 xK6 xK7 xK8 xK9 xK10 xK11 xK12 xK13 xK14 xK18 zD) s.heap.size) (ww_X11_takeTape cs ad raK xK0 xK2 xK3 xK4 xK5 xK6 xK7 xK8 xK9 xK10 xK11 xK12 xK13 xK14 xK18 K) := hD0.weaken (fun k q h _ => cA_in (ws := (ww_X11_takeTape cs ad raK xK0 xK2 xK3 xK4 xK5 xK6 xK7 xK8 xK9 xK10 xK11 xK12 xK13 xK14 xK18 K)) (ws' := (ww_X11_takeTape cs ad raK xK0 xK2 xK3 xK4 xK5 xK6 xK7 xK8 xK9 xK10 xK11 xK12 xK13 xK14 xK18 zD)) rfl h)
  have hS : va_S (va_A (ww_X11_takeTape cs ad raK xK0 xK2 xK3 xK4 xK5 xK6 xK7 xK8 xK9 xK10 xK11 xK12 xK13 xK14 xK18 zD) s.heap.size) s.heap s.heap [] := va_S.rf
  have hinX11 := (show ∀ w ∈ wsX110, w ∈ wsX11_takeTape from fun w h => List.mem_cons_of_mem _ (List.mem_append_right _ h))
  have k_fieldLink_RX11_105__KeyLetters___tapeBytes___I_ := hts (.fieldLink RX11 105 "KeyLetters" "tapeBytes" "I") (List.mem_of_getElem? (i := 1) rfl)
  have hl := lv_entry ([.ref (raK 0)]) (n := 2) (Nat.le_of_ble_eq_true rfl)
  rw [show entryFrame m args 2 = entryFrame m ([.ref (raK 0)] : List Value).toArray 2 from by rw [hav], lg_entry_eq]
  generalize (lg_sl ([.ref (raK 0)]) ++ List.replicate (2 - (lg_sl ([.ref (raK 0)])).length) Slot.unset).toArray = ls at hl ⊢
  have hl : lv_has ls 2 [(0, .ref (raK 0))] := hl
  unfold f_X11_takeTape at hf
  refine lv_aload_n hx hb dX11_takeTape_0 rfl (lv_at hl 0 rfl) ?_
  refine va_get (D := (dC, dI)) (ci := 11) (C := RX11) (T := TX11) (N := 19) hx hb hts hinX11 hown hK hP 0 rfl rfl 1 (by decide) (v := .int (K.1 0 1)) k_fieldLink_RX11_105__KeyLetters___tapeBytes___I_ (fun _ h9 => h9) rfl dX11_takeTape_1 ?_
  obtain ⟨v1, ev1, hf⟩ := bd1_e hf
  refine kt_i ev1 ?_
  refine lv_istore_n (nL := 2) (lv' := [(1, .int v1), (0, .ref (raK 0))]) hx hb dX11_takeTape_4 rfl hl (by decide) rfl (fun ls hl => ?_)
  refine lv_aload_n hx hb dX11_takeTape_5 rfl (lv_at hl 1 rfl) ?_
  refine lv_iconst (v := 0) hx hb dX11_takeTape_6 (by decide) ?_
  obtain ⟨Kv2, eKv2, hf⟩ := bd1_e hf
  refine g_put (D := (dC, dI)) (ci := 11) (C := RX11) (T := TX11) (N := 19) hx hb hts hinX11 tyX11 tyX11_ok nmX11 hown hK hP hD hS 0 rfl rfl 1 (by decide) k_fieldLink_RX11_105__KeyLetters___tapeBytes___I_ (fun _ h9 => h9) rfl (ty := .int) (v := .int (0 : Int32)) (by decide +kernel) rfl rfl (Nat.le_of_ble_eq_true rfl) (ws' := (ww_X11_takeTape cs ad raK xK0 xK2 xK3 xK4 xK5 xK6 xK7 xK8 xK9 xK10 xK11 xK12 xK13 xK14 xK18 Kv2)) (by rw [eKv2]; rfl) dX11_takeTape_7 (fun H locs hP hD hS => ?_)
  refine lv_iload_n hx hb dX11_takeTape_10 rfl (lv_at hl 0 rfl) ?_
  have hf := Option.some.inj hf
  subst hf
  exact c_iret (v := v1) hx hb hr hlocks hP hK hD hS dX11_takeTape_11

def ww_X11_fault (cs : Nat → ClassId) (ad : Nat → Nat) (raK : Nat → Nat) (xK0 : Nat) (xK2 : Nat) (xK3 : Nat) (xK4 : Nat) (xK5 : Nat) (xK6 : Nat) (xK7 : Nat) (xK8 : Nat) (xK9 : Nat) (xK10 : Nat) (xK11 : Nat) (xK12 : Nat) (xK13 : Nat) (xK14 : Nat) (xK18 : Nat) (K : kD) : va_W := (wX11 cs ad raK xK0 xK2 xK3 xK4 xK5 xK6 xK7 xK8 xK9 xK10 xK11 xK12 xK13 xK14 xK18 K)
abbrev rm_X11_fault : Room := { frames := 0, cells := 0, slots := 0, locals := 0 }
set_option maxHeartbeats 4000000 in
set_option maxRecDepth 100000 in
theorem c_X11_fault (l : Launch) (dC : Nat → ClassId) (dI : Nat → Nat → Nat) (cs : Nat → ClassId) (ad : Nat → Nat) (raK : Nat → Nat) (xK0 : Nat) (xK2 : Nat) (xK3 : Nat) (xK4 : Nat) (xK5 : Nat) (xK6 : Nat) (xK7 : Nat) (xK8 : Nat) (xK9 : Nat) (xK10 : Nat) (xK11 : Nat) (xK12 : Nat) (xK13 : Nat) (xK14 : Nat) (xK18 : Nat) (K : kD) (r : Int32) (hf : f_X11_fault K = r) : Met l yX11_fault wsX11_fault rm_X11_fault (va_Pc [.ref (raK 0)] (cPr dC dI cs (ww_X11_fault cs ad raK xK0 xK2 xK3 xK4 xK5 xK6 xK7 xK8 xK9 xK10 xK11 xK12 xK13 xK14 xK18 K))) (kQ (some (.int r))) 0 0 (kF) := by
  refine Met.ofW (cc := cX11_fault) (maxL := 1) (ret := (some .int)) (by decide) rfl ?_
  intro p e s m args below meth c s₁ B hml hv
  obtain ⟨hav, hP, hK, hN⟩ := hv
  have hx := B.exec
  have hb := B.bytes
  have hr := B.returns
  have hts := atoms_spec (ws := wsX11_fault) B.pre
  have hown : s.vm.findClass RX11 = some m.cls := findClass_of_methodNamed B.named
  have hlocks := B.notSynchronized
  have hinX11 := (show ∀ w ∈ wsX110, w ∈ wsX11_fault from fun w h => List.mem_cons_of_mem _ (List.mem_append_right _ h))
  have k_fieldLink_RX11_127__KeyLetters___latestFault___I_ := hts (.fieldLink RX11 127 "KeyLetters" "latestFault" "I") (List.mem_of_getElem? (i := 1) rfl)
  have hl := lv_entry ([.ref (raK 0)]) (n := 1) (Nat.le_of_ble_eq_true rfl)
  rw [show entryFrame m args 1 = entryFrame m ([.ref (raK 0)] : List Value).toArray 1 from by rw [hav], lg_entry_eq]
  generalize (lg_sl ([.ref (raK 0)]) ++ List.replicate (1 - (lg_sl ([.ref (raK 0)])).length) Slot.unset).toArray = ls at hl ⊢
  have hl : lv_has ls 1 [(0, .ref (raK 0))] := hl
  unfold f_X11_fault at hf
  refine lv_aload_n hx hb dX11_fault_0 rfl (lv_at hl 0 rfl) ?_
  refine va_get (D := (dC, dI)) (ci := 11) (C := RX11) (T := TX11) (N := 19) hx hb hts hinX11 hown hK hP 0 rfl rfl 16 (by decide) (v := .int (K.1 0 16)) k_fieldLink_RX11_127__KeyLetters___latestFault___I_ (fun _ h9 => h9) rfl dX11_fault_1 ?_
  subst hf
  exact W.iret (v := (K.1 0 16)) hx hb hr (fun t ht hW => ⟨rfl, ht⟩) (fun _ h => nomatch h) dX11_fault_4

def ww_X11_phrase (cs : Nat → ClassId) (ad : Nat → Nat) (raK : Nat → Nat) (raC : Nat → Nat) (raO : Nat → Nat) (raS : Nat → Nat) (raN : Nat → Nat) (xK0 : Nat) (xK2 : Nat) (xK4 : Nat) (xK5 : Nat) (xK6 : Nat) (xK7 : Nat) (xK8 : Nat) (xK9 : Nat) (xK10 : Nat) (xK11 : Nat) (xK12 : Nat) (xK13 : Nat) (xK14 : Nat) (xK18 : Nat) (K : kD) (C : kD) (O : kD) (S : kD) (N : kD) : va_W := (wX11 cs ad raK xK0 xK2 (raC 0) xK4 xK5 xK6 xK7 xK8 xK9 xK10 xK11 xK12 xK13 xK14 xK18 K ++ (wX7 cs ad raC (raO 0) (raS 0) (raN 0) C ++ (wX3 cs ad raO O ++ (wX9 cs ad raS S ++ (wX8 cs ad raN N)))))
abbrev rm_X11_phrase : Room := { frames := 3, cells := 0, slots := 0, locals := 66 }
set_option maxHeartbeats 4000000 in
set_option maxRecDepth 100000 in
theorem c_X11_phrase (l : Launch) (dC : Nat → ClassId) (dI : Nat → Nat → Nat) (cs : Nat → ClassId) (ad : Nat → Nat) (raK : Nat → Nat) (raC : Nat → Nat) (raO : Nat → Nat) (raS : Nat → Nat) (raN : Nat → Nat) (xK0 : Nat) (xK2 : Nat) (xK4 : Nat) (xK5 : Nat) (xK6 : Nat) (xK7 : Nat) (xK8 : Nat) (xK9 : Nat) (xK10 : Nat) (xK11 : Nat) (xK12 : Nat) (xK13 : Nat) (xK14 : Nat) (xK18 : Nat) (K : kD) (C : kD) (O : kD) (S : kD) (N : kD) (a0 : Int32) (a1 : Int32) (r : Int32) (hf : f_X11_phrase a0 a1 K C O S N = some r) : Met l yX11_phrase wsX11_phrase rm_X11_phrase (va_Pc [.ref (raK 0), .int a0, .int a1] (cPr dC dI cs (ww_X11_phrase cs ad raK raC raO raS raN xK0 xK2 xK4 xK5 xK6 xK7 xK8 xK9 xK10 xK11 xK12 xK13 xK14 xK18 K C O S N))) (kQ (some (.int r))) 0 0 (kF) := by
  refine Met.ofW (cc := cX11_phrase) (maxL := 4) (ret := (some .int)) (by decide) rfl ?_
  intro p e s m args below meth c s₁ B hml hv
  obtain ⟨hav, hP, hK, hN⟩ := hv
  have hx := B.exec
  have hb := B.bytes
  have hr := B.returns
  have hts := atoms_spec (ws := wsX11_phrase) B.pre
  have hown : s.vm.findClass RX11 = some m.cls := findClass_of_methodNamed B.named
  have hlocks := B.notSynchronized
  have hinX11 := (show ∀ w ∈ wsX110, w ∈ wsX11_phrase from fun w h => List.mem_cons_of_mem _ (List.mem_append_left _ (List.mem_append_left _ (List.mem_append_right _ h))))
  have hinX3 := (show ∀ w ∈ wsX30, w ∈ wsX11_phrase from fun w h => List.mem_cons_of_mem _ (List.mem_append_right _ h))
  have hinX7 := (show ∀ w ∈ wsX70, w ∈ wsX11_phrase from fun w h => List.mem_cons_of_mem _ (List.mem_append_left _ (List.mem_append_right _ h)))
  have k_fieldLink_RX11_23__KeyLetters___scene___LKeyLetters_Scene__ := hts (.fieldLink RX11 23 "KeyLetters" "scene" "LKeyLetters$Scene;") (List.mem_of_getElem? (i := 1) rfl)
  have k_initialized_RX3 := hts (.initialized RX3) (List.mem_of_getElem? (i := 3) rfl)
  have k_instanceMethod_yX3_answeredBy := hts (.instanceMethod yX3_answeredBy) (List.mem_of_getElem? (i := 7) rfl)
  have k_instanceMethod_yX3_hasPhrase := hts (.instanceMethod yX3_hasPhrase) (List.mem_of_getElem? (i := 2) rfl)
  have k_instanceMethod_yX3_machinesKnowing := hts (.instanceMethod yX3_machinesKnowing) (List.mem_of_getElem? (i := 19) rfl)
  have k_selects_RX3_yX3_answeredBy_yX3_answeredBy := hts (.selects RX3 yX3_answeredBy yX3_answeredBy) (List.mem_of_getElem? (i := 8) rfl)
  have k_selects_RX3_yX3_hasPhrase_yX3_hasPhrase := hts (.selects RX3 yX3_hasPhrase yX3_hasPhrase) (List.mem_of_getElem? (i := 4) rfl)
  have k_selects_RX3_yX3_machinesKnowing_yX3_machinesKnowing := hts (.selects RX3 yX3_machinesKnowing yX3_machinesKnowing) (List.mem_of_getElem? (i := 20) rfl)
  have hl := lv_entry ([.ref (raK 0), .int a0, .int a1]) (n := 4) (Nat.le_of_ble_eq_true rfl)
  rw [show entryFrame m args 4 = entryFrame m ([.ref (raK 0), .int a0, .int a1] : List Value).toArray 4 from by rw [hav], lg_entry_eq]
  generalize (lg_sl ([.ref (raK 0), .int a0, .int a1]) ++ List.replicate (4 - (lg_sl ([.ref (raK 0), .int a0, .int a1])).length) Slot.unset).toArray = ls at hl ⊢
  have hl : lv_has ls 4 [(0, .ref (raK 0)), (1, .int a0), (2, .int a1)] := hl
  unfold f_X11_phrase at hf
  refine lv_aload_n hx hb dX11_phrase_0 rfl (lv_at hl 0 rfl) ?_
  refine va_get (D := (dC, dI)) (ci := 11) (C := RX11) (T := TX11) (N := 19) hx hb hts hinX11 hown hK hP 0 rfl rfl 3 (by decide) (v := .ref (raC 0)) k_fieldLink_RX11_23__KeyLetters___scene___LKeyLetters_Scene__ (fun _ h9 => h9) rfl dX11_phrase_1 ?_
  refine va_getN (D := (dC, dI)) (ci := 8) (C := RX7) (T := TX7) (N := 3) hx hb hts hinX7 hown hK hP 1 rfl rfl 0 (by decide) (v := .ref (raO 0)) (va_Nw.use rfl (hN _ (List.mem_of_getElem? (i := 50) rfl))) (fun _ h9 => h9) rfl dX11_phrase_4 ?_
  refine lv_astore_n (nL := 4) (lv' := [(3, .ref (raO 0)), (0, .ref (raK 0)), (1, .int a0), (2, .int a1)]) hx hb dX11_phrase_7 rfl hl (by decide) rfl (fun ls hl => ?_)
  refine lv_aload_n hx hb dX11_phrase_8 rfl (lv_at hl 0 rfl) ?_
  refine lv_iload_n hx hb dX11_phrase_9 rfl (lv_at hl 2 rfl) ?_
  refine ko_call (v := some (.int (f_X3_hasPhrase a0 O))) (va_runVN (As := [.int a0]) (rest := []) ⟨hx, hb, hml, hown, hts⟩ (c_X3_hasPhrase l dC dI cs ad raO O a0 _ rfl) ⟨va_cnB 1 hts gX11_phrase_X3_hasPhrase_n182 rfl rfl rfl (hN _ (List.mem_of_getElem? (i := 90) rfl)) k_initialized_RX3 (by decide +kernel) ⟨Nat.le_of_ble_eq_true rfl, Nat.le_of_ble_eq_true rfl⟩, k_instanceMethod_yX3_hasPhrase, k_selects_RX3_yX3_hasPhrase_yX3_hasPhrase⟩ ⟨fun a U g mk q => ⟨q.1, (fun _ _ _ _ => cPr_bl) a U g mk q.2⟩, va_recv hK hP (ci := 4) (q0 := 2) rfl rfl, fun U hU hW => ⟨rfl, ⟨by rw [hU]; exact (hP.sub (ws' := (ww_X3_hasPhrase cs ad raO O)) [2, 3, 4, 5, 6, 7, 8, 9] rfl), va_K.moved hW.alike hK, kN_warm hW hN⟩⟩⟩ rfl rfl hl.1 rfl (lv_room (Nat.le_of_ble_eq_true rfl)) dX11_phrase_10 ⟨Nat.le_refl _, Nat.le_refl _⟩) ?_
  refine lv_if_ne (tgt := 18) hx hb dX11_phrase_13 (by decide) (fun hb13 => ?_) (fun hb13 => ?_)
  · have hf := (if_neg hb13).symm.trans hf
    refine lv_iload_n hx hb dX11_phrase_18 rfl (lv_at hl 3 rfl) ?_
    by_cases hs2 : a1 = 0
    · have hf := (if_pos hs2).symm.trans hf
      refine lv_tableIn (off := 33) (tgt := 52) hx hb dX11_phrase_19 (by rw [hs2]; decide) (by rw [hs2]; decide) (by rw [hs2]; decide +kernel) (by decide) ?_
      refine lv_aload_n hx hb dX11_phrase_52 rfl (lv_at hl 0 rfl) ?_
      refine va_getN (D := (dC, dI)) (ci := 4) (C := RX3) (T := TX3) (N := 11) hx hb hts hinX3 hown hK hP 2 rfl rfl 8 (by decide) (v := .ref (raO 8)) (va_Nw.use rfl (hN _ (List.mem_of_getElem? (i := 28) rfl))) (fun _ h9 => h9) rfl dX11_phrase_53 ?_
      refine lv_iload_n hx hb dX11_phrase_56 rfl (lv_at hl 2 rfl) ?_
      obtain ⟨hc1, hf⟩ := ck_e hf
      refine va_iald hx hb hK hP 7 1 rfl rfl hc1 dX11_phrase_57 ?_
      have hf := Option.some.inj hf
      subst hf
      exact W.iret (v := (O.1 8 a0.toNatClampNeg)) hx hb hr (fun t ht hW => ⟨rfl, ht⟩) (fun _ h => nomatch h) dX11_phrase_58
    have hf := (if_neg hs2).symm.trans hf
    by_cases hs4 : a1 = 1
    · have hf := (if_pos hs4).symm.trans hf
      refine lv_tableIn (off := 40) (tgt := 59) hx hb dX11_phrase_19 (by rw [hs4]; decide) (by rw [hs4]; decide) (by rw [hs4]; decide +kernel) (by decide) ?_
      refine lv_aload_n hx hb dX11_phrase_59 rfl (lv_at hl 0 rfl) ?_
      refine va_getN (D := (dC, dI)) (ci := 4) (C := RX3) (T := TX3) (N := 11) hx hb hts hinX3 hown hK hP 2 rfl rfl 9 (by decide) (v := .ref (raO 9)) (va_Nw.use rfl (hN _ (List.mem_of_getElem? (i := 30) rfl))) (fun _ h9 => h9) rfl dX11_phrase_60 ?_
      refine lv_iload_n hx hb dX11_phrase_63 rfl (lv_at hl 2 rfl) ?_
      obtain ⟨hc3, hf⟩ := ck_e hf
      refine va_iald hx hb hK hP 8 1 rfl rfl hc3 dX11_phrase_64 ?_
      have hf := Option.some.inj hf
      subst hf
      exact W.iret (v := (O.1 9 a0.toNatClampNeg)) hx hb hr (fun t ht hW => ⟨rfl, ht⟩) (fun _ h => nomatch h) dX11_phrase_65
    have hf := (if_neg hs4).symm.trans hf
    by_cases hs6 : a1 = 2
    · have hf := (if_pos hs6).symm.trans hf
      refine lv_tableIn (off := 47) (tgt := 66) hx hb dX11_phrase_19 (by rw [hs6]; decide) (by rw [hs6]; decide) (by rw [hs6]; decide +kernel) (by decide) ?_
      refine lv_aload_n hx hb dX11_phrase_66 rfl (lv_at hl 0 rfl) ?_
      refine va_getN (D := (dC, dI)) (ci := 4) (C := RX3) (T := TX3) (N := 11) hx hb hts hinX3 hown hK hP 2 rfl rfl 10 (by decide) (v := .ref (raO 10)) (va_Nw.use rfl (hN _ (List.mem_of_getElem? (i := 32) rfl))) (fun _ h9 => h9) rfl dX11_phrase_67 ?_
      refine lv_iload_n hx hb dX11_phrase_70 rfl (lv_at hl 2 rfl) ?_
      obtain ⟨hc5, hf⟩ := ck_e hf
      refine va_iald hx hb hK hP 9 1 rfl rfl hc5 dX11_phrase_71 ?_
      have hf := Option.some.inj hf
      subst hf
      exact W.iret (v := (O.1 10 a0.toNatClampNeg)) hx hb hr (fun t ht hW => ⟨rfl, ht⟩) (fun _ h => nomatch h) dX11_phrase_72
    have hf := (if_neg hs6).symm.trans hf
    by_cases hs9 : a1 = 3
    · have hf := (if_pos hs9).symm.trans hf
      refine lv_tableIn (off := 54) (tgt := 73) hx hb dX11_phrase_19 (by rw [hs9]; decide) (by rw [hs9]; decide) (by rw [hs9]; decide +kernel) (by decide) ?_
      refine lv_aload_n hx hb dX11_phrase_73 rfl (lv_at hl 0 rfl) ?_
      refine lv_iload_n hx hb dX11_phrase_74 rfl (lv_at hl 2 rfl) ?_
      obtain ⟨v8, hq7, hf⟩ := bo_e hf
      refine ko_call (v := some (.int v8)) (va_runVN (As := [.int a0]) (rest := []) ⟨hx, hb, hml, hown, hts⟩ (c_X3_answeredBy l dC dI cs ad raO O a0 v8 hq7) ⟨va_cnB 1 hts gX11_phrase_X3_answeredBy_n194 rfl rfl rfl (hN _ (List.mem_of_getElem? (i := 91) rfl)) k_initialized_RX3 (by decide +kernel) ⟨Nat.le_of_ble_eq_true rfl, Nat.le_of_ble_eq_true rfl⟩, k_instanceMethod_yX3_answeredBy, k_selects_RX3_yX3_answeredBy_yX3_answeredBy⟩ ⟨fun a U g mk q => ⟨q.1, (fun _ _ _ _ => cPr_bl) a U g mk q.2⟩, va_recv hK hP (ci := 4) (q0 := 2) rfl rfl, fun U hU hW => ⟨rfl, ⟨by rw [hU]; exact (hP.sub (ws' := (ww_X3_answeredBy cs ad raO O)) [2, 3, 4, 5, 6, 7, 8, 9] rfl), va_K.moved hW.alike hK, kN_warm hW hN⟩⟩⟩ rfl rfl hl.1 rfl (lv_room (Nat.le_of_ble_eq_true rfl)) dX11_phrase_75 ⟨Nat.le_refl _, Nat.le_refl _⟩) ?_
      have hf := Option.some.inj hf
      subst hf
      exact W.iret (v := v8) hx hb hr (fun t ht hW => ⟨rfl, ht⟩) (fun _ h => nomatch h) dX11_phrase_78
    have hf := (if_neg hs9).symm.trans hf
    by_cases hs12 : a1 = 4
    · have hf := (if_pos hs12).symm.trans hf
      refine lv_tableIn (off := 60) (tgt := 79) hx hb dX11_phrase_19 (by rw [hs12]; decide) (by rw [hs12]; decide) (by rw [hs12]; decide +kernel) (by decide) ?_
      refine lv_aload_n hx hb dX11_phrase_79 rfl (lv_at hl 0 rfl) ?_
      refine lv_iload_n hx hb dX11_phrase_80 rfl (lv_at hl 2 rfl) ?_
      obtain ⟨v11, hq10, hf⟩ := bo_e hf
      refine ko_call (v := some (.int v11)) (va_runVN (As := [.int a0]) (rest := []) ⟨hx, hb, hml, hown, hts⟩ (c_X3_machinesKnowing l dC dI cs ad raO O a0 v11 hq10) ⟨va_cnB 1 hts gX11_phrase_X3_machinesKnowing_n197 rfl rfl rfl (hN _ (List.mem_of_getElem? (i := 92) rfl)) k_initialized_RX3 (by decide +kernel) ⟨Nat.le_of_ble_eq_true rfl, Nat.le_of_ble_eq_true rfl⟩, k_instanceMethod_yX3_machinesKnowing, k_selects_RX3_yX3_machinesKnowing_yX3_machinesKnowing⟩ ⟨fun a U g mk q => ⟨q.1, (fun _ _ _ _ => cPr_bl) a U g mk q.2⟩, va_recv hK hP (ci := 4) (q0 := 2) rfl rfl, fun U hU hW => ⟨rfl, ⟨by rw [hU]; exact (hP.sub (ws' := (ww_X3_machinesKnowing cs ad raO O)) [2, 3, 4, 5, 6, 7, 8, 9] rfl), va_K.moved hW.alike hK, kN_warm hW hN⟩⟩⟩ rfl rfl hl.1 rfl (lv_room (Nat.le_of_ble_eq_true rfl)) dX11_phrase_81 ⟨Nat.le_refl _, Nat.le_refl _⟩) ?_
      have hf := Option.some.inj hf
      subst hf
      exact W.iret (v := v11) hx hb hr (fun t ht hW => ⟨rfl, ht⟩) (fun _ h => nomatch h) dX11_phrase_84
    have hf := (if_neg hs12).symm.trans hf
    have hsw : a1.toInt < 0 ∨ 4 < a1.toInt := by
      have qhs2 : a1.toInt ≠ 0 := fun q => hs2 (Int32.toInt_inj.mp (q.trans (by decide)))
      have qhs4 : a1.toInt ≠ 1 := fun q => hs4 (Int32.toInt_inj.mp (q.trans (by decide)))
      have qhs6 : a1.toInt ≠ 2 := fun q => hs6 (Int32.toInt_inj.mp (q.trans (by decide)))
      have qhs9 : a1.toInt ≠ 3 := fun q => hs9 (Int32.toInt_inj.mp (q.trans (by decide)))
      have qhs12 : a1.toInt ≠ 4 := fun q => hs12 (Int32.toInt_inj.mp (q.trans (by decide)))
      omega
    refine lv_tableOut (tgt := 85) hx hb dX11_phrase_19 hsw (by decide) ?_
    refine lv_iconst (v := -1) hx hb dX11_phrase_85 (by decide) ?_
    have hf := Option.some.inj hf
    subst hf
    exact W.iret (v := (-1 : Int32)) hx hb hr (fun t ht hW => ⟨rfl, ht⟩) (fun _ h => nomatch h) dX11_phrase_86
  · have hf := (if_pos hb13).symm.trans hf
    refine lv_iconst (v := -1) hx hb dX11_phrase_16 (by decide) ?_
    have hf := Option.some.inj hf
    subst hf
    exact W.iret (v := (-1 : Int32)) hx hb hr (fun t ht hW => ⟨rfl, ht⟩) (fun _ h => nomatch h) dX11_phrase_17

def ww_X11_owes (cs : Nat → ClassId) (ad : Nat → Nat) (raK : Nat → Nat) (raC : Nat → Nat) (raO : Nat → Nat) (raS : Nat → Nat) (raN : Nat → Nat) (xK0 : Nat) (xK2 : Nat) (xK4 : Nat) (xK5 : Nat) (xK6 : Nat) (xK7 : Nat) (xK8 : Nat) (xK9 : Nat) (xK10 : Nat) (xK11 : Nat) (xK12 : Nat) (xK13 : Nat) (xK14 : Nat) (xK18 : Nat) (K : kD) (C : kD) (O : kD) (S : kD) (N : kD) : va_W := (wX11 cs ad raK xK0 xK2 (raC 0) xK4 xK5 xK6 xK7 xK8 xK9 xK10 xK11 xK12 xK13 xK14 xK18 K ++ (wX7 cs ad raC (raO 0) (raS 0) (raN 0) C ++ (wX3 cs ad raO O ++ (wX9 cs ad raS S ++ (wX8 cs ad raN N)))))
abbrev rm_X11_owes : Room := { frames := 1, cells := 0, slots := 0, locals := 22 }
set_option maxHeartbeats 4000000 in
set_option maxRecDepth 100000 in
theorem c_X11_owes (l : Launch) (dC : Nat → ClassId) (dI : Nat → Nat → Nat) (cs : Nat → ClassId) (ad : Nat → Nat) (raK : Nat → Nat) (raC : Nat → Nat) (raO : Nat → Nat) (raS : Nat → Nat) (raN : Nat → Nat) (xK0 : Nat) (xK2 : Nat) (xK4 : Nat) (xK5 : Nat) (xK6 : Nat) (xK7 : Nat) (xK8 : Nat) (xK9 : Nat) (xK10 : Nat) (xK11 : Nat) (xK12 : Nat) (xK13 : Nat) (xK14 : Nat) (xK18 : Nat) (K : kD) (C : kD) (O : kD) (S : kD) (N : kD) (a0 : Int32) (a1 : Int32) (r : Int32) (hf : f_X11_owes a0 a1 K C O S N = some r) : Met l yX11_owes wsX11_owes rm_X11_owes (va_Pc [.ref (raK 0), .int a0, .int a1] (cPr dC dI cs (ww_X11_owes cs ad raK raC raO raS raN xK0 xK2 xK4 xK5 xK6 xK7 xK8 xK9 xK10 xK11 xK12 xK13 xK14 xK18 K C O S N))) (kQ (some (.int r))) 0 0 (kF) := by
  refine Met.ofW (cc := cX11_owes) (maxL := 3) (ret := (some .int)) (by decide) rfl ?_
  intro p e s m args below meth c s₁ B hml hv
  obtain ⟨hav, hP, hK, hN⟩ := hv
  have hx := B.exec
  have hb := B.bytes
  have hr := B.returns
  have hts := atoms_spec (ws := wsX11_owes) B.pre
  have hown : s.vm.findClass RX11 = some m.cls := findClass_of_methodNamed B.named
  have hlocks := B.notSynchronized
  have hinX11 := (show ∀ w ∈ wsX110, w ∈ wsX11_owes from fun w h => List.mem_cons_of_mem _ (List.mem_append_left _ (List.mem_append_left _ (List.mem_append_left _ (List.mem_append_right _ h)))))
  have hinX7 := (show ∀ w ∈ wsX70, w ∈ wsX11_owes from fun w h => List.mem_cons_of_mem _ (List.mem_append_left _ (List.mem_append_left _ (List.mem_append_right _ h))))
  have k_fieldLink_RX11_23__KeyLetters___scene___LKeyLetters_Scene__ := hts (.fieldLink RX11 23 "KeyLetters" "scene" "LKeyLetters$Scene;") (List.mem_of_getElem? (i := 1) rfl)
  have k_initialized_RX3 := hts (.initialized RX3) (List.mem_of_getElem? (i := 3) rfl)
  have k_initialized_RX9 := hts (.initialized RX9) (List.mem_of_getElem? (i := 8) rfl)
  have k_instanceMethod_yX3_hasMachine := hts (.instanceMethod yX3_hasMachine) (List.mem_of_getElem? (i := 2) rfl)
  have k_instanceMethod_yX9_debtOf := hts (.instanceMethod yX9_debtOf) (List.mem_of_getElem? (i := 7) rfl)
  have k_selects_RX3_yX3_hasMachine_yX3_hasMachine := hts (.selects RX3 yX3_hasMachine yX3_hasMachine) (List.mem_of_getElem? (i := 4) rfl)
  have k_selects_RX9_yX9_debtOf_yX9_debtOf := hts (.selects RX9 yX9_debtOf yX9_debtOf) (List.mem_of_getElem? (i := 9) rfl)
  have hl := lv_entry ([.ref (raK 0), .int a0, .int a1]) (n := 3) (Nat.le_of_ble_eq_true rfl)
  rw [show entryFrame m args 3 = entryFrame m ([.ref (raK 0), .int a0, .int a1] : List Value).toArray 3 from by rw [hav], lg_entry_eq]
  generalize (lg_sl ([.ref (raK 0), .int a0, .int a1]) ++ List.replicate (3 - (lg_sl ([.ref (raK 0), .int a0, .int a1])).length) Slot.unset).toArray = ls at hl ⊢
  have hl : lv_has ls 3 [(0, .ref (raK 0)), (1, .int a0), (2, .int a1)] := hl
  unfold f_X11_owes at hf
  refine lv_iload_n hx hb dX11_owes_0 rfl (lv_at hl 1 rfl) ?_
  refine lv_iload_n hx hb dX11_owes_1 rfl (lv_at hl 2 rfl) ?_
  refine lv_icmp_eq (tgt := 33) hx hb dX11_owes_2 (by decide) (fun hb5 => ?_) (fun hb5 => ?_)
  · have hf := (if_pos hb5).symm.trans hf
    refine lv_iconst (v := -1) hx hb dX11_owes_33 (by decide) ?_
    have hf := Option.some.inj hf
    subst hf
    exact W.iret (v := (-1 : Int32)) hx hb hr (fun t ht hW => ⟨rfl, ht⟩) (fun _ h => nomatch h) dX11_owes_34
  · have hf := (if_neg hb5).symm.trans hf
    refine lv_aload_n hx hb dX11_owes_5 rfl (lv_at hl 0 rfl) ?_
    refine va_get (D := (dC, dI)) (ci := 11) (C := RX11) (T := TX11) (N := 19) hx hb hts hinX11 hown hK hP 0 rfl rfl 3 (by decide) (v := .ref (raC 0)) k_fieldLink_RX11_23__KeyLetters___scene___LKeyLetters_Scene__ (fun _ h9 => h9) rfl dX11_owes_6 ?_
    refine va_getN (D := (dC, dI)) (ci := 8) (C := RX7) (T := TX7) (N := 3) hx hb hts hinX7 hown hK hP 1 rfl rfl 0 (by decide) (v := .ref (raO 0)) (va_Nw.use rfl (hN _ (List.mem_of_getElem? (i := 50) rfl))) (fun _ h9 => h9) rfl dX11_owes_9 ?_
    refine lv_iload_n hx hb dX11_owes_12 rfl (lv_at hl 1 rfl) ?_
    refine ko_call (v := some (.int (f_X3_hasMachine a0 O))) (va_runVN (As := [.int a0]) (rest := []) ⟨hx, hb, hml, hown, hts⟩ (c_X3_hasMachine l dC dI cs ad raO O a0 _ rfl) ⟨va_cnB 1 hts gX11_owes_X3_hasMachine_n149 rfl rfl rfl (hN _ (List.mem_of_getElem? (i := 93) rfl)) k_initialized_RX3 (by decide +kernel) ⟨Nat.le_of_ble_eq_true rfl, Nat.le_of_ble_eq_true rfl⟩, k_instanceMethod_yX3_hasMachine, k_selects_RX3_yX3_hasMachine_yX3_hasMachine⟩ ⟨fun a U g mk q => ⟨q.1, (fun _ _ _ _ => cPr_bl) a U g mk q.2⟩, va_recv hK hP (ci := 4) (q0 := 2) rfl rfl, fun U hU hW => ⟨rfl, ⟨by rw [hU]; exact (hP.sub (ws' := (ww_X3_hasMachine cs ad raO O)) [2, 3, 4, 5, 6, 7, 8, 9] rfl), va_K.moved hW.alike hK, kN_warm hW hN⟩⟩⟩ rfl rfl hl.1 rfl (lv_room (Nat.le_of_ble_eq_true rfl)) dX11_owes_13 ⟨Nat.le_refl _, Nat.le_refl _⟩) ?_
    refine lv_if_eq (tgt := 33) hx hb dX11_owes_16 (by decide) (fun hb4 => ?_) (fun hb4 => ?_)
    · have hf := (if_pos hb4).symm.trans hf
      refine lv_iconst (v := -1) hx hb dX11_owes_33 (by decide) ?_
      have hf := Option.some.inj hf
      subst hf
      exact W.iret (v := (-1 : Int32)) hx hb hr (fun t ht hW => ⟨rfl, ht⟩) (fun _ h => nomatch h) dX11_owes_34
    · have hf := (if_neg hb4).symm.trans hf
      refine lv_aload_n hx hb dX11_owes_19 rfl (lv_at hl 0 rfl) ?_
      refine va_get (D := (dC, dI)) (ci := 11) (C := RX11) (T := TX11) (N := 19) hx hb hts hinX11 hown hK hP 0 rfl rfl 3 (by decide) (v := .ref (raC 0)) k_fieldLink_RX11_23__KeyLetters___scene___LKeyLetters_Scene__ (fun _ h9 => h9) rfl dX11_owes_20 ?_
      refine va_getN (D := (dC, dI)) (ci := 8) (C := RX7) (T := TX7) (N := 3) hx hb hts hinX7 hown hK hP 1 rfl rfl 0 (by decide) (v := .ref (raO 0)) (va_Nw.use rfl (hN _ (List.mem_of_getElem? (i := 50) rfl))) (fun _ h9 => h9) rfl dX11_owes_23 ?_
      refine lv_iload_n hx hb dX11_owes_26 rfl (lv_at hl 2 rfl) ?_
      refine ko_call (v := some (.int (f_X3_hasMachine a1 O))) (va_runVN (As := [.int a1]) (rest := []) ⟨hx, hb, hml, hown, hts⟩ (c_X3_hasMachine l dC dI cs ad raO O a1 _ rfl) ⟨va_cnB 1 hts gX11_owes_X3_hasMachine_n149 rfl rfl rfl (hN _ (List.mem_of_getElem? (i := 93) rfl)) k_initialized_RX3 (by decide +kernel) ⟨Nat.le_of_ble_eq_true rfl, Nat.le_of_ble_eq_true rfl⟩, k_instanceMethod_yX3_hasMachine, k_selects_RX3_yX3_hasMachine_yX3_hasMachine⟩ ⟨fun a U g mk q => ⟨q.1, (fun _ _ _ _ => cPr_bl) a U g mk q.2⟩, va_recv hK hP (ci := 4) (q0 := 2) rfl rfl, fun U hU hW => ⟨rfl, ⟨by rw [hU]; exact (hP.sub (ws' := (ww_X3_hasMachine cs ad raO O)) [2, 3, 4, 5, 6, 7, 8, 9] rfl), va_K.moved hW.alike hK, kN_warm hW hN⟩⟩⟩ rfl rfl hl.1 rfl (lv_room (Nat.le_of_ble_eq_true rfl)) dX11_owes_27 ⟨Nat.le_refl _, Nat.le_refl _⟩) ?_
      refine lv_if_ne (tgt := 35) hx hb dX11_owes_30 (by decide) (fun hb3 => ?_) (fun hb3 => ?_)
      · have hf := (if_neg hb3).symm.trans hf
        refine lv_aload_n hx hb dX11_owes_35 rfl (lv_at hl 0 rfl) ?_
        refine va_get (D := (dC, dI)) (ci := 11) (C := RX11) (T := TX11) (N := 19) hx hb hts hinX11 hown hK hP 0 rfl rfl 3 (by decide) (v := .ref (raC 0)) k_fieldLink_RX11_23__KeyLetters___scene___LKeyLetters_Scene__ (fun _ h9 => h9) rfl dX11_owes_36 ?_
        refine va_getN (D := (dC, dI)) (ci := 8) (C := RX7) (T := TX7) (N := 3) hx hb hts hinX7 hown hK hP 1 rfl rfl 1 (by decide) (v := .ref (raS 0)) (va_Nw.use rfl (hN _ (List.mem_of_getElem? (i := 51) rfl))) (fun _ h9 => h9) rfl dX11_owes_39 ?_
        refine lv_iload_n hx hb dX11_owes_42 rfl (lv_at hl 1 rfl) ?_
        refine lv_iload_n hx hb dX11_owes_43 rfl (lv_at hl 2 rfl) ?_
        obtain ⟨v2, hq1, hf⟩ := bo_e hf
        refine ko_call (v := some (.int v2)) (va_runVN (As := [.int a0, .int a1]) (rest := []) ⟨hx, hb, hml, hown, hts⟩ (c_X9_debtOf l dC dI cs ad raS S a0 a1 v2 hq1) ⟨va_cnB 2 hts gX11_owes_X9_debtOf_n200 rfl rfl rfl (hN _ (List.mem_of_getElem? (i := 94) rfl)) k_initialized_RX9 (by decide +kernel) ⟨Nat.le_of_ble_eq_true rfl, Nat.le_of_ble_eq_true rfl⟩, k_instanceMethod_yX9_debtOf, k_selects_RX9_yX9_debtOf_yX9_debtOf⟩ ⟨fun a U g mk q => ⟨q.1, (fun _ _ _ _ => cPr_bl) a U g mk q.2⟩, va_recv hK hP (ci := 10) (q0 := 10) rfl rfl, fun U hU hW => ⟨rfl, ⟨by rw [hU]; exact (hP.sub (ws' := (ww_X9_debtOf cs ad raS S)) [10, 11, 12, 13, 14] rfl), va_K.moved hW.alike hK, kN_warm hW hN⟩⟩⟩ rfl rfl hl.1 rfl (lv_room (Nat.le_of_ble_eq_true rfl)) dX11_owes_44 ⟨Nat.le_refl _, Nat.le_refl _⟩) ?_
        have hf := Option.some.inj hf
        subst hf
        exact W.iret (v := v2) hx hb hr (fun t ht hW => ⟨rfl, ht⟩) (fun _ h => nomatch h) dX11_owes_47
      · have hf := (if_pos hb3).symm.trans hf
        refine lv_iconst (v := -1) hx hb dX11_owes_33 (by decide) ?_
        have hf := Option.some.inj hf
        subst hf
        exact W.iret (v := (-1 : Int32)) hx hb hr (fun t ht hW => ⟨rfl, ht⟩) (fun _ h => nomatch h) dX11_owes_34

def ww_X11_sumOf (cs : Nat → ClassId) (ad : Nat → Nat) (raA : Nat) (nA : Nat) (A : Nat → Int32) : va_W := ([(raA, .inl (cs 1, nA, .inl A))])
abbrev rm_X11_sumOf : Room := { frames := 0, cells := 0, slots := 0, locals := 0 }
set_option maxHeartbeats 4000000 in
set_option maxRecDepth 100000 in
theorem c_X11_sumOf (l : Launch) (dC : Nat → ClassId) (dI : Nat → Nat → Nat) (cs : Nat → ClassId) (ad : Nat → Nat) (raA : Nat) (nA : Nat) (A : Nat → Int32) (r : Int32) (hf : f_X11_sumOf nA A = some r) : Met l yX11_sumOf wsX11_sumOf rm_X11_sumOf (va_Pc [.ref raA] (cPr dC dI cs (ww_X11_sumOf cs ad raA nA A))) (kQ (some (.int r))) 0 0 (kF) := by
  refine Met.ofW (cc := cX11_sumOf) (maxL := 3) (ret := (some .int)) (by decide) rfl ?_
  intro p e s m args below meth c s₁ B hml hv
  obtain ⟨hav, hP, hK, hN⟩ := hv
  have hx := B.exec
  have hb := B.bytes
  have hr := B.returns
  have hts := atoms_spec (ws := wsX11_sumOf) B.pre
  have hown : s.vm.findClass RX11 = some m.cls := findClass_of_methodNamed B.named
  have hlocks := B.notSynchronized
  have hl := lv_entry ([.ref raA]) (n := 3) (Nat.le_of_ble_eq_true rfl)
  rw [show entryFrame m args 3 = entryFrame m ([.ref raA] : List Value).toArray 3 from by rw [hav], lg_entry_eq]
  generalize (lg_sl ([.ref raA]) ++ List.replicate (3 - (lg_sl ([.ref raA])).length) Slot.unset).toArray = ls at hl ⊢
  have hl : lv_has ls 3 [(0, .ref raA)] := hl
  unfold f_X11_sumOf at hf
  have h_4 := lp_ind (z := (fun _ _ => none)) (b := (g_X11_sumOf_4 nA A)) (fun (rc_4 : Int32 → Int32 → Option Int32) => ∀ (x1_4 : Int32) (x2_4 : Int32) (ls : Array Slot), lv_has ls 3 [(0, .ref raA), (1, .int x1_4), (2, .int x2_4)] → rc_4 x1_4 x2_4 = some r → W p l e (headSpec wsX11_sumOf rm_X11_sumOf).room s m args below meth c s.heap [] 0 0 (MQ below (kQ (some (.int r))) args s 0 0 (kF)) (F0 m 4 ls [])) (by
      intro x1_4 x2_4 ls hl hf
      cases hf) (by
      intro rc_4 ih_4 x1_4 x2_4 ls hl hf
      unfold g_X11_sumOf_4 at hf
      refine lv_iload_n hx hb dX11_sumOf_4 rfl (lv_at hl 2 rfl) ?_
      refine lv_aload_n hx hb dX11_sumOf_5 rfl (lv_at hl 0 rfl) ?_
      refine va_alen hx hb hK hP 0 1 rfl rfl (v := (Int32.ofNat nA)) rfl dX11_sumOf_6 ?_
      refine lv_icmp_ge (tgt := 22) hx hb dX11_sumOf_7 (by decide) (fun hb4 => ?_) (fun hb4 => ?_)
      · have hf := (if_pos hb4).symm.trans hf
        refine lv_iload_n hx hb dX11_sumOf_22 rfl (lv_at hl 1 rfl) ?_
        have hf := Option.some.inj hf
        subst hf
        exact W.iret (v := x1_4) hx hb hr (fun t ht hW => ⟨rfl, ht⟩) (fun _ h => nomatch h) dX11_sumOf_23
      · have hf := (if_neg hb4).symm.trans hf
        refine lv_iload_n hx hb dX11_sumOf_10 rfl (lv_at hl 1 rfl) ?_
        refine lv_aload_n hx hb dX11_sumOf_11 rfl (lv_at hl 0 rfl) ?_
        refine lv_iload_n hx hb dX11_sumOf_12 rfl (lv_at hl 2 rfl) ?_
        obtain ⟨hc1, hf⟩ := ck_e hf
        refine va_iald hx hb hK hP 0 1 rfl rfl hc1 dX11_sumOf_13 ?_
        refine lv_iadd hx hb dX11_sumOf_14 ?_
        obtain ⟨v2, ev2, hf⟩ := bd1_e hf
        refine kt_i ev2 ?_
        refine lv_istore_n (nL := 3) (lv' := [(1, .int v2), (0, .ref raA), (2, .int x2_4)]) hx hb dX11_sumOf_15 rfl hl (by decide) rfl (fun ls hl => ?_)
        obtain ⟨v3, ev3, hf⟩ := bd1_e hf
        refine lv_iinc (k := 2) (x := x2_4) (v := v3) (nL := 3) (lv' := [(2, .int v3), (1, .int v2), (0, .ref raA)]) hx hb dX11_sumOf_16 hl rfl (kt_inc (w := 1) (by decide) ev3) (by decide) rfl (fun ls hl => ?_)
        refine lv_goto (tgt := 4) hx hb dX11_sumOf_19 (by decide) ?_
        exact ih_4 v2 v3 ls (lv_sub hl [2, 1, 0] rfl) hf) 2000
  refine lv_iconst (v := 0) hx hb dX11_sumOf_0 (by decide) ?_
  refine lv_istore_n (nL := 3) (lv' := [(1, .int (0 : Int32)), (0, .ref raA)]) hx hb dX11_sumOf_1 rfl hl (by decide) rfl (fun ls hl => ?_)
  refine lv_iconst (v := 0) hx hb dX11_sumOf_2 (by decide) ?_
  refine lv_istore_n (nL := 3) (lv' := [(2, .int (0 : Int32)), (1, .int (0 : Int32)), (0, .ref raA)]) hx hb dX11_sumOf_3 rfl hl (by decide) rfl (fun ls hl => ?_)
  exact h_4 (0 : Int32) (0 : Int32) ls (lv_sub hl [2, 1, 0] rfl) hf

def ww_X11_now (cs : Nat → ClassId) (ad : Nat → Nat) (raK : Nat → Nat) (raC : Nat → Nat) (raO : Nat → Nat) (raS : Nat → Nat) (raN : Nat → Nat) (xK0 : Nat) (xK2 : Nat) (xK4 : Nat) (xK5 : Nat) (xK6 : Nat) (xK7 : Nat) (xK8 : Nat) (xK9 : Nat) (xK10 : Nat) (xK11 : Nat) (xK12 : Nat) (xK13 : Nat) (xK14 : Nat) (xK18 : Nat) (K : kD) (C : kD) (O : kD) (S : kD) (N : kD) : va_W := (wX11 cs ad raK xK0 xK2 (raC 0) xK4 xK5 xK6 xK7 xK8 xK9 xK10 xK11 xK12 xK13 xK14 xK18 K ++ (wX7 cs ad raC (raO 0) (raS 0) (raN 0) C ++ (wX3 cs ad raO O ++ (wX9 cs ad raS S ++ (wX8 cs ad raN N)))))
abbrev rm_X11_now : Room := { frames := 1, cells := 0, slots := 0, locals := 22 }
set_option maxHeartbeats 4000000 in
set_option maxRecDepth 100000 in
theorem c_X11_now (l : Launch) (dC : Nat → ClassId) (dI : Nat → Nat → Nat) (cs : Nat → ClassId) (ad : Nat → Nat) (raK : Nat → Nat) (raC : Nat → Nat) (raO : Nat → Nat) (raS : Nat → Nat) (raN : Nat → Nat) (xK0 : Nat) (xK2 : Nat) (xK4 : Nat) (xK5 : Nat) (xK6 : Nat) (xK7 : Nat) (xK8 : Nat) (xK9 : Nat) (xK10 : Nat) (xK11 : Nat) (xK12 : Nat) (xK13 : Nat) (xK14 : Nat) (xK18 : Nat) (K : kD) (C : kD) (O : kD) (S : kD) (N : kD) (a0 : Int32) (r : Int32) (hf : f_X11_now a0 K C O S N = some r) : Met l yX11_now wsX11_now rm_X11_now (va_Pc [.ref (raK 0), .int a0] (cPr dC dI cs (ww_X11_now cs ad raK raC raO raS raN xK0 xK2 xK4 xK5 xK6 xK7 xK8 xK9 xK10 xK11 xK12 xK13 xK14 xK18 K C O S N))) (kQ (some (.int r))) 0 0 (kF) := by
  refine Met.ofW (cc := cX11_now) (maxL := 3) (ret := (some .int)) (by decide) rfl ?_
  intro p e s m args below meth c s₁ B hml hv
  obtain ⟨hav, hP, hK, hN⟩ := hv
  have hx := B.exec
  have hb := B.bytes
  have hr := B.returns
  have hts := atoms_spec (ws := wsX11_now) B.pre
  have hown : s.vm.findClass RX11 = some m.cls := findClass_of_methodNamed B.named
  have hlocks := B.notSynchronized
  have hinX11 := (show ∀ w ∈ wsX110, w ∈ wsX11_now from fun w h => List.mem_cons_of_mem _ (List.mem_append_left _ (List.mem_append_left _ (List.mem_append_right _ h))))
  have hinX7 := (show ∀ w ∈ wsX70, w ∈ wsX11_now from fun w h => List.mem_cons_of_mem _ (List.mem_append_left _ (List.mem_append_right _ h)))
  have hinX9 := (show ∀ w ∈ wsX90, w ∈ wsX11_now from fun w h => List.mem_cons_of_mem _ (List.mem_append_right _ h))
  have k_fieldLink_RX11_23__KeyLetters___scene___LKeyLetters_Scene__ := hts (.fieldLink RX11 23 "KeyLetters" "scene" "LKeyLetters$Scene;") (List.mem_of_getElem? (i := 1) rfl)
  have hl := lv_entry ([.ref (raK 0), .int a0]) (n := 3) (Nat.le_of_ble_eq_true rfl)
  rw [show entryFrame m args 3 = entryFrame m ([.ref (raK 0), .int a0] : List Value).toArray 3 from by rw [hav], lg_entry_eq]
  generalize (lg_sl ([.ref (raK 0), .int a0]) ++ List.replicate (3 - (lg_sl ([.ref (raK 0), .int a0])).length) Slot.unset).toArray = ls at hl ⊢
  have hl : lv_has ls 3 [(0, .ref (raK 0)), (1, .int a0)] := hl
  unfold f_X11_now at hf
  refine lv_aload_n hx hb dX11_now_0 rfl (lv_at hl 0 rfl) ?_
  refine va_get (D := (dC, dI)) (ci := 11) (C := RX11) (T := TX11) (N := 19) hx hb hts hinX11 hown hK hP 0 rfl rfl 3 (by decide) (v := .ref (raC 0)) k_fieldLink_RX11_23__KeyLetters___scene___LKeyLetters_Scene__ (fun _ h9 => h9) rfl dX11_now_1 ?_
  refine va_getN (D := (dC, dI)) (ci := 8) (C := RX7) (T := TX7) (N := 3) hx hb hts hinX7 hown hK hP 1 rfl rfl 1 (by decide) (v := .ref (raS 0)) (va_Nw.use rfl (hN _ (List.mem_of_getElem? (i := 51) rfl))) (fun _ h9 => h9) rfl dX11_now_4 ?_
  refine lv_astore_n (nL := 3) (lv' := [(2, .ref (raS 0)), (0, .ref (raK 0)), (1, .int a0)]) hx hb dX11_now_7 rfl hl (by decide) rfl (fun ls hl => ?_)
  refine lv_iload_n hx hb dX11_now_8 rfl (lv_at hl 2 rfl) ?_
  by_cases hs1 : a0 = 0
  · have hf := (if_pos hs1).symm.trans hf
    refine lv_tableIn (off := 47) (tgt := 56) hx hb dX11_now_9 (by rw [hs1]; decide) (by rw [hs1]; decide) (by rw [hs1]; decide +kernel) (by decide) ?_
    refine lv_aload_n hx hb dX11_now_56 rfl (lv_at hl 0 rfl) ?_
    refine va_getN (D := (dC, dI)) (ci := 10) (C := RX9) (T := TX9) (N := 9) hx hb hts hinX9 hown hK hP 10 rfl rfl 0 (by decide) (v := .int (S.1 0 0)) (va_Nw.use rfl (hN _ (List.mem_of_getElem? (i := 34) rfl))) (fun _ h9 => h9) rfl dX11_now_57 ?_
    have hf := Option.some.inj hf
    subst hf
    exact W.iret (v := (S.1 0 0)) hx hb hr (fun t ht hW => ⟨rfl, ht⟩) (fun _ h => nomatch h) dX11_now_60
  have hf := (if_neg hs1).symm.trans hf
  by_cases hs2 : a0 = 1
  · have hf := (if_pos hs2).symm.trans hf
    refine lv_tableIn (off := 52) (tgt := 61) hx hb dX11_now_9 (by rw [hs2]; decide) (by rw [hs2]; decide) (by rw [hs2]; decide +kernel) (by decide) ?_
    refine lv_aload_n hx hb dX11_now_61 rfl (lv_at hl 0 rfl) ?_
    refine va_getN (D := (dC, dI)) (ci := 10) (C := RX9) (T := TX9) (N := 9) hx hb hts hinX9 hown hK hP 10 rfl rfl 1 (by decide) (v := .int (S.1 0 1)) (va_Nw.use rfl (hN _ (List.mem_of_getElem? (i := 36) rfl))) (fun _ h9 => h9) rfl dX11_now_62 ?_
    have hf := Option.some.inj hf
    subst hf
    exact W.iret (v := (S.1 0 1)) hx hb hr (fun t ht hW => ⟨rfl, ht⟩) (fun _ h => nomatch h) dX11_now_65
  have hf := (if_neg hs2).symm.trans hf
  by_cases hs3 : a0 = 2
  · have hf := (if_pos hs3).symm.trans hf
    refine lv_tableIn (off := 57) (tgt := 66) hx hb dX11_now_9 (by rw [hs3]; decide) (by rw [hs3]; decide) (by rw [hs3]; decide +kernel) (by decide) ?_
    refine lv_aload_n hx hb dX11_now_66 rfl (lv_at hl 0 rfl) ?_
    refine va_getN (D := (dC, dI)) (ci := 10) (C := RX9) (T := TX9) (N := 9) hx hb hts hinX9 hown hK hP 10 rfl rfl 2 (by decide) (v := .int (S.1 0 2)) (va_Nw.use rfl (hN _ (List.mem_of_getElem? (i := 38) rfl))) (fun _ h9 => h9) rfl dX11_now_67 ?_
    have hf := Option.some.inj hf
    subst hf
    exact W.iret (v := (S.1 0 2)) hx hb hr (fun t ht hW => ⟨rfl, ht⟩) (fun _ h => nomatch h) dX11_now_70
  have hf := (if_neg hs3).symm.trans hf
  by_cases hs4 : a0 = 3
  · have hf := (if_pos hs4).symm.trans hf
    refine lv_tableIn (off := 62) (tgt := 71) hx hb dX11_now_9 (by rw [hs4]; decide) (by rw [hs4]; decide) (by rw [hs4]; decide +kernel) (by decide) ?_
    refine lv_aload_n hx hb dX11_now_71 rfl (lv_at hl 0 rfl) ?_
    refine va_getN (D := (dC, dI)) (ci := 10) (C := RX9) (T := TX9) (N := 9) hx hb hts hinX9 hown hK hP 10 rfl rfl 3 (by decide) (v := .int (S.1 0 3)) (va_Nw.use rfl (hN _ (List.mem_of_getElem? (i := 40) rfl))) (fun _ h9 => h9) rfl dX11_now_72 ?_
    have hf := Option.some.inj hf
    subst hf
    exact W.iret (v := (S.1 0 3)) hx hb hr (fun t ht hW => ⟨rfl, ht⟩) (fun _ h => nomatch h) dX11_now_75
  have hf := (if_neg hs4).symm.trans hf
  by_cases hs7 : a0 = 4
  · have hf := (if_pos hs7).symm.trans hf
    refine lv_tableIn (off := 67) (tgt := 76) hx hb dX11_now_9 (by rw [hs7]; decide) (by rw [hs7]; decide) (by rw [hs7]; decide +kernel) (by decide) ?_
    refine lv_aload_n hx hb dX11_now_76 rfl (lv_at hl 0 rfl) ?_
    refine va_getN (D := (dC, dI)) (ci := 10) (C := RX9) (T := TX9) (N := 9) hx hb hts hinX9 hown hK hP 10 rfl rfl 6 (by decide) (v := .ref (raS 6)) (va_Nw.use rfl (hN _ (List.mem_of_getElem? (i := 44) rfl))) (fun _ h9 => h9) rfl dX11_now_77 ?_
    obtain ⟨v6, hq5, hf⟩ := bo_e hf
    refine ko_call (v := some (.int v6)) (va_runS (As := [.ref (raS 6)]) (rest := []) ⟨hx, hb, hml, hown, hts⟩ (c_X11_sumOf l dC dI cs ad (raS 6) 6 (S.1 6) v6 hq5) (va_cwS 1 hts gX11_now_X11_sumOf rfl rfl rfl (by decide +kernel) ⟨Nat.le_of_ble_eq_true rfl, Nat.le_of_ble_eq_true rfl⟩) ⟨fun a U g mk q => ⟨q.1, (fun _ _ _ _ => cPr_bl) a U g mk q.2⟩, fun U hU hW => ⟨rfl, ⟨by rw [hU]; exact (hP.sub (ws' := (ww_X11_sumOf cs ad (raS 6) 6 (S.1 6))) [12] rfl), va_K.moved hW.alike hK, kN_warm hW hN⟩⟩⟩ rfl rfl hl.1 rfl (lv_room (Nat.le_of_ble_eq_true rfl)) dX11_now_80 ⟨Nat.le_refl _, Nat.le_refl _⟩) ?_
    have hf := Option.some.inj hf
    subst hf
    exact W.iret (v := v6) hx hb hr (fun t ht hW => ⟨rfl, ht⟩) (fun _ h => nomatch h) dX11_now_83
  have hf := (if_neg hs7).symm.trans hf
  by_cases hs10 : a0 = 5
  · have hf := (if_pos hs10).symm.trans hf
    refine lv_tableIn (off := 75) (tgt := 84) hx hb dX11_now_9 (by rw [hs10]; decide) (by rw [hs10]; decide) (by rw [hs10]; decide +kernel) (by decide) ?_
    refine lv_aload_n hx hb dX11_now_84 rfl (lv_at hl 0 rfl) ?_
    refine va_getN (D := (dC, dI)) (ci := 10) (C := RX9) (T := TX9) (N := 9) hx hb hts hinX9 hown hK hP 10 rfl rfl 7 (by decide) (v := .ref (raS 7)) (va_Nw.use rfl (hN _ (List.mem_of_getElem? (i := 46) rfl))) (fun _ h9 => h9) rfl dX11_now_85 ?_
    obtain ⟨v9, hq8, hf⟩ := bo_e hf
    refine ko_call (v := some (.int v9)) (va_runS (As := [.ref (raS 7)]) (rest := []) ⟨hx, hb, hml, hown, hts⟩ (c_X11_sumOf l dC dI cs ad (raS 7) 6 (S.1 7) v9 hq8) (va_cwS 1 hts gX11_now_X11_sumOf rfl rfl rfl (by decide +kernel) ⟨Nat.le_of_ble_eq_true rfl, Nat.le_of_ble_eq_true rfl⟩) ⟨fun a U g mk q => ⟨q.1, (fun _ _ _ _ => cPr_bl) a U g mk q.2⟩, fun U hU hW => ⟨rfl, ⟨by rw [hU]; exact (hP.sub (ws' := (ww_X11_sumOf cs ad (raS 7) 6 (S.1 7))) [13] rfl), va_K.moved hW.alike hK, kN_warm hW hN⟩⟩⟩ rfl rfl hl.1 rfl (lv_room (Nat.le_of_ble_eq_true rfl)) dX11_now_88 ⟨Nat.le_refl _, Nat.le_refl _⟩) ?_
    have hf := Option.some.inj hf
    subst hf
    exact W.iret (v := v9) hx hb hr (fun t ht hW => ⟨rfl, ht⟩) (fun _ h => nomatch h) dX11_now_91
  have hf := (if_neg hs10).symm.trans hf
  by_cases hs11 : a0 = 6
  · have hf := (if_pos hs11).symm.trans hf
    refine lv_tableIn (off := 83) (tgt := 92) hx hb dX11_now_9 (by rw [hs11]; decide) (by rw [hs11]; decide) (by rw [hs11]; decide +kernel) (by decide) ?_
    refine lv_aload_n hx hb dX11_now_92 rfl (lv_at hl 0 rfl) ?_
    refine va_getN (D := (dC, dI)) (ci := 10) (C := RX9) (T := TX9) (N := 9) hx hb hts hinX9 hown hK hP 10 rfl rfl 4 (by decide) (v := .int (S.1 0 4)) (va_Nw.use rfl (hN _ (List.mem_of_getElem? (i := 41) rfl))) (fun _ h9 => h9) rfl dX11_now_93 ?_
    have hf := Option.some.inj hf
    subst hf
    exact W.iret (v := (S.1 0 4)) hx hb hr (fun t ht hW => ⟨rfl, ht⟩) (fun _ h => nomatch h) dX11_now_96
  have hf := (if_neg hs11).symm.trans hf
  by_cases hs14 : a0 = 7
  · have hf := (if_pos hs14).symm.trans hf
    refine lv_tableIn (off := 88) (tgt := 97) hx hb dX11_now_9 (by rw [hs14]; decide) (by rw [hs14]; decide) (by rw [hs14]; decide +kernel) (by decide) ?_
    refine lv_aload_n hx hb dX11_now_97 rfl (lv_at hl 0 rfl) ?_
    refine va_getN (D := (dC, dI)) (ci := 10) (C := RX9) (T := TX9) (N := 9) hx hb hts hinX9 hown hK hP 10 rfl rfl 8 (by decide) (v := .ref (raS 8)) (va_Nw.use rfl (hN _ (List.mem_of_getElem? (i := 47) rfl))) (fun _ h9 => h9) rfl dX11_now_98 ?_
    obtain ⟨v13, hq12, hf⟩ := bo_e hf
    refine ko_call (v := some (.int v13)) (va_runS (As := [.ref (raS 8)]) (rest := []) ⟨hx, hb, hml, hown, hts⟩ (c_X11_sumOf l dC dI cs ad (raS 8) 36 (S.1 8) v13 hq12) (va_cwS 1 hts gX11_now_X11_sumOf rfl rfl rfl (by decide +kernel) ⟨Nat.le_of_ble_eq_true rfl, Nat.le_of_ble_eq_true rfl⟩) ⟨fun a U g mk q => ⟨q.1, (fun _ _ _ _ => cPr_bl) a U g mk q.2⟩, fun U hU hW => ⟨rfl, ⟨by rw [hU]; exact (hP.sub (ws' := (ww_X11_sumOf cs ad (raS 8) 36 (S.1 8))) [14] rfl), va_K.moved hW.alike hK, kN_warm hW hN⟩⟩⟩ rfl rfl hl.1 rfl (lv_room (Nat.le_of_ble_eq_true rfl)) dX11_now_101 ⟨Nat.le_refl _, Nat.le_refl _⟩) ?_
    have hf := Option.some.inj hf
    subst hf
    exact W.iret (v := v13) hx hb hr (fun t ht hW => ⟨rfl, ht⟩) (fun _ h => nomatch h) dX11_now_104
  have hf := (if_neg hs14).symm.trans hf
  have hsw : a0.toInt < 0 ∨ 7 < a0.toInt := by
    have qhs1 : a0.toInt ≠ 0 := fun q => hs1 (Int32.toInt_inj.mp (q.trans (by decide)))
    have qhs2 : a0.toInt ≠ 1 := fun q => hs2 (Int32.toInt_inj.mp (q.trans (by decide)))
    have qhs3 : a0.toInt ≠ 2 := fun q => hs3 (Int32.toInt_inj.mp (q.trans (by decide)))
    have qhs4 : a0.toInt ≠ 3 := fun q => hs4 (Int32.toInt_inj.mp (q.trans (by decide)))
    have qhs7 : a0.toInt ≠ 4 := fun q => hs7 (Int32.toInt_inj.mp (q.trans (by decide)))
    have qhs10 : a0.toInt ≠ 5 := fun q => hs10 (Int32.toInt_inj.mp (q.trans (by decide)))
    have qhs11 : a0.toInt ≠ 6 := fun q => hs11 (Int32.toInt_inj.mp (q.trans (by decide)))
    have qhs14 : a0.toInt ≠ 7 := fun q => hs14 (Int32.toInt_inj.mp (q.trans (by decide)))
    omega
  refine lv_tableOut (tgt := 105) hx hb dX11_now_9 hsw (by decide) ?_
  refine lv_iconst (v := -1) hx hb dX11_now_105 (by decide) ?_
  have hf := Option.some.inj hf
  subst hf
  exact W.iret (v := (-1 : Int32)) hx hb hr (fun t ht hW => ⟨rfl, ht⟩) (fun _ h => nomatch h) dX11_now_106

def ww_X11_doOne (cs : Nat → ClassId) (ad : Nat → Nat) (raK : Nat → Nat) (raC : Nat → Nat) (raO : Nat → Nat) (raS : Nat → Nat) (raN : Nat → Nat) (raHy : Nat → Nat) (raHR : Nat) (raHS : Nat → Nat → Nat) (xK0 : Nat) (xK2 : Nat) (xK4 : Nat) (xK5 : Nat) (xK7 : Nat) (xK8 : Nat) (xK9 : Nat) (xK10 : Nat) (xK11 : Nat) (xK12 : Nat) (xK13 : Nat) (xK14 : Nat) (xK18 : Nat) (K : kD) (C : kD) (O : kD) (S : kD) (N : kD) (Hy : kD) (HS : Nat → kD) : va_W := (wX11 cs ad raK xK0 xK2 (raC 0) xK4 xK5 (raHy 0) xK7 xK8 xK9 xK10 xK11 xK12 xK13 xK14 xK18 K ++ (wX7 cs ad raC (raO 0) (raS 0) (raN 0) C ++ (wX3 cs ad raO O ++ (wX9 cs ad raS S ++ (wX8 cs ad raN N ++ (wX2 cs ad raHy raHR Hy ++ ([(raHR, .inl (cs 5, 8, .inr (.inr (.inr (.inr (fun j => some (raHS j 0)))))))] ++ (wX9x8 cs ad raHS HS))))))))
abbrev rm_X11_doOne : Room := { frames := 4, cells := 0, slots := 0, locals := 90 }
set_option maxHeartbeats 4000000 in
set_option maxRecDepth 100000 in
theorem c_X11_doOne (l : Launch) (dC : Nat → ClassId) (dI : Nat → Nat → Nat) (cs : Nat → ClassId) (ad : Nat → Nat) (raK : Nat → Nat) (raC : Nat → Nat) (raO : Nat → Nat) (raS : Nat → Nat) (raN : Nat → Nat) (raHy : Nat → Nat) (raHR : Nat) (raHS : Nat → Nat → Nat) (xK0 : Nat) (xK2 : Nat) (xK4 : Nat) (xK5 : Nat) (xK7 : Nat) (xK8 : Nat) (xK9 : Nat) (xK10 : Nat) (xK11 : Nat) (xK12 : Nat) (xK13 : Nat) (xK14 : Nat) (xK18 : Nat) (sz : Nat) (K : kD) (C : kD) (O : kD) (S : kD) (N : kD) (Hy : kD) (HS : Nat → kD) (a0 : Int32) (a1 : Int32) (a2 : Int32) (r : Int32 × kD × kD × (Nat → kD)) (hf : f_X11_doOne a0 a1 a2 K C O S N Hy HS = some r) : Met l yX11_doOne wsX11_doOne rm_X11_doOne (va_Pc [.ref (raK 0), .int a0, .int a1, .int a2] (cPw dC dI cs sz (ww_X11_doOne cs ad raK raC raO raS raN raHy raHR raHS xK0 xK2 xK4 xK5 xK7 xK8 xK9 xK10 xK11 xK12 xK13 xK14 xK18 K C O S N Hy HS))) (cQi dC dI cs (va_A (ww_X11_doOne cs ad raK raC raO raS raN raHy raHR raHS xK0 xK2 xK4 xK5 xK7 xK8 xK9 xK10 xK11 xK12 xK13 xK14 xK18 zD zD zD zD zD zD (fun _ => zD)) sz) r.1 (ww_X11_doOne cs ad raK raC raO raS raN raHy raHR raHS xK0 xK2 xK4 xK5 xK7 xK8 xK9 xK10 xK11 xK12 xK13 xK14 xK18 K C O r.2.1 N r.2.2.1 r.2.2.2)) 0 0 (va_A (ww_X11_doOne cs ad raK raC raO raS raN raHy raHR raHS xK0 xK2 xK4 xK5 xK7 xK8 xK9 xK10 xK11 xK12 xK13 xK14 xK18 zD zD zD zD zD zD (fun _ => zD)) sz) := by
  refine Met.ofW (cc := cX11_doOne) (maxL := 5) (ret := (some .int)) (by decide) rfl ?_
  intro p e s m args below meth c s₁ B hml hv
  obtain ⟨hav, hsz, hP, hK, hD0, hN⟩ := hv
  have hx := B.exec
  have hb := B.bytes
  have hr := B.returns
  have hts := atoms_spec (ws := wsX11_doOne) B.pre
  have hown : s.vm.findClass RX11 = some m.cls := findClass_of_methodNamed B.named
  have hlocks := B.notSynchronized
  subst hsz
  have hA : ∀ q, s.heap.size ≤ q → va_A (ww_X11_doOne cs ad raK raC raO raS raN raHy raHR raHS xK0 xK2 xK4 xK5 xK7 xK8 xK9 xK10 xK11 xK12 xK13 xK14 xK18 zD zD zD zD zD zD (fun _ => zD)) s.heap.size q := fun q h => Or.inr h
  have hD : va_D (va_A (ww_X11_doOne cs ad raK raC raO raS raN raHy raHR raHS xK0 xK2 xK4 xK5 xK7 xK8 xK9 xK10 xK11 xK12 xK13 xK14 xK18 zD zD zD zD zD zD (fun _ => zD)) s.heap.size) (ww_X11_doOne cs ad raK raC raO raS raN raHy raHR raHS xK0 xK2 xK4 xK5 xK7 xK8 xK9 xK10 xK11 xK12 xK13 xK14 xK18 K C O S N Hy HS) := hD0.weaken (fun k q h _ => cA_in (ws := (ww_X11_doOne cs ad raK raC raO raS raN raHy raHR raHS xK0 xK2 xK4 xK5 xK7 xK8 xK9 xK10 xK11 xK12 xK13 xK14 xK18 K C O S N Hy HS)) (ws' := (ww_X11_doOne cs ad raK raC raO raS raN raHy raHR raHS xK0 xK2 xK4 xK5 xK7 xK8 xK9 xK10 xK11 xK12 xK13 xK14 xK18 zD zD zD zD zD zD (fun _ => zD))) rfl h)
  have hS : va_S (va_A (ww_X11_doOne cs ad raK raC raO raS raN raHy raHR raHS xK0 xK2 xK4 xK5 xK7 xK8 xK9 xK10 xK11 xK12 xK13 xK14 xK18 zD zD zD zD zD zD (fun _ => zD)) s.heap.size) s.heap s.heap [] := va_S.rf
  have hinX11 := (show ∀ w ∈ wsX110, w ∈ wsX11_doOne from fun w h => List.mem_cons_of_mem _ (List.mem_append_left _ (List.mem_append_left _ (List.mem_append_left _ (List.mem_append_left _ (List.mem_append_right _ h))))))
  have hinX7 := (show ∀ w ∈ wsX70, w ∈ wsX11_doOne from fun w h => List.mem_cons_of_mem _ (List.mem_append_left _ (List.mem_append_left _ (List.mem_append_left _ (List.mem_append_right _ h)))))
  have k_fieldLink_RX11_23__KeyLetters___scene___LKeyLetters_Scene__ := hts (.fieldLink RX11 23 "KeyLetters" "scene" "LKeyLetters$Scene;") (List.mem_of_getElem? (i := 1) rfl)
  have k_initialized_RX2 := hts (.initialized RX2) (List.mem_of_getElem? (i := 56) rfl)
  have k_initialized_RX9 := hts (.initialized RX9) (List.mem_of_getElem? (i := 4) rfl)
  have k_instanceMethod_yX2_keep := hts (.instanceMethod yX2_keep) (List.mem_of_getElem? (i := 55) rfl)
  have k_instanceMethod_yX9_perform := hts (.instanceMethod yX9_perform) (List.mem_of_getElem? (i := 72) rfl)
  have k_instanceMethod_yX9_whyNot := hts (.instanceMethod yX9_whyNot) (List.mem_of_getElem? (i := 3) rfl)
  have k_selects_RX2_yX2_keep_yX2_keep := hts (.selects RX2 yX2_keep yX2_keep) (List.mem_of_getElem? (i := 57) rfl)
  have k_selects_RX9_yX9_perform_yX9_perform := hts (.selects RX9 yX9_perform yX9_perform) (List.mem_of_getElem? (i := 73) rfl)
  have k_selects_RX9_yX9_whyNot_yX9_whyNot := hts (.selects RX9 yX9_whyNot yX9_whyNot) (List.mem_of_getElem? (i := 5) rfl)
  have kldLink_RX11_38__KeyLetters___history___LKeyLetters_History__ := hts (.fieldLink RX11 38 "KeyLetters" "history" "LKeyLetters$History;") (List.mem_of_getElem? (i := 2) rfl)
  have hl := lv_entry ([.ref (raK 0), .int a0, .int a1, .int a2]) (n := 5) (Nat.le_of_ble_eq_true rfl)
  rw [show entryFrame m args 5 = entryFrame m ([.ref (raK 0), .int a0, .int a1, .int a2] : List Value).toArray 5 from by rw [hav], lg_entry_eq]
  generalize (lg_sl ([.ref (raK 0), .int a0, .int a1, .int a2]) ++ List.replicate (5 - (lg_sl ([.ref (raK 0), .int a0, .int a1, .int a2])).length) Slot.unset).toArray = ls at hl ⊢
  have hl : lv_has ls 5 [(0, .ref (raK 0)), (1, .int a0), (2, .int a1), (3, .int a2)] := hl
  unfold f_X11_doOne at hf
  refine lv_aload_n hx hb dX11_doOne_0 rfl (lv_at hl 0 rfl) ?_
  refine va_get (D := (dC, dI)) (ci := 11) (C := RX11) (T := TX11) (N := 19) hx hb hts hinX11 hown hK hP 0 rfl rfl 3 (by decide) (v := .ref (raC 0)) k_fieldLink_RX11_23__KeyLetters___scene___LKeyLetters_Scene__ (fun _ h9 => h9) rfl dX11_doOne_1 ?_
  refine va_getN (D := (dC, dI)) (ci := 8) (C := RX7) (T := TX7) (N := 3) hx hb hts hinX7 hown hK hP 1 rfl rfl 1 (by decide) (v := .ref (raS 0)) (va_Nw.use rfl (hN _ (List.mem_of_getElem? (i := 51) rfl))) (fun _ h9 => h9) rfl dX11_doOne_4 ?_
  refine lv_aload_n hx hb dX11_doOne_7 rfl (lv_at hl 0 rfl) ?_
  refine va_get (D := (dC, dI)) (ci := 11) (C := RX11) (T := TX11) (N := 19) hx hb hts hinX11 hown hK hP 0 rfl rfl 3 (by decide) (v := .ref (raC 0)) k_fieldLink_RX11_23__KeyLetters___scene___LKeyLetters_Scene__ (fun _ h9 => h9) rfl dX11_doOne_8 ?_
  refine va_getN (D := (dC, dI)) (ci := 8) (C := RX7) (T := TX7) (N := 3) hx hb hts hinX7 hown hK hP 1 rfl rfl 0 (by decide) (v := .ref (raO 0)) (va_Nw.use rfl (hN _ (List.mem_of_getElem? (i := 50) rfl))) (fun _ h9 => h9) rfl dX11_doOne_11 ?_
  refine lv_iload_n hx hb dX11_doOne_14 rfl (lv_at hl 1 rfl) ?_
  refine lv_iload_n hx hb dX11_doOne_15 rfl (lv_at hl 2 rfl) ?_
  refine lv_iload_n hx hb dX11_doOne_16 rfl (lv_at hl 3 rfl) ?_
  obtain ⟨v2, hq1, hf⟩ := bo_e hf
  refine ko_call (v := some (.int v2)) (va_runVN (As := [.ref (raO 0), .int a0, .int a1, .int a2]) (rest := []) ⟨hx, hb, hml, hown, hts⟩ (c_X9_whyNot l dC dI cs ad raS raO S O a0 a1 a2 v2 hq1) ⟨va_cnB 4 hts gX11_doOne_X9_whyNot_n405 rfl rfl rfl (hN _ (List.mem_of_getElem? (i := 95) rfl)) k_initialized_RX9 (by decide +kernel) ⟨Nat.le_of_ble_eq_true rfl, Nat.le_of_ble_eq_true rfl⟩, k_instanceMethod_yX9_whyNot, k_selects_RX9_yX9_whyNot_yX9_whyNot⟩ ⟨fun a U g mk q => ⟨q.1, (fun _ _ _ _ => cPr_bl) a U g mk q.2⟩, va_recv hK hP (ci := 10) (q0 := 10) rfl rfl, fun U hU hW => ⟨rfl, ⟨by rw [hU]; exact (hP.sub (ws' := (ww_X9_whyNot cs ad raS raO S O)) [10, 11, 12, 13, 14, 2, 3, 4, 5, 6, 7, 8, 9] rfl), va_K.moved hW.alike hK, kN_warm hW hN⟩⟩⟩ rfl rfl hl.1 rfl (lv_room (Nat.le_of_ble_eq_true rfl)) dX11_doOne_17 ⟨Nat.le_refl _, Nat.le_refl _⟩) ?_
  refine lv_istore (nL := 5) (lv' := [(4, .int v2), (0, .ref (raK 0)), (1, .int a0), (2, .int a1), (3, .int a2)]) hx hb dX11_doOne_20 hl (by decide) rfl (fun ls hl => ?_)
  refine lv_iload hx hb dX11_doOne_22 (lv_at hl 0 rfl) ?_
  refine lv_if_ne (tgt := 61) hx hb dX11_doOne_24 (by decide) (fun hb8 => ?_) (fun hb8 => ?_)
  · have hf := (if_neg hb8).symm.trans hf
    refine lv_iload hx hb dX11_doOne_61 (lv_at hl 0 rfl) ?_
    have hf := Option.some.inj hf
    subst hf
    exact c_iret (v := v2) hx hb hr hlocks hP hK hD hS dX11_doOne_63
  · have hf := (if_pos hb8).symm.trans hf
    refine lv_aload_n hx hb dX11_doOne_27 rfl (lv_at hl 1 rfl) ?_
    refine va_get (D := (dC, dI)) (ci := 11) (C := RX11) (T := TX11) (N := 19) hx hb hts hinX11 hown hK hP 0 rfl rfl 6 (by decide) (v := .ref (raHy 0)) kldLink_RX11_38__KeyLetters___history___LKeyLetters_History__ (fun _ h9 => h9) rfl dX11_doOne_28 ?_
    refine lv_aload_n hx hb dX11_doOne_31 rfl (lv_at hl 1 rfl) ?_
    refine va_get (D := (dC, dI)) (ci := 11) (C := RX11) (T := TX11) (N := 19) hx hb hts hinX11 hown hK hP 0 rfl rfl 3 (by decide) (v := .ref (raC 0)) k_fieldLink_RX11_23__KeyLetters___scene___LKeyLetters_Scene__ (fun _ h9 => h9) rfl dX11_doOne_32 ?_
    refine va_getN (D := (dC, dI)) (ci := 8) (C := RX7) (T := TX7) (N := 3) hx hb hts hinX7 hown hK hP 1 rfl rfl 1 (by decide) (v := .ref (raS 0)) (va_Nw.use rfl (hN _ (List.mem_of_getElem? (i := 51) rfl))) (fun _ h9 => h9) rfl dX11_doOne_35 ?_
    obtain ⟨Hyv4, HSv5, hq3, hf⟩ := bo2_e hf
    refine g_callv (isC := [20, 21, 22, 23, 24, 25, 26, 27, 28, 29, 30, 31, 32, 33, 34, 35, 36, 37, 38, 39, 40, 41, 42, 43, 44, 45, 46, 47, 48, 49, 50, 51, 52, 53, 54, 55, 56, 57, 58, 59, 60, 61, 10, 11, 12, 13, 14]) (isR := [0, 1, 2, 3, 4, 5, 6, 7, 8, 9, 15, 16, 17, 18, 19]) (wc := (ww_X2_keep cs ad raHy raHR raHS raS Hy HS S)) (wz := (ww_X2_keep cs ad raHy raHR raHS raS zD (fun _ => zD) zD)) (w1 := (ww_X2_keep cs ad raHy raHR raHS raS Hyv4 HSv5 S)) (ws' := (ww_X11_doOne cs ad raK raC raO raS raN raHy raHR raHS xK0 xK2 xK4 xK5 xK7 xK8 xK9 xK10 xK11 xK12 xK13 xK14 xK18 K C O S N Hyv4 HSv5)) (va_runVN (As := [.ref (raS 0)]) (rest := []) ⟨hx, hb, hml, hown, hts⟩ (c_X2_keep l dC dI cs ad raHy raHR raHS raS _ Hy HS S (Hyv4, HSv5) hq3) ⟨va_cnB 1 hts gX11_doOne_X2_keep_n241 rfl rfl rfl (hN _ (List.mem_of_getElem? (i := 101) rfl)) k_initialized_RX2 (by decide +kernel) ⟨Nat.le_of_ble_eq_true rfl, Nat.le_of_ble_eq_true rfl⟩, k_instanceMethod_yX2_keep, k_selects_RX2_yX2_keep_yX2_keep⟩ ⟨fun a U g mk q => ⟨q.1, (fun _ _ _ _ => cPw_bl) a U g mk q.2⟩, va_recv hK hP (ci := 3) (q0 := 20) rfl rfl, fun U hU hW => ⟨rfl, ⟨by rw [hU], by rw [hU]; exact (hP.sub (ws' := (ww_X2_keep cs ad raHy raHR raHS raS Hy HS S)) [20, 21, 22, 23, 24, 25, 26, 27, 28, 29, 30, 31, 32, 33, 34, 35, 36, 37, 38, 39, 40, 41, 42, 43, 44, 45, 46, 47, 48, 49, 50, 51, 52, 53, 54, 55, 56, 57, 58, 59, 60, 61, 10, 11, 12, 13, 14] rfl), va_K.moved hW.alike hK, (hD.sub (ws' := (ww_X2_keep cs ad raHy raHR raHS raS Hy HS S)) [20, 21, 22, 23, 24, 25, 26, 27, 28, 29, 30, 31, 32, 33, 34, 35, 36, 37, 38, 39, 40, 41, 42, 43, 44, 45, 46, 47, 48, 49, 50, 51, 52, 53, 54, 55, 56, 57, 58, 59, 60, 61, 10, 11, 12, 13, 14] (by decide) rfl).weaken (fun _ _ _ _ => trivial), kN_warm hW hN⟩⟩⟩ rfl rfl hl.1 rfl (lv_room (Nat.le_of_ble_eq_true rfl)) dX11_doOne_38 ⟨Nat.le_refl _, Nat.le_refl _⟩) hP hD hS hA rfl rfl (wr := ((wX11 cs ad raK xK0 xK2 (raC 0) xK4 xK5 (raHy 0) xK7 xK8 xK9 xK10 xK11 xK12 xK13 xK14 xK18 K) ++ ((wX7 cs ad raC (raO 0) (raS 0) (raN 0) C) ++ ((wX3 cs ad raO O) ++ ((wX8 cs ad raN N)))))) rfl rfl rfl (nw := 62) rfl (by decide +kernel) rfl (fun H locs hP hD hS => ?_)
    refine lv_aload_n hx hb dX11_doOne_41 rfl (lv_at hl 1 rfl) ?_
    refine va_get (D := (dC, dI)) (ci := 11) (C := RX11) (T := TX11) (N := 19) hx hb hts hinX11 hown hK hP 0 rfl rfl 3 (by decide) (v := .ref (raC 0)) k_fieldLink_RX11_23__KeyLetters___scene___LKeyLetters_Scene__ (fun _ h9 => h9) rfl dX11_doOne_42 ?_
    refine va_getN (D := (dC, dI)) (ci := 8) (C := RX7) (T := TX7) (N := 3) hx hb hts hinX7 hown hK hP 1 rfl rfl 1 (by decide) (v := .ref (raS 0)) (va_Nw.use rfl (hN _ (List.mem_of_getElem? (i := 51) rfl))) (fun _ h9 => h9) rfl dX11_doOne_45 ?_
    refine lv_aload_n hx hb dX11_doOne_48 rfl (lv_at hl 1 rfl) ?_
    refine va_get (D := (dC, dI)) (ci := 11) (C := RX11) (T := TX11) (N := 19) hx hb hts hinX11 hown hK hP 0 rfl rfl 3 (by decide) (v := .ref (raC 0)) k_fieldLink_RX11_23__KeyLetters___scene___LKeyLetters_Scene__ (fun _ h9 => h9) rfl dX11_doOne_49 ?_
    refine va_getN (D := (dC, dI)) (ci := 8) (C := RX7) (T := TX7) (N := 3) hx hb hts hinX7 hown hK hP 1 rfl rfl 0 (by decide) (v := .ref (raO 0)) (va_Nw.use rfl (hN _ (List.mem_of_getElem? (i := 50) rfl))) (fun _ h9 => h9) rfl dX11_doOne_52 ?_
    refine lv_iload_n hx hb dX11_doOne_55 rfl (lv_at hl 2 rfl) ?_
    refine lv_iload_n hx hb dX11_doOne_56 rfl (lv_at hl 3 rfl) ?_
    refine lv_iload_n hx hb dX11_doOne_57 rfl (lv_at hl 4 rfl) ?_
    obtain ⟨Sv7, hq6, hf⟩ := bo_e hf
    refine g_callv (isC := [10, 11, 12, 13, 14, 2, 3, 4, 5, 6, 7, 8, 9]) (isR := [0, 1, 15, 16, 17, 18, 19, 20, 21, 22, 23, 24, 25, 26, 27, 28, 29, 30, 31, 32, 33, 34, 35, 36, 37, 38, 39, 40, 41, 42, 43, 44, 45, 46, 47, 48, 49, 50, 51, 52, 53, 54, 55, 56, 57, 58, 59, 60, 61]) (wc := (ww_X9_perform cs ad raS raO S O)) (wz := (ww_X9_perform cs ad raS raO zD zD)) (w1 := (ww_X9_perform cs ad raS raO Sv7 O)) (ws' := (ww_X11_doOne cs ad raK raC raO raS raN raHy raHR raHS xK0 xK2 xK4 xK5 xK7 xK8 xK9 xK10 xK11 xK12 xK13 xK14 xK18 K C O Sv7 N Hyv4 HSv5)) (va_runVN (As := [.ref (raO 0), .int a0, .int a1, .int a2]) (rest := []) ⟨hx, hb, hml, hown, hts⟩ (c_X9_perform l dC dI cs ad raS raO _ S O a0 a1 a2 Sv7 hq6) ⟨va_cnB 4 hts gX11_doOne_X9_perform_n409 rfl rfl rfl (hN _ (List.mem_of_getElem? (i := 103) rfl)) k_initialized_RX9 (by decide +kernel) ⟨Nat.le_of_ble_eq_true rfl, Nat.le_of_ble_eq_true rfl⟩, k_instanceMethod_yX9_perform, k_selects_RX9_yX9_perform_yX9_perform⟩ ⟨fun a U g mk q => ⟨q.1, (fun _ _ _ _ => cPw_bl) a U g mk q.2⟩, va_recv hK hP (ci := 10) (q0 := 10) rfl rfl, fun U hU hW => ⟨rfl, ⟨by rw [hU], by rw [hU]; exact (hP.sub (ws' := (ww_X9_perform cs ad raS raO S O)) [10, 11, 12, 13, 14, 2, 3, 4, 5, 6, 7, 8, 9] rfl), va_K.moved hW.alike hK, (hD.sub (ws' := (ww_X9_perform cs ad raS raO S O)) [10, 11, 12, 13, 14, 2, 3, 4, 5, 6, 7, 8, 9] (by decide) rfl).weaken (fun _ _ _ _ => trivial), kN_warm hW hN⟩⟩⟩ rfl rfl hl.1 rfl (lv_room (Nat.le_of_ble_eq_true rfl)) dX11_doOne_58 ⟨Nat.le_refl _, Nat.le_refl _⟩) hP hD hS hA rfl rfl (wr := ((wX11 cs ad raK xK0 xK2 (raC 0) xK4 xK5 (raHy 0) xK7 xK8 xK9 xK10 xK11 xK12 xK13 xK14 xK18 K) ++ ((wX7 cs ad raC (raO 0) (raS 0) (raN 0) C) ++ ((wX8 cs ad raN N) ++ ((wX2 cs ad raHy raHR Hyv4) ++ (([(raHR, .inl (cs 5, 8, .inr (.inr (.inr (.inr (fun j => some (raHS j 0)))))))]) ++ ((wX9x8 cs ad raHS HSv5)))))))) rfl rfl rfl (nw := 62) rfl (by decide +kernel) rfl (fun H locs hP hD hS => ?_)
    refine lv_iload hx hb dX11_doOne_61 (lv_at hl 0 rfl) ?_
    have hf := Option.some.inj hf
    subst hf
    exact c_iret (v := v2) hx hb hr hlocks hP hK hD hS dX11_doOne_63

def ww_X11_write (cs : Nat → ClassId) (ad : Nat → Nat) (raK : Nat → Nat) (raC : Nat → Nat) (raO : Nat → Nat) (raS : Nat → Nat) (raN : Nat → Nat) (raHy : Nat → Nat) (raHR : Nat) (raHS : Nat → Nat → Nat) (xK0 : Nat) (xK2 : Nat) (xK4 : Nat) (xK5 : Nat) (xK7 : Nat) (xK8 : Nat) (xK9 : Nat) (xK10 : Nat) (xK11 : Nat) (xK12 : Nat) (xK13 : Nat) (xK14 : Nat) (xK18 : Nat) (K : kD) (C : kD) (O : kD) (S : kD) (N : kD) (Hy : kD) (HS : Nat → kD) : va_W := (wX11 cs ad raK xK0 xK2 (raC 0) xK4 xK5 (raHy 0) xK7 xK8 xK9 xK10 xK11 xK12 xK13 xK14 xK18 K ++ (wX7 cs ad raC (raO 0) (raS 0) (raN 0) C ++ (wX3 cs ad raO O ++ (wX9 cs ad raS S ++ (wX8 cs ad raN N ++ (wX2 cs ad raHy raHR Hy ++ ([(raHR, .inl (cs 5, 8, .inr (.inr (.inr (.inr (fun j => some (raHS j 0)))))))] ++ (wX9x8 cs ad raHS HS))))))))
abbrev rm_X11_write : Room := { frames := 5, cells := 0, slots := 0, locals := 114 }
set_option maxHeartbeats 4000000 in
set_option maxRecDepth 100000 in
theorem c_X11_write (l : Launch) (dC : Nat → ClassId) (dI : Nat → Nat → Nat) (cs : Nat → ClassId) (ad : Nat → Nat) (raK : Nat → Nat) (raC : Nat → Nat) (raO : Nat → Nat) (raS : Nat → Nat) (raN : Nat → Nat) (raHy : Nat → Nat) (raHR : Nat) (raHS : Nat → Nat → Nat) (xK0 : Nat) (xK2 : Nat) (xK4 : Nat) (xK5 : Nat) (xK7 : Nat) (xK8 : Nat) (xK9 : Nat) (xK10 : Nat) (xK11 : Nat) (xK12 : Nat) (xK13 : Nat) (xK14 : Nat) (xK18 : Nat) (sz : Nat) (K : kD) (C : kD) (O : kD) (S : kD) (N : kD) (Hy : kD) (HS : Nat → kD) (a0 : Int32) (a1 : Int32) (r : Int32 × kD × kD × (Nat → kD)) (hf : f_X11_write a0 a1 K C O S N Hy HS = some r) : Met l yX11_write wsX11_write rm_X11_write (va_Pc [.ref (raK 0), .int a0, .int a1] (cPw dC dI cs sz (ww_X11_write cs ad raK raC raO raS raN raHy raHR raHS xK0 xK2 xK4 xK5 xK7 xK8 xK9 xK10 xK11 xK12 xK13 xK14 xK18 K C O S N Hy HS))) (cQi dC dI cs (va_A (ww_X11_write cs ad raK raC raO raS raN raHy raHR raHS xK0 xK2 xK4 xK5 xK7 xK8 xK9 xK10 xK11 xK12 xK13 xK14 xK18 zD zD zD zD zD zD (fun _ => zD)) sz) r.1 (ww_X11_write cs ad raK raC raO raS raN raHy raHR raHS xK0 xK2 xK4 xK5 xK7 xK8 xK9 xK10 xK11 xK12 xK13 xK14 xK18 K C O r.2.1 N r.2.2.1 r.2.2.2)) 0 0 (va_A (ww_X11_write cs ad raK raC raO raS raN raHy raHR raHS xK0 xK2 xK4 xK5 xK7 xK8 xK9 xK10 xK11 xK12 xK13 xK14 xK18 zD zD zD zD zD zD (fun _ => zD)) sz) := by
  refine Met.ofW (cc := cX11_write) (maxL := 3) (ret := (some .int)) (by decide) rfl ?_
  intro p e s m args below meth c s₁ B hml hv
  obtain ⟨hav, hsz, hP, hK, hD0, hN⟩ := hv
  have hx := B.exec
  have hb := B.bytes
  have hr := B.returns
  have hts := atoms_spec (ws := wsX11_write) B.pre
  have hown : s.vm.findClass RX11 = some m.cls := findClass_of_methodNamed B.named
  have hlocks := B.notSynchronized
  subst hsz
  have hA : ∀ q, s.heap.size ≤ q → va_A (ww_X11_write cs ad raK raC raO raS raN raHy raHR raHS xK0 xK2 xK4 xK5 xK7 xK8 xK9 xK10 xK11 xK12 xK13 xK14 xK18 zD zD zD zD zD zD (fun _ => zD)) s.heap.size q := fun q h => Or.inr h
  have hD : va_D (va_A (ww_X11_write cs ad raK raC raO raS raN raHy raHR raHS xK0 xK2 xK4 xK5 xK7 xK8 xK9 xK10 xK11 xK12 xK13 xK14 xK18 zD zD zD zD zD zD (fun _ => zD)) s.heap.size) (ww_X11_write cs ad raK raC raO raS raN raHy raHR raHS xK0 xK2 xK4 xK5 xK7 xK8 xK9 xK10 xK11 xK12 xK13 xK14 xK18 K C O S N Hy HS) := hD0.weaken (fun k q h _ => cA_in (ws := (ww_X11_write cs ad raK raC raO raS raN raHy raHR raHS xK0 xK2 xK4 xK5 xK7 xK8 xK9 xK10 xK11 xK12 xK13 xK14 xK18 K C O S N Hy HS)) (ws' := (ww_X11_write cs ad raK raC raO raS raN raHy raHR raHS xK0 xK2 xK4 xK5 xK7 xK8 xK9 xK10 xK11 xK12 xK13 xK14 xK18 zD zD zD zD zD zD (fun _ => zD))) rfl h)
  have hS : va_S (va_A (ww_X11_write cs ad raK raC raO raS raN raHy raHR raHS xK0 xK2 xK4 xK5 xK7 xK8 xK9 xK10 xK11 xK12 xK13 xK14 xK18 zD zD zD zD zD zD (fun _ => zD)) s.heap.size) s.heap s.heap [] := va_S.rf
  have hl := lv_entry ([.ref (raK 0), .int a0, .int a1]) (n := 3) (Nat.le_of_ble_eq_true rfl)
  rw [show entryFrame m args 3 = entryFrame m ([.ref (raK 0), .int a0, .int a1] : List Value).toArray 3 from by rw [hav], lg_entry_eq]
  generalize (lg_sl ([.ref (raK 0), .int a0, .int a1]) ++ List.replicate (3 - (lg_sl ([.ref (raK 0), .int a0, .int a1])).length) Slot.unset).toArray = ls at hl ⊢
  have hl : lv_has ls 3 [(0, .ref (raK 0)), (1, .int a0), (2, .int a1)] := hl
  unfold f_X11_write at hf
  refine lv_aload_n hx hb dX11_write_0 rfl (lv_at hl 0 rfl) ?_
  refine lv_iconst (v := 0) hx hb dX11_write_1 (by decide) ?_
  refine lv_iload_n hx hb dX11_write_2 rfl (lv_at hl 1 rfl) ?_
  refine lv_iload_n hx hb dX11_write_3 rfl (lv_at hl 2 rfl) ?_
  obtain ⟨v2, Sv3, Hyv4, HSv5, hq1, hf⟩ := bo4_e hf
  refine g_callw (isC := [0, 1, 2, 3, 4, 5, 6, 7, 8, 9, 10, 11, 12, 13, 14, 15, 16, 17, 18, 19, 20, 21, 22, 23, 24, 25, 26, 27, 28, 29, 30, 31, 32, 33, 34, 35, 36, 37, 38, 39, 40, 41, 42, 43, 44, 45, 46, 47, 48, 49, 50, 51, 52, 53, 54, 55, 56, 57, 58, 59, 60, 61]) (isR := []) (wc := (ww_X11_doOne cs ad raK raC raO raS raN raHy raHR raHS xK0 xK2 xK4 xK5 xK7 xK8 xK9 xK10 xK11 xK12 xK13 xK14 xK18 K C O S N Hy HS)) (wz := (ww_X11_doOne cs ad raK raC raO raS raN raHy raHR raHS xK0 xK2 xK4 xK5 xK7 xK8 xK9 xK10 xK11 xK12 xK13 xK14 xK18 zD zD zD zD zD zD (fun _ => zD))) (w1 := (ww_X11_doOne cs ad raK raC raO raS raN raHy raHR raHS xK0 xK2 xK4 xK5 xK7 xK8 xK9 xK10 xK11 xK12 xK13 xK14 xK18 K C O Sv3 N Hyv4 HSv5)) (ws' := (ww_X11_write cs ad raK raC raO raS raN raHy raHR raHS xK0 xK2 xK4 xK5 xK7 xK8 xK9 xK10 xK11 xK12 xK13 xK14 xK18 K C O Sv3 N Hyv4 HSv5)) (v := v2) (va_runV (As := [.int (0 : Int32), .int a0, .int a1]) (rest := []) ⟨hx, hb, hml, hown, hts⟩ (c_X11_doOne l dC dI cs ad raK raC raO raS raN raHy raHR raHS xK0 xK2 xK4 xK5 xK7 xK8 xK9 xK10 xK11 xK12 xK13 xK14 xK18 _ K C O S N Hy HS (0 : Int32) a0 a1 (v2, Sv3, Hyv4, HSv5) hq1) (cwV 3 hts gX11_write_X11_doOne rfl rfl rfl (by decide +kernel) ⟨Nat.le_of_ble_eq_true rfl, Nat.le_of_ble_eq_true rfl⟩) ⟨fun a U g mk q => ⟨q.1, (fun _ _ _ _ => cPw_bl) a U g mk q.2⟩, va_recv hK hP (ci := 11) (q0 := 0) rfl rfl, fun U hU hW => ⟨rfl, ⟨by rw [hU], by rw [hU]; exact (hP.sub (ws' := (ww_X11_doOne cs ad raK raC raO raS raN raHy raHR raHS xK0 xK2 xK4 xK5 xK7 xK8 xK9 xK10 xK11 xK12 xK13 xK14 xK18 K C O S N Hy HS)) [0, 1, 2, 3, 4, 5, 6, 7, 8, 9, 10, 11, 12, 13, 14, 15, 16, 17, 18, 19, 20, 21, 22, 23, 24, 25, 26, 27, 28, 29, 30, 31, 32, 33, 34, 35, 36, 37, 38, 39, 40, 41, 42, 43, 44, 45, 46, 47, 48, 49, 50, 51, 52, 53, 54, 55, 56, 57, 58, 59, 60, 61] rfl), va_K.moved hW.alike hK, (hD.sub (ws' := (ww_X11_doOne cs ad raK raC raO raS raN raHy raHR raHS xK0 xK2 xK4 xK5 xK7 xK8 xK9 xK10 xK11 xK12 xK13 xK14 xK18 K C O S N Hy HS)) [0, 1, 2, 3, 4, 5, 6, 7, 8, 9, 10, 11, 12, 13, 14, 15, 16, 17, 18, 19, 20, 21, 22, 23, 24, 25, 26, 27, 28, 29, 30, 31, 32, 33, 34, 35, 36, 37, 38, 39, 40, 41, 42, 43, 44, 45, 46, 47, 48, 49, 50, 51, 52, 53, 54, 55, 56, 57, 58, 59, 60, 61] (by decide) rfl).weaken (fun _ _ _ _ => trivial), kN_warm hW hN⟩⟩⟩ rfl rfl hl.1 rfl (lv_room (Nat.le_of_ble_eq_true rfl)) dX11_write_4 ⟨Nat.le_refl _, Nat.le_refl _⟩) hP hD hS hA rfl rfl (wr := ([] : va_W)) rfl rfl rfl (nw := 62) rfl (by decide +kernel) rfl (fun H locs hP hD hS => ?_)
  have hf := Option.some.inj hf
  subst hf
  exact c_iret (v := v2) hx hb hr hlocks hP hK hD hS dX11_write_7

def ww_X11_sit (cs : Nat → ClassId) (ad : Nat → Nat) (raK : Nat → Nat) (raC : Nat → Nat) (raO : Nat → Nat) (raS : Nat → Nat) (raN : Nat → Nat) (raHy : Nat → Nat) (raHR : Nat) (raHS : Nat → Nat → Nat) (xK0 : Nat) (xK2 : Nat) (xK4 : Nat) (xK5 : Nat) (xK7 : Nat) (xK8 : Nat) (xK9 : Nat) (xK10 : Nat) (xK11 : Nat) (xK12 : Nat) (xK13 : Nat) (xK14 : Nat) (xK18 : Nat) (K : kD) (C : kD) (O : kD) (S : kD) (N : kD) (Hy : kD) (HS : Nat → kD) : va_W := (wX11 cs ad raK xK0 xK2 (raC 0) xK4 xK5 (raHy 0) xK7 xK8 xK9 xK10 xK11 xK12 xK13 xK14 xK18 K ++ (wX7 cs ad raC (raO 0) (raS 0) (raN 0) C ++ (wX3 cs ad raO O ++ (wX9 cs ad raS S ++ (wX8 cs ad raN N ++ (wX2 cs ad raHy raHR Hy ++ ([(raHR, .inl (cs 5, 8, .inr (.inr (.inr (.inr (fun j => some (raHS j 0)))))))] ++ (wX9x8 cs ad raHS HS))))))))
abbrev rm_X11_sit : Room := { frames := 5, cells := 0, slots := 0, locals := 114 }
set_option maxHeartbeats 4000000 in
set_option maxRecDepth 100000 in
theorem c_X11_sit (l : Launch) (dC : Nat → ClassId) (dI : Nat → Nat → Nat) (cs : Nat → ClassId) (ad : Nat → Nat) (raK : Nat → Nat) (raC : Nat → Nat) (raO : Nat → Nat) (raS : Nat → Nat) (raN : Nat → Nat) (raHy : Nat → Nat) (raHR : Nat) (raHS : Nat → Nat → Nat) (xK0 : Nat) (xK2 : Nat) (xK4 : Nat) (xK5 : Nat) (xK7 : Nat) (xK8 : Nat) (xK9 : Nat) (xK10 : Nat) (xK11 : Nat) (xK12 : Nat) (xK13 : Nat) (xK14 : Nat) (xK18 : Nat) (sz : Nat) (K : kD) (C : kD) (O : kD) (S : kD) (N : kD) (Hy : kD) (HS : Nat → kD) (a0 : Int32) (r : Int32 × kD × kD × (Nat → kD)) (hf : f_X11_sit a0 K C O S N Hy HS = some r) : Met l yX11_sit wsX11_sit rm_X11_sit (va_Pc [.ref (raK 0), .int a0] (cPw dC dI cs sz (ww_X11_sit cs ad raK raC raO raS raN raHy raHR raHS xK0 xK2 xK4 xK5 xK7 xK8 xK9 xK10 xK11 xK12 xK13 xK14 xK18 K C O S N Hy HS))) (cQi dC dI cs (va_A (ww_X11_sit cs ad raK raC raO raS raN raHy raHR raHS xK0 xK2 xK4 xK5 xK7 xK8 xK9 xK10 xK11 xK12 xK13 xK14 xK18 zD zD zD zD zD zD (fun _ => zD)) sz) r.1 (ww_X11_sit cs ad raK raC raO raS raN raHy raHR raHS xK0 xK2 xK4 xK5 xK7 xK8 xK9 xK10 xK11 xK12 xK13 xK14 xK18 K C O r.2.1 N r.2.2.1 r.2.2.2)) 0 0 (va_A (ww_X11_sit cs ad raK raC raO raS raN raHy raHR raHS xK0 xK2 xK4 xK5 xK7 xK8 xK9 xK10 xK11 xK12 xK13 xK14 xK18 zD zD zD zD zD zD (fun _ => zD)) sz) := by
  refine Met.ofW (cc := cX11_sit) (maxL := 2) (ret := (some .int)) (by decide) rfl ?_
  intro p e s m args below meth c s₁ B hml hv
  obtain ⟨hav, hsz, hP, hK, hD0, hN⟩ := hv
  have hx := B.exec
  have hb := B.bytes
  have hr := B.returns
  have hts := atoms_spec (ws := wsX11_sit) B.pre
  have hown : s.vm.findClass RX11 = some m.cls := findClass_of_methodNamed B.named
  have hlocks := B.notSynchronized
  subst hsz
  have hA : ∀ q, s.heap.size ≤ q → va_A (ww_X11_sit cs ad raK raC raO raS raN raHy raHR raHS xK0 xK2 xK4 xK5 xK7 xK8 xK9 xK10 xK11 xK12 xK13 xK14 xK18 zD zD zD zD zD zD (fun _ => zD)) s.heap.size q := fun q h => Or.inr h
  have hD : va_D (va_A (ww_X11_sit cs ad raK raC raO raS raN raHy raHR raHS xK0 xK2 xK4 xK5 xK7 xK8 xK9 xK10 xK11 xK12 xK13 xK14 xK18 zD zD zD zD zD zD (fun _ => zD)) s.heap.size) (ww_X11_sit cs ad raK raC raO raS raN raHy raHR raHS xK0 xK2 xK4 xK5 xK7 xK8 xK9 xK10 xK11 xK12 xK13 xK14 xK18 K C O S N Hy HS) := hD0.weaken (fun k q h _ => cA_in (ws := (ww_X11_sit cs ad raK raC raO raS raN raHy raHR raHS xK0 xK2 xK4 xK5 xK7 xK8 xK9 xK10 xK11 xK12 xK13 xK14 xK18 K C O S N Hy HS)) (ws' := (ww_X11_sit cs ad raK raC raO raS raN raHy raHR raHS xK0 xK2 xK4 xK5 xK7 xK8 xK9 xK10 xK11 xK12 xK13 xK14 xK18 zD zD zD zD zD zD (fun _ => zD))) rfl h)
  have hS : va_S (va_A (ww_X11_sit cs ad raK raC raO raS raN raHy raHR raHS xK0 xK2 xK4 xK5 xK7 xK8 xK9 xK10 xK11 xK12 xK13 xK14 xK18 zD zD zD zD zD zD (fun _ => zD)) s.heap.size) s.heap s.heap [] := va_S.rf
  have hl := lv_entry ([.ref (raK 0), .int a0]) (n := 2) (Nat.le_of_ble_eq_true rfl)
  rw [show entryFrame m args 2 = entryFrame m ([.ref (raK 0), .int a0] : List Value).toArray 2 from by rw [hav], lg_entry_eq]
  generalize (lg_sl ([.ref (raK 0), .int a0]) ++ List.replicate (2 - (lg_sl ([.ref (raK 0), .int a0])).length) Slot.unset).toArray = ls at hl ⊢
  have hl : lv_has ls 2 [(0, .ref (raK 0)), (1, .int a0)] := hl
  unfold f_X11_sit at hf
  refine lv_aload_n hx hb dX11_sit_0 rfl (lv_at hl 0 rfl) ?_
  refine lv_bipush (v := 10) hx hb dX11_sit_1 (by decide) ?_
  refine lv_iload_n hx hb dX11_sit_3 rfl (lv_at hl 1 rfl) ?_
  refine lv_iconst (v := 0) hx hb dX11_sit_4 (by decide) ?_
  obtain ⟨v2, Sv3, Hyv4, HSv5, hq1, hf⟩ := bo4_e hf
  refine g_callw (isC := [0, 1, 2, 3, 4, 5, 6, 7, 8, 9, 10, 11, 12, 13, 14, 15, 16, 17, 18, 19, 20, 21, 22, 23, 24, 25, 26, 27, 28, 29, 30, 31, 32, 33, 34, 35, 36, 37, 38, 39, 40, 41, 42, 43, 44, 45, 46, 47, 48, 49, 50, 51, 52, 53, 54, 55, 56, 57, 58, 59, 60, 61]) (isR := []) (wc := (ww_X11_doOne cs ad raK raC raO raS raN raHy raHR raHS xK0 xK2 xK4 xK5 xK7 xK8 xK9 xK10 xK11 xK12 xK13 xK14 xK18 K C O S N Hy HS)) (wz := (ww_X11_doOne cs ad raK raC raO raS raN raHy raHR raHS xK0 xK2 xK4 xK5 xK7 xK8 xK9 xK10 xK11 xK12 xK13 xK14 xK18 zD zD zD zD zD zD (fun _ => zD))) (w1 := (ww_X11_doOne cs ad raK raC raO raS raN raHy raHR raHS xK0 xK2 xK4 xK5 xK7 xK8 xK9 xK10 xK11 xK12 xK13 xK14 xK18 K C O Sv3 N Hyv4 HSv5)) (ws' := (ww_X11_sit cs ad raK raC raO raS raN raHy raHR raHS xK0 xK2 xK4 xK5 xK7 xK8 xK9 xK10 xK11 xK12 xK13 xK14 xK18 K C O Sv3 N Hyv4 HSv5)) (v := v2) (va_runV (As := [.int (10 : Int32), .int a0, .int (0 : Int32)]) (rest := []) ⟨hx, hb, hml, hown, hts⟩ (c_X11_doOne l dC dI cs ad raK raC raO raS raN raHy raHR raHS xK0 xK2 xK4 xK5 xK7 xK8 xK9 xK10 xK11 xK12 xK13 xK14 xK18 _ K C O S N Hy HS (10 : Int32) a0 (0 : Int32) (v2, Sv3, Hyv4, HSv5) hq1) (cwV 3 hts gX11_sit_X11_doOne rfl rfl rfl (by decide +kernel) ⟨Nat.le_of_ble_eq_true rfl, Nat.le_of_ble_eq_true rfl⟩) ⟨fun a U g mk q => ⟨q.1, (fun _ _ _ _ => cPw_bl) a U g mk q.2⟩, va_recv hK hP (ci := 11) (q0 := 0) rfl rfl, fun U hU hW => ⟨rfl, ⟨by rw [hU], by rw [hU]; exact (hP.sub (ws' := (ww_X11_doOne cs ad raK raC raO raS raN raHy raHR raHS xK0 xK2 xK4 xK5 xK7 xK8 xK9 xK10 xK11 xK12 xK13 xK14 xK18 K C O S N Hy HS)) [0, 1, 2, 3, 4, 5, 6, 7, 8, 9, 10, 11, 12, 13, 14, 15, 16, 17, 18, 19, 20, 21, 22, 23, 24, 25, 26, 27, 28, 29, 30, 31, 32, 33, 34, 35, 36, 37, 38, 39, 40, 41, 42, 43, 44, 45, 46, 47, 48, 49, 50, 51, 52, 53, 54, 55, 56, 57, 58, 59, 60, 61] rfl), va_K.moved hW.alike hK, (hD.sub (ws' := (ww_X11_doOne cs ad raK raC raO raS raN raHy raHR raHS xK0 xK2 xK4 xK5 xK7 xK8 xK9 xK10 xK11 xK12 xK13 xK14 xK18 K C O S N Hy HS)) [0, 1, 2, 3, 4, 5, 6, 7, 8, 9, 10, 11, 12, 13, 14, 15, 16, 17, 18, 19, 20, 21, 22, 23, 24, 25, 26, 27, 28, 29, 30, 31, 32, 33, 34, 35, 36, 37, 38, 39, 40, 41, 42, 43, 44, 45, 46, 47, 48, 49, 50, 51, 52, 53, 54, 55, 56, 57, 58, 59, 60, 61] (by decide) rfl).weaken (fun _ _ _ _ => trivial), kN_warm hW hN⟩⟩⟩ rfl rfl hl.1 rfl (lv_room (Nat.le_of_ble_eq_true rfl)) dX11_sit_5 ⟨Nat.le_refl _, Nat.le_refl _⟩) hP hD hS hA rfl rfl (wr := ([] : va_W)) rfl rfl rfl (nw := 62) rfl (by decide +kernel) rfl (fun H locs hP hD hS => ?_)
  have hf := Option.some.inj hf
  subst hf
  exact c_iret (v := v2) hx hb hr hlocks hP hK hD hS dX11_sit_8

def ww_X11_leave (cs : Nat → ClassId) (ad : Nat → Nat) (raK : Nat → Nat) (raC : Nat → Nat) (raO : Nat → Nat) (raS : Nat → Nat) (raN : Nat → Nat) (raHy : Nat → Nat) (raHR : Nat) (raHS : Nat → Nat → Nat) (xK0 : Nat) (xK2 : Nat) (xK4 : Nat) (xK5 : Nat) (xK7 : Nat) (xK8 : Nat) (xK9 : Nat) (xK10 : Nat) (xK11 : Nat) (xK12 : Nat) (xK13 : Nat) (xK14 : Nat) (xK18 : Nat) (K : kD) (C : kD) (O : kD) (S : kD) (N : kD) (Hy : kD) (HS : Nat → kD) : va_W := (wX11 cs ad raK xK0 xK2 (raC 0) xK4 xK5 (raHy 0) xK7 xK8 xK9 xK10 xK11 xK12 xK13 xK14 xK18 K ++ (wX7 cs ad raC (raO 0) (raS 0) (raN 0) C ++ (wX3 cs ad raO O ++ (wX9 cs ad raS S ++ (wX8 cs ad raN N ++ (wX2 cs ad raHy raHR Hy ++ ([(raHR, .inl (cs 5, 8, .inr (.inr (.inr (.inr (fun j => some (raHS j 0)))))))] ++ (wX9x8 cs ad raHS HS))))))))
abbrev rm_X11_leave : Room := { frames := 5, cells := 0, slots := 0, locals := 114 }
set_option maxHeartbeats 4000000 in
set_option maxRecDepth 100000 in
theorem c_X11_leave (l : Launch) (dC : Nat → ClassId) (dI : Nat → Nat → Nat) (cs : Nat → ClassId) (ad : Nat → Nat) (raK : Nat → Nat) (raC : Nat → Nat) (raO : Nat → Nat) (raS : Nat → Nat) (raN : Nat → Nat) (raHy : Nat → Nat) (raHR : Nat) (raHS : Nat → Nat → Nat) (xK0 : Nat) (xK2 : Nat) (xK4 : Nat) (xK5 : Nat) (xK7 : Nat) (xK8 : Nat) (xK9 : Nat) (xK10 : Nat) (xK11 : Nat) (xK12 : Nat) (xK13 : Nat) (xK14 : Nat) (xK18 : Nat) (sz : Nat) (K : kD) (C : kD) (O : kD) (S : kD) (N : kD) (Hy : kD) (HS : Nat → kD) (a0 : Int32) (r : Int32 × kD × kD × (Nat → kD)) (hf : f_X11_leave a0 K C O S N Hy HS = some r) : Met l yX11_leave wsX11_leave rm_X11_leave (va_Pc [.ref (raK 0), .int a0] (cPw dC dI cs sz (ww_X11_leave cs ad raK raC raO raS raN raHy raHR raHS xK0 xK2 xK4 xK5 xK7 xK8 xK9 xK10 xK11 xK12 xK13 xK14 xK18 K C O S N Hy HS))) (cQi dC dI cs (va_A (ww_X11_leave cs ad raK raC raO raS raN raHy raHR raHS xK0 xK2 xK4 xK5 xK7 xK8 xK9 xK10 xK11 xK12 xK13 xK14 xK18 zD zD zD zD zD zD (fun _ => zD)) sz) r.1 (ww_X11_leave cs ad raK raC raO raS raN raHy raHR raHS xK0 xK2 xK4 xK5 xK7 xK8 xK9 xK10 xK11 xK12 xK13 xK14 xK18 K C O r.2.1 N r.2.2.1 r.2.2.2)) 0 0 (va_A (ww_X11_leave cs ad raK raC raO raS raN raHy raHR raHS xK0 xK2 xK4 xK5 xK7 xK8 xK9 xK10 xK11 xK12 xK13 xK14 xK18 zD zD zD zD zD zD (fun _ => zD)) sz) := by
  refine Met.ofW (cc := cX11_leave) (maxL := 2) (ret := (some .int)) (by decide) rfl ?_
  intro p e s m args below meth c s₁ B hml hv
  obtain ⟨hav, hsz, hP, hK, hD0, hN⟩ := hv
  have hx := B.exec
  have hb := B.bytes
  have hr := B.returns
  have hts := atoms_spec (ws := wsX11_leave) B.pre
  have hown : s.vm.findClass RX11 = some m.cls := findClass_of_methodNamed B.named
  have hlocks := B.notSynchronized
  subst hsz
  have hA : ∀ q, s.heap.size ≤ q → va_A (ww_X11_leave cs ad raK raC raO raS raN raHy raHR raHS xK0 xK2 xK4 xK5 xK7 xK8 xK9 xK10 xK11 xK12 xK13 xK14 xK18 zD zD zD zD zD zD (fun _ => zD)) s.heap.size q := fun q h => Or.inr h
  have hD : va_D (va_A (ww_X11_leave cs ad raK raC raO raS raN raHy raHR raHS xK0 xK2 xK4 xK5 xK7 xK8 xK9 xK10 xK11 xK12 xK13 xK14 xK18 zD zD zD zD zD zD (fun _ => zD)) s.heap.size) (ww_X11_leave cs ad raK raC raO raS raN raHy raHR raHS xK0 xK2 xK4 xK5 xK7 xK8 xK9 xK10 xK11 xK12 xK13 xK14 xK18 K C O S N Hy HS) := hD0.weaken (fun k q h _ => cA_in (ws := (ww_X11_leave cs ad raK raC raO raS raN raHy raHR raHS xK0 xK2 xK4 xK5 xK7 xK8 xK9 xK10 xK11 xK12 xK13 xK14 xK18 K C O S N Hy HS)) (ws' := (ww_X11_leave cs ad raK raC raO raS raN raHy raHR raHS xK0 xK2 xK4 xK5 xK7 xK8 xK9 xK10 xK11 xK12 xK13 xK14 xK18 zD zD zD zD zD zD (fun _ => zD))) rfl h)
  have hS : va_S (va_A (ww_X11_leave cs ad raK raC raO raS raN raHy raHR raHS xK0 xK2 xK4 xK5 xK7 xK8 xK9 xK10 xK11 xK12 xK13 xK14 xK18 zD zD zD zD zD zD (fun _ => zD)) s.heap.size) s.heap s.heap [] := va_S.rf
  have hl := lv_entry ([.ref (raK 0), .int a0]) (n := 2) (Nat.le_of_ble_eq_true rfl)
  rw [show entryFrame m args 2 = entryFrame m ([.ref (raK 0), .int a0] : List Value).toArray 2 from by rw [hav], lg_entry_eq]
  generalize (lg_sl ([.ref (raK 0), .int a0]) ++ List.replicate (2 - (lg_sl ([.ref (raK 0), .int a0])).length) Slot.unset).toArray = ls at hl ⊢
  have hl : lv_has ls 2 [(0, .ref (raK 0)), (1, .int a0)] := hl
  unfold f_X11_leave at hf
  refine lv_aload_n hx hb dX11_leave_0 rfl (lv_at hl 0 rfl) ?_
  refine lv_bipush (v := 20) hx hb dX11_leave_1 (by decide) ?_
  refine lv_iload_n hx hb dX11_leave_3 rfl (lv_at hl 1 rfl) ?_
  refine lv_iconst (v := 0) hx hb dX11_leave_4 (by decide) ?_
  obtain ⟨v2, Sv3, Hyv4, HSv5, hq1, hf⟩ := bo4_e hf
  refine g_callw (isC := [0, 1, 2, 3, 4, 5, 6, 7, 8, 9, 10, 11, 12, 13, 14, 15, 16, 17, 18, 19, 20, 21, 22, 23, 24, 25, 26, 27, 28, 29, 30, 31, 32, 33, 34, 35, 36, 37, 38, 39, 40, 41, 42, 43, 44, 45, 46, 47, 48, 49, 50, 51, 52, 53, 54, 55, 56, 57, 58, 59, 60, 61]) (isR := []) (wc := (ww_X11_doOne cs ad raK raC raO raS raN raHy raHR raHS xK0 xK2 xK4 xK5 xK7 xK8 xK9 xK10 xK11 xK12 xK13 xK14 xK18 K C O S N Hy HS)) (wz := (ww_X11_doOne cs ad raK raC raO raS raN raHy raHR raHS xK0 xK2 xK4 xK5 xK7 xK8 xK9 xK10 xK11 xK12 xK13 xK14 xK18 zD zD zD zD zD zD (fun _ => zD))) (w1 := (ww_X11_doOne cs ad raK raC raO raS raN raHy raHR raHS xK0 xK2 xK4 xK5 xK7 xK8 xK9 xK10 xK11 xK12 xK13 xK14 xK18 K C O Sv3 N Hyv4 HSv5)) (ws' := (ww_X11_leave cs ad raK raC raO raS raN raHy raHR raHS xK0 xK2 xK4 xK5 xK7 xK8 xK9 xK10 xK11 xK12 xK13 xK14 xK18 K C O Sv3 N Hyv4 HSv5)) (v := v2) (va_runV (As := [.int (20 : Int32), .int a0, .int (0 : Int32)]) (rest := []) ⟨hx, hb, hml, hown, hts⟩ (c_X11_doOne l dC dI cs ad raK raC raO raS raN raHy raHR raHS xK0 xK2 xK4 xK5 xK7 xK8 xK9 xK10 xK11 xK12 xK13 xK14 xK18 _ K C O S N Hy HS (20 : Int32) a0 (0 : Int32) (v2, Sv3, Hyv4, HSv5) hq1) (cwV 3 hts gX11_leave_X11_doOne rfl rfl rfl (by decide +kernel) ⟨Nat.le_of_ble_eq_true rfl, Nat.le_of_ble_eq_true rfl⟩) ⟨fun a U g mk q => ⟨q.1, (fun _ _ _ _ => cPw_bl) a U g mk q.2⟩, va_recv hK hP (ci := 11) (q0 := 0) rfl rfl, fun U hU hW => ⟨rfl, ⟨by rw [hU], by rw [hU]; exact (hP.sub (ws' := (ww_X11_doOne cs ad raK raC raO raS raN raHy raHR raHS xK0 xK2 xK4 xK5 xK7 xK8 xK9 xK10 xK11 xK12 xK13 xK14 xK18 K C O S N Hy HS)) [0, 1, 2, 3, 4, 5, 6, 7, 8, 9, 10, 11, 12, 13, 14, 15, 16, 17, 18, 19, 20, 21, 22, 23, 24, 25, 26, 27, 28, 29, 30, 31, 32, 33, 34, 35, 36, 37, 38, 39, 40, 41, 42, 43, 44, 45, 46, 47, 48, 49, 50, 51, 52, 53, 54, 55, 56, 57, 58, 59, 60, 61] rfl), va_K.moved hW.alike hK, (hD.sub (ws' := (ww_X11_doOne cs ad raK raC raO raS raN raHy raHR raHS xK0 xK2 xK4 xK5 xK7 xK8 xK9 xK10 xK11 xK12 xK13 xK14 xK18 K C O S N Hy HS)) [0, 1, 2, 3, 4, 5, 6, 7, 8, 9, 10, 11, 12, 13, 14, 15, 16, 17, 18, 19, 20, 21, 22, 23, 24, 25, 26, 27, 28, 29, 30, 31, 32, 33, 34, 35, 36, 37, 38, 39, 40, 41, 42, 43, 44, 45, 46, 47, 48, 49, 50, 51, 52, 53, 54, 55, 56, 57, 58, 59, 60, 61] (by decide) rfl).weaken (fun _ _ _ _ => trivial), kN_warm hW hN⟩⟩⟩ rfl rfl hl.1 rfl (lv_room (Nat.le_of_ble_eq_true rfl)) dX11_leave_5 ⟨Nat.le_refl _, Nat.le_refl _⟩) hP hD hS hA rfl rfl (wr := ([] : va_W)) rfl rfl rfl (nw := 62) rfl (by decide +kernel) rfl (fun H locs hP hD hS => ?_)
  have hf := Option.some.inj hf
  subst hf
  exact c_iret (v := v2) hx hb hr hlocks hP hK hD hS dX11_leave_8

def ww_X11_ribbon (cs : Nat → ClassId) (ad : Nat → Nat) (raK : Nat → Nat) (raC : Nat → Nat) (raO : Nat → Nat) (raS : Nat → Nat) (raN : Nat → Nat) (raHy : Nat → Nat) (raHR : Nat) (raHS : Nat → Nat → Nat) (xK0 : Nat) (xK2 : Nat) (xK4 : Nat) (xK5 : Nat) (xK7 : Nat) (xK8 : Nat) (xK9 : Nat) (xK10 : Nat) (xK11 : Nat) (xK12 : Nat) (xK13 : Nat) (xK14 : Nat) (xK18 : Nat) (K : kD) (C : kD) (O : kD) (S : kD) (N : kD) (Hy : kD) (HS : Nat → kD) : va_W := (wX11 cs ad raK xK0 xK2 (raC 0) xK4 xK5 (raHy 0) xK7 xK8 xK9 xK10 xK11 xK12 xK13 xK14 xK18 K ++ (wX7 cs ad raC (raO 0) (raS 0) (raN 0) C ++ (wX3 cs ad raO O ++ (wX9 cs ad raS S ++ (wX8 cs ad raN N ++ (wX2 cs ad raHy raHR Hy ++ ([(raHR, .inl (cs 5, 8, .inr (.inr (.inr (.inr (fun j => some (raHS j 0)))))))] ++ (wX9x8 cs ad raHS HS))))))))
abbrev rm_X11_ribbon : Room := { frames := 5, cells := 0, slots := 0, locals := 114 }
set_option maxHeartbeats 4000000 in
set_option maxRecDepth 100000 in
theorem c_X11_ribbon (l : Launch) (dC : Nat → ClassId) (dI : Nat → Nat → Nat) (cs : Nat → ClassId) (ad : Nat → Nat) (raK : Nat → Nat) (raC : Nat → Nat) (raO : Nat → Nat) (raS : Nat → Nat) (raN : Nat → Nat) (raHy : Nat → Nat) (raHR : Nat) (raHS : Nat → Nat → Nat) (xK0 : Nat) (xK2 : Nat) (xK4 : Nat) (xK5 : Nat) (xK7 : Nat) (xK8 : Nat) (xK9 : Nat) (xK10 : Nat) (xK11 : Nat) (xK12 : Nat) (xK13 : Nat) (xK14 : Nat) (xK18 : Nat) (sz : Nat) (K : kD) (C : kD) (O : kD) (S : kD) (N : kD) (Hy : kD) (HS : Nat → kD) (a0 : Int32) (a1 : Int32) (r : Int32 × kD × kD × (Nat → kD)) (hf : f_X11_ribbon a0 a1 K C O S N Hy HS = some r) : Met l yX11_ribbon wsX11_ribbon rm_X11_ribbon (va_Pc [.ref (raK 0), .int a0, .int a1] (cPw dC dI cs sz (ww_X11_ribbon cs ad raK raC raO raS raN raHy raHR raHS xK0 xK2 xK4 xK5 xK7 xK8 xK9 xK10 xK11 xK12 xK13 xK14 xK18 K C O S N Hy HS))) (cQi dC dI cs (va_A (ww_X11_ribbon cs ad raK raC raO raS raN raHy raHR raHS xK0 xK2 xK4 xK5 xK7 xK8 xK9 xK10 xK11 xK12 xK13 xK14 xK18 zD zD zD zD zD zD (fun _ => zD)) sz) r.1 (ww_X11_ribbon cs ad raK raC raO raS raN raHy raHR raHS xK0 xK2 xK4 xK5 xK7 xK8 xK9 xK10 xK11 xK12 xK13 xK14 xK18 K C O r.2.1 N r.2.2.1 r.2.2.2)) 0 0 (va_A (ww_X11_ribbon cs ad raK raC raO raS raN raHy raHR raHS xK0 xK2 xK4 xK5 xK7 xK8 xK9 xK10 xK11 xK12 xK13 xK14 xK18 zD zD zD zD zD zD (fun _ => zD)) sz) := by
  refine Met.ofW (cc := cX11_ribbon) (maxL := 3) (ret := (some .int)) (by decide) rfl ?_
  intro p e s m args below meth c s₁ B hml hv
  obtain ⟨hav, hsz, hP, hK, hD0, hN⟩ := hv
  have hx := B.exec
  have hb := B.bytes
  have hr := B.returns
  have hts := atoms_spec (ws := wsX11_ribbon) B.pre
  have hown : s.vm.findClass RX11 = some m.cls := findClass_of_methodNamed B.named
  have hlocks := B.notSynchronized
  subst hsz
  have hA : ∀ q, s.heap.size ≤ q → va_A (ww_X11_ribbon cs ad raK raC raO raS raN raHy raHR raHS xK0 xK2 xK4 xK5 xK7 xK8 xK9 xK10 xK11 xK12 xK13 xK14 xK18 zD zD zD zD zD zD (fun _ => zD)) s.heap.size q := fun q h => Or.inr h
  have hD : va_D (va_A (ww_X11_ribbon cs ad raK raC raO raS raN raHy raHR raHS xK0 xK2 xK4 xK5 xK7 xK8 xK9 xK10 xK11 xK12 xK13 xK14 xK18 zD zD zD zD zD zD (fun _ => zD)) s.heap.size) (ww_X11_ribbon cs ad raK raC raO raS raN raHy raHR raHS xK0 xK2 xK4 xK5 xK7 xK8 xK9 xK10 xK11 xK12 xK13 xK14 xK18 K C O S N Hy HS) := hD0.weaken (fun k q h _ => cA_in (ws := (ww_X11_ribbon cs ad raK raC raO raS raN raHy raHR raHS xK0 xK2 xK4 xK5 xK7 xK8 xK9 xK10 xK11 xK12 xK13 xK14 xK18 K C O S N Hy HS)) (ws' := (ww_X11_ribbon cs ad raK raC raO raS raN raHy raHR raHS xK0 xK2 xK4 xK5 xK7 xK8 xK9 xK10 xK11 xK12 xK13 xK14 xK18 zD zD zD zD zD zD (fun _ => zD))) rfl h)
  have hS : va_S (va_A (ww_X11_ribbon cs ad raK raC raO raS raN raHy raHR raHS xK0 xK2 xK4 xK5 xK7 xK8 xK9 xK10 xK11 xK12 xK13 xK14 xK18 zD zD zD zD zD zD (fun _ => zD)) s.heap.size) s.heap s.heap [] := va_S.rf
  have hl := lv_entry ([.ref (raK 0), .int a0, .int a1]) (n := 3) (Nat.le_of_ble_eq_true rfl)
  rw [show entryFrame m args 3 = entryFrame m ([.ref (raK 0), .int a0, .int a1] : List Value).toArray 3 from by rw [hav], lg_entry_eq]
  generalize (lg_sl ([.ref (raK 0), .int a0, .int a1]) ++ List.replicate (3 - (lg_sl ([.ref (raK 0), .int a0, .int a1])).length) Slot.unset).toArray = ls at hl ⊢
  have hl : lv_has ls 3 [(0, .ref (raK 0)), (1, .int a0), (2, .int a1)] := hl
  unfold f_X11_ribbon at hf
  refine lv_aload_n hx hb dX11_ribbon_0 rfl (lv_at hl 0 rfl) ?_
  refine lv_bipush (v := 30) hx hb dX11_ribbon_1 (by decide) ?_
  refine lv_iload_n hx hb dX11_ribbon_3 rfl (lv_at hl 1 rfl) ?_
  refine lv_iload_n hx hb dX11_ribbon_4 rfl (lv_at hl 2 rfl) ?_
  obtain ⟨v2, Sv3, Hyv4, HSv5, hq1, hf⟩ := bo4_e hf
  refine g_callw (isC := [0, 1, 2, 3, 4, 5, 6, 7, 8, 9, 10, 11, 12, 13, 14, 15, 16, 17, 18, 19, 20, 21, 22, 23, 24, 25, 26, 27, 28, 29, 30, 31, 32, 33, 34, 35, 36, 37, 38, 39, 40, 41, 42, 43, 44, 45, 46, 47, 48, 49, 50, 51, 52, 53, 54, 55, 56, 57, 58, 59, 60, 61]) (isR := []) (wc := (ww_X11_doOne cs ad raK raC raO raS raN raHy raHR raHS xK0 xK2 xK4 xK5 xK7 xK8 xK9 xK10 xK11 xK12 xK13 xK14 xK18 K C O S N Hy HS)) (wz := (ww_X11_doOne cs ad raK raC raO raS raN raHy raHR raHS xK0 xK2 xK4 xK5 xK7 xK8 xK9 xK10 xK11 xK12 xK13 xK14 xK18 zD zD zD zD zD zD (fun _ => zD))) (w1 := (ww_X11_doOne cs ad raK raC raO raS raN raHy raHR raHS xK0 xK2 xK4 xK5 xK7 xK8 xK9 xK10 xK11 xK12 xK13 xK14 xK18 K C O Sv3 N Hyv4 HSv5)) (ws' := (ww_X11_ribbon cs ad raK raC raO raS raN raHy raHR raHS xK0 xK2 xK4 xK5 xK7 xK8 xK9 xK10 xK11 xK12 xK13 xK14 xK18 K C O Sv3 N Hyv4 HSv5)) (v := v2) (va_runV (As := [.int (30 : Int32), .int a0, .int a1]) (rest := []) ⟨hx, hb, hml, hown, hts⟩ (c_X11_doOne l dC dI cs ad raK raC raO raS raN raHy raHR raHS xK0 xK2 xK4 xK5 xK7 xK8 xK9 xK10 xK11 xK12 xK13 xK14 xK18 _ K C O S N Hy HS (30 : Int32) a0 a1 (v2, Sv3, Hyv4, HSv5) hq1) (cwV 3 hts gX11_ribbon_X11_doOne rfl rfl rfl (by decide +kernel) ⟨Nat.le_of_ble_eq_true rfl, Nat.le_of_ble_eq_true rfl⟩) ⟨fun a U g mk q => ⟨q.1, (fun _ _ _ _ => cPw_bl) a U g mk q.2⟩, va_recv hK hP (ci := 11) (q0 := 0) rfl rfl, fun U hU hW => ⟨rfl, ⟨by rw [hU], by rw [hU]; exact (hP.sub (ws' := (ww_X11_doOne cs ad raK raC raO raS raN raHy raHR raHS xK0 xK2 xK4 xK5 xK7 xK8 xK9 xK10 xK11 xK12 xK13 xK14 xK18 K C O S N Hy HS)) [0, 1, 2, 3, 4, 5, 6, 7, 8, 9, 10, 11, 12, 13, 14, 15, 16, 17, 18, 19, 20, 21, 22, 23, 24, 25, 26, 27, 28, 29, 30, 31, 32, 33, 34, 35, 36, 37, 38, 39, 40, 41, 42, 43, 44, 45, 46, 47, 48, 49, 50, 51, 52, 53, 54, 55, 56, 57, 58, 59, 60, 61] rfl), va_K.moved hW.alike hK, (hD.sub (ws' := (ww_X11_doOne cs ad raK raC raO raS raN raHy raHR raHS xK0 xK2 xK4 xK5 xK7 xK8 xK9 xK10 xK11 xK12 xK13 xK14 xK18 K C O S N Hy HS)) [0, 1, 2, 3, 4, 5, 6, 7, 8, 9, 10, 11, 12, 13, 14, 15, 16, 17, 18, 19, 20, 21, 22, 23, 24, 25, 26, 27, 28, 29, 30, 31, 32, 33, 34, 35, 36, 37, 38, 39, 40, 41, 42, 43, 44, 45, 46, 47, 48, 49, 50, 51, 52, 53, 54, 55, 56, 57, 58, 59, 60, 61] (by decide) rfl).weaken (fun _ _ _ _ => trivial), kN_warm hW hN⟩⟩⟩ rfl rfl hl.1 rfl (lv_room (Nat.le_of_ble_eq_true rfl)) dX11_ribbon_5 ⟨Nat.le_refl _, Nat.le_refl _⟩) hP hD hS hA rfl rfl (wr := ([] : va_W)) rfl rfl rfl (nw := 62) rfl (by decide +kernel) rfl (fun H locs hP hD hS => ?_)
  have hf := Option.some.inj hf
  subst hf
  exact c_iret (v := v2) hx hb hr hlocks hP hK hD hS dX11_ribbon_8

def ww_X11_clear (cs : Nat → ClassId) (ad : Nat → Nat) (raK : Nat → Nat) (raC : Nat → Nat) (raO : Nat → Nat) (raS : Nat → Nat) (raN : Nat → Nat) (raHy : Nat → Nat) (raHR : Nat) (raHS : Nat → Nat → Nat) (xK0 : Nat) (xK2 : Nat) (xK4 : Nat) (xK5 : Nat) (xK7 : Nat) (xK8 : Nat) (xK9 : Nat) (xK10 : Nat) (xK11 : Nat) (xK12 : Nat) (xK13 : Nat) (xK14 : Nat) (xK18 : Nat) (K : kD) (C : kD) (O : kD) (S : kD) (N : kD) (Hy : kD) (HS : Nat → kD) : va_W := (wX11 cs ad raK xK0 xK2 (raC 0) xK4 xK5 (raHy 0) xK7 xK8 xK9 xK10 xK11 xK12 xK13 xK14 xK18 K ++ (wX7 cs ad raC (raO 0) (raS 0) (raN 0) C ++ (wX3 cs ad raO O ++ (wX9 cs ad raS S ++ (wX8 cs ad raN N ++ (wX2 cs ad raHy raHR Hy ++ ([(raHR, .inl (cs 5, 8, .inr (.inr (.inr (.inr (fun j => some (raHS j 0)))))))] ++ (wX9x8 cs ad raHS HS))))))))
abbrev rm_X11_clear : Room := { frames := 5, cells := 0, slots := 0, locals := 114 }
set_option maxHeartbeats 4000000 in
set_option maxRecDepth 100000 in
theorem c_X11_clear (l : Launch) (dC : Nat → ClassId) (dI : Nat → Nat → Nat) (cs : Nat → ClassId) (ad : Nat → Nat) (raK : Nat → Nat) (raC : Nat → Nat) (raO : Nat → Nat) (raS : Nat → Nat) (raN : Nat → Nat) (raHy : Nat → Nat) (raHR : Nat) (raHS : Nat → Nat → Nat) (xK0 : Nat) (xK2 : Nat) (xK4 : Nat) (xK5 : Nat) (xK7 : Nat) (xK8 : Nat) (xK9 : Nat) (xK10 : Nat) (xK11 : Nat) (xK12 : Nat) (xK13 : Nat) (xK14 : Nat) (xK18 : Nat) (sz : Nat) (K : kD) (C : kD) (O : kD) (S : kD) (N : kD) (Hy : kD) (HS : Nat → kD) (r : Int32 × kD × kD × (Nat → kD)) (hf : f_X11_clear K C O S N Hy HS = some r) : Met l yX11_clear wsX11_clear rm_X11_clear (va_Pc [.ref (raK 0)] (cPw dC dI cs sz (ww_X11_clear cs ad raK raC raO raS raN raHy raHR raHS xK0 xK2 xK4 xK5 xK7 xK8 xK9 xK10 xK11 xK12 xK13 xK14 xK18 K C O S N Hy HS))) (cQi dC dI cs (va_A (ww_X11_clear cs ad raK raC raO raS raN raHy raHR raHS xK0 xK2 xK4 xK5 xK7 xK8 xK9 xK10 xK11 xK12 xK13 xK14 xK18 zD zD zD zD zD zD (fun _ => zD)) sz) r.1 (ww_X11_clear cs ad raK raC raO raS raN raHy raHR raHS xK0 xK2 xK4 xK5 xK7 xK8 xK9 xK10 xK11 xK12 xK13 xK14 xK18 K C O r.2.1 N r.2.2.1 r.2.2.2)) 0 0 (va_A (ww_X11_clear cs ad raK raC raO raS raN raHy raHR raHS xK0 xK2 xK4 xK5 xK7 xK8 xK9 xK10 xK11 xK12 xK13 xK14 xK18 zD zD zD zD zD zD (fun _ => zD)) sz) := by
  refine Met.ofW (cc := cX11_clear) (maxL := 1) (ret := (some .int)) (by decide) rfl ?_
  intro p e s m args below meth c s₁ B hml hv
  obtain ⟨hav, hsz, hP, hK, hD0, hN⟩ := hv
  have hx := B.exec
  have hb := B.bytes
  have hr := B.returns
  have hts := atoms_spec (ws := wsX11_clear) B.pre
  have hown : s.vm.findClass RX11 = some m.cls := findClass_of_methodNamed B.named
  have hlocks := B.notSynchronized
  subst hsz
  have hA : ∀ q, s.heap.size ≤ q → va_A (ww_X11_clear cs ad raK raC raO raS raN raHy raHR raHS xK0 xK2 xK4 xK5 xK7 xK8 xK9 xK10 xK11 xK12 xK13 xK14 xK18 zD zD zD zD zD zD (fun _ => zD)) s.heap.size q := fun q h => Or.inr h
  have hD : va_D (va_A (ww_X11_clear cs ad raK raC raO raS raN raHy raHR raHS xK0 xK2 xK4 xK5 xK7 xK8 xK9 xK10 xK11 xK12 xK13 xK14 xK18 zD zD zD zD zD zD (fun _ => zD)) s.heap.size) (ww_X11_clear cs ad raK raC raO raS raN raHy raHR raHS xK0 xK2 xK4 xK5 xK7 xK8 xK9 xK10 xK11 xK12 xK13 xK14 xK18 K C O S N Hy HS) := hD0.weaken (fun k q h _ => cA_in (ws := (ww_X11_clear cs ad raK raC raO raS raN raHy raHR raHS xK0 xK2 xK4 xK5 xK7 xK8 xK9 xK10 xK11 xK12 xK13 xK14 xK18 K C O S N Hy HS)) (ws' := (ww_X11_clear cs ad raK raC raO raS raN raHy raHR raHS xK0 xK2 xK4 xK5 xK7 xK8 xK9 xK10 xK11 xK12 xK13 xK14 xK18 zD zD zD zD zD zD (fun _ => zD))) rfl h)
  have hS : va_S (va_A (ww_X11_clear cs ad raK raC raO raS raN raHy raHR raHS xK0 xK2 xK4 xK5 xK7 xK8 xK9 xK10 xK11 xK12 xK13 xK14 xK18 zD zD zD zD zD zD (fun _ => zD)) s.heap.size) s.heap s.heap [] := va_S.rf
  have hl := lv_entry ([.ref (raK 0)]) (n := 1) (Nat.le_of_ble_eq_true rfl)
  rw [show entryFrame m args 1 = entryFrame m ([.ref (raK 0)] : List Value).toArray 1 from by rw [hav], lg_entry_eq]
  generalize (lg_sl ([.ref (raK 0)]) ++ List.replicate (1 - (lg_sl ([.ref (raK 0)])).length) Slot.unset).toArray = ls at hl ⊢
  have hl : lv_has ls 1 [(0, .ref (raK 0))] := hl
  unfold f_X11_clear at hf
  refine lv_aload_n hx hb dX11_clear_0 rfl (lv_at hl 0 rfl) ?_
  refine lv_bipush (v := 40) hx hb dX11_clear_1 (by decide) ?_
  refine lv_iconst (v := 0) hx hb dX11_clear_3 (by decide) ?_
  refine lv_iconst (v := 0) hx hb dX11_clear_4 (by decide) ?_
  obtain ⟨v2, Sv3, Hyv4, HSv5, hq1, hf⟩ := bo4_e hf
  refine g_callw (isC := [0, 1, 2, 3, 4, 5, 6, 7, 8, 9, 10, 11, 12, 13, 14, 15, 16, 17, 18, 19, 20, 21, 22, 23, 24, 25, 26, 27, 28, 29, 30, 31, 32, 33, 34, 35, 36, 37, 38, 39, 40, 41, 42, 43, 44, 45, 46, 47, 48, 49, 50, 51, 52, 53, 54, 55, 56, 57, 58, 59, 60, 61]) (isR := []) (wc := (ww_X11_doOne cs ad raK raC raO raS raN raHy raHR raHS xK0 xK2 xK4 xK5 xK7 xK8 xK9 xK10 xK11 xK12 xK13 xK14 xK18 K C O S N Hy HS)) (wz := (ww_X11_doOne cs ad raK raC raO raS raN raHy raHR raHS xK0 xK2 xK4 xK5 xK7 xK8 xK9 xK10 xK11 xK12 xK13 xK14 xK18 zD zD zD zD zD zD (fun _ => zD))) (w1 := (ww_X11_doOne cs ad raK raC raO raS raN raHy raHR raHS xK0 xK2 xK4 xK5 xK7 xK8 xK9 xK10 xK11 xK12 xK13 xK14 xK18 K C O Sv3 N Hyv4 HSv5)) (ws' := (ww_X11_clear cs ad raK raC raO raS raN raHy raHR raHS xK0 xK2 xK4 xK5 xK7 xK8 xK9 xK10 xK11 xK12 xK13 xK14 xK18 K C O Sv3 N Hyv4 HSv5)) (v := v2) (va_runV (As := [.int (40 : Int32), .int (0 : Int32), .int (0 : Int32)]) (rest := []) ⟨hx, hb, hml, hown, hts⟩ (c_X11_doOne l dC dI cs ad raK raC raO raS raN raHy raHR raHS xK0 xK2 xK4 xK5 xK7 xK8 xK9 xK10 xK11 xK12 xK13 xK14 xK18 _ K C O S N Hy HS (40 : Int32) (0 : Int32) (0 : Int32) (v2, Sv3, Hyv4, HSv5) hq1) (cwV 3 hts gX11_clear_X11_doOne rfl rfl rfl (by decide +kernel) ⟨Nat.le_of_ble_eq_true rfl, Nat.le_of_ble_eq_true rfl⟩) ⟨fun a U g mk q => ⟨q.1, (fun _ _ _ _ => cPw_bl) a U g mk q.2⟩, va_recv hK hP (ci := 11) (q0 := 0) rfl rfl, fun U hU hW => ⟨rfl, ⟨by rw [hU], by rw [hU]; exact (hP.sub (ws' := (ww_X11_doOne cs ad raK raC raO raS raN raHy raHR raHS xK0 xK2 xK4 xK5 xK7 xK8 xK9 xK10 xK11 xK12 xK13 xK14 xK18 K C O S N Hy HS)) [0, 1, 2, 3, 4, 5, 6, 7, 8, 9, 10, 11, 12, 13, 14, 15, 16, 17, 18, 19, 20, 21, 22, 23, 24, 25, 26, 27, 28, 29, 30, 31, 32, 33, 34, 35, 36, 37, 38, 39, 40, 41, 42, 43, 44, 45, 46, 47, 48, 49, 50, 51, 52, 53, 54, 55, 56, 57, 58, 59, 60, 61] rfl), va_K.moved hW.alike hK, (hD.sub (ws' := (ww_X11_doOne cs ad raK raC raO raS raN raHy raHR raHS xK0 xK2 xK4 xK5 xK7 xK8 xK9 xK10 xK11 xK12 xK13 xK14 xK18 K C O S N Hy HS)) [0, 1, 2, 3, 4, 5, 6, 7, 8, 9, 10, 11, 12, 13, 14, 15, 16, 17, 18, 19, 20, 21, 22, 23, 24, 25, 26, 27, 28, 29, 30, 31, 32, 33, 34, 35, 36, 37, 38, 39, 40, 41, 42, 43, 44, 45, 46, 47, 48, 49, 50, 51, 52, 53, 54, 55, 56, 57, 58, 59, 60, 61] (by decide) rfl).weaken (fun _ _ _ _ => trivial), kN_warm hW hN⟩⟩⟩ rfl rfl hl.1 rfl (lv_room (Nat.le_of_ble_eq_true rfl)) dX11_clear_5 ⟨Nat.le_refl _, Nat.le_refl _⟩) hP hD hS hA rfl rfl (wr := ([] : va_W)) rfl rfl rfl (nw := 62) rfl (by decide +kernel) rfl (fun H locs hP hD hS => ?_)
  have hf := Option.some.inj hf
  subst hf
  exact c_iret (v := v2) hx hb hr hlocks hP hK hD hS dX11_clear_8

abbrev rm_X11_isDays : Room := { frames := 0, cells := 0, slots := 0, locals := 0 }
set_option maxHeartbeats 4000000 in
set_option maxRecDepth 100000 in
theorem c_X11_isDays (l : Launch) (dC : Nat → ClassId) (dI : Nat → Nat → Nat) (cs : Nat → ClassId) (ad : Nat → Nat) (a0 : Int32) (r : Int32) (hf : f_X11_isDays a0 = r) : Met l yX11_isDays wsX11_isDays rm_X11_isDays (va_Pc [.int a0] (cPr dC dI cs ([] : va_W))) (kQ (some (.int r))) 0 0 (kF) := by
  refine Met.ofW (cc := cX11_isDays) (maxL := 1) (ret := (some .boolean)) (by decide) rfl ?_
  intro p e s m args below meth c s₁ B hml hv
  obtain ⟨hav, hP, hK, hN⟩ := hv
  have hx := B.exec
  have hb := B.bytes
  have hr := B.returns
  have hts := atoms_spec (ws := wsX11_isDays) B.pre
  have hown : s.vm.findClass RX11 = some m.cls := findClass_of_methodNamed B.named
  have hlocks := B.notSynchronized
  have hl := lv_entry ([.int a0]) (n := 1) (Nat.le_of_ble_eq_true rfl)
  rw [show entryFrame m args 1 = entryFrame m ([.int a0] : List Value).toArray 1 from by rw [hav], lg_entry_eq]
  generalize (lg_sl ([.int a0]) ++ List.replicate (1 - (lg_sl ([.int a0])).length) Slot.unset).toArray = ls at hl ⊢
  have hl : lv_has ls 1 [(0, .int a0)] := hl
  unfold f_X11_isDays at hf
  refine lv_iload_n hx hb dX11_isDays_0 rfl (lv_at hl 0 rfl) ?_
  refine lv_iconst (v := 1) hx hb dX11_isDays_1 (by decide) ?_
  refine lv_icmp_lt (tgt := 15) hx hb dX11_isDays_2 (by decide) (fun hb2 => ?_) (fun hb2 => ?_)
  · have hf := (if_pos hb2).symm.trans hf
    refine lv_iconst (v := 0) hx hb dX11_isDays_15 (by decide) ?_
    subst hf
    exact W.zret (v := (0 : Int32)) (ty := .boolean) hx hb hr rfl (fun t ht hW => ⟨rfl, ht⟩) (fun _ h => nomatch h) dX11_isDays_16
  · have hf := (if_neg hb2).symm.trans hf
    refine lv_iload_n hx hb dX11_isDays_5 rfl (lv_at hl 0 rfl) ?_
    refine lv_bipush (v := 60) hx hb dX11_isDays_6 (by decide) ?_
    refine lv_icmp_gt (tgt := 15) hx hb dX11_isDays_8 (by decide) (fun hb1 => ?_) (fun hb1 => ?_)
    · have hf := (if_pos hb1).symm.trans hf
      refine lv_iconst (v := 0) hx hb dX11_isDays_15 (by decide) ?_
      subst hf
      exact W.zret (v := (0 : Int32)) (ty := .boolean) hx hb hr rfl (fun t ht hW => ⟨rfl, ht⟩) (fun _ h => nomatch h) dX11_isDays_16
    · have hf := (if_neg hb1).symm.trans hf
      refine lv_iconst (v := 1) hx hb dX11_isDays_11 (by decide) ?_
      refine lv_goto (tgt := 16) hx hb dX11_isDays_12 (by decide) ?_
      subst hf
      exact W.zret (v := (1 : Int32)) (ty := .boolean) hx hb hr rfl (fun t ht hW => ⟨rfl, ht⟩) (fun _ h => nomatch h) dX11_isDays_16
theorem z_X11_isDays (a0 : Int32) : f_X11_isDays a0 = 0 ∨ f_X11_isDays a0 = 1 := by
  unfold f_X11_isDays
  repeat' split
  all_goals first | exact Or.inl rfl | exact Or.inr rfl

def ww_X11_days (cs : Nat → ClassId) (ad : Nat → Nat) (raK : Nat → Nat) (raC : Nat → Nat) (raO : Nat → Nat) (raS : Nat → Nat) (raN : Nat → Nat) (raHy : Nat → Nat) (raHR : Nat) (raHS : Nat → Nat → Nat) (xK0 : Nat) (xK2 : Nat) (xK4 : Nat) (xK5 : Nat) (xK7 : Nat) (xK8 : Nat) (xK9 : Nat) (xK10 : Nat) (xK11 : Nat) (xK12 : Nat) (xK13 : Nat) (xK14 : Nat) (xK18 : Nat) (K : kD) (C : kD) (O : kD) (S : kD) (N : kD) (Hy : kD) (HS : Nat → kD) : va_W := (wX11 cs ad raK xK0 xK2 (raC 0) xK4 xK5 (raHy 0) xK7 xK8 xK9 xK10 xK11 xK12 xK13 xK14 xK18 K ++ (wX7 cs ad raC (raO 0) (raS 0) (raN 0) C ++ (wX3 cs ad raO O ++ (wX9 cs ad raS S ++ (wX8 cs ad raN N ++ (wX2 cs ad raHy raHR Hy ++ ([(raHR, .inl (cs 5, 8, .inr (.inr (.inr (.inr (fun j => some (raHS j 0)))))))] ++ (wX9x8 cs ad raHS HS))))))))
abbrev rm_X11_days : Room := { frames := 6, cells := 0, slots := 0, locals := 135 }
set_option maxHeartbeats 4000000 in
set_option maxRecDepth 100000 in
theorem c_X11_days (l : Launch) (dC : Nat → ClassId) (dI : Nat → Nat → Nat) (cs : Nat → ClassId) (ad : Nat → Nat) (raK : Nat → Nat) (raC : Nat → Nat) (raO : Nat → Nat) (raS : Nat → Nat) (raN : Nat → Nat) (raHy : Nat → Nat) (raHR : Nat) (raHS : Nat → Nat → Nat) (xK0 : Nat) (xK2 : Nat) (xK4 : Nat) (xK5 : Nat) (xK7 : Nat) (xK8 : Nat) (xK9 : Nat) (xK10 : Nat) (xK11 : Nat) (xK12 : Nat) (xK13 : Nat) (xK14 : Nat) (xK18 : Nat) (sz : Nat) (K : kD) (C : kD) (O : kD) (S : kD) (N : kD) (Hy : kD) (HS : Nat → kD) (a0 : Int32) (r : Int32 × kD × kD × (Nat → kD)) (hf : f_X11_days a0 K C O S N Hy HS = some r) : Met l yX11_days wsX11_days rm_X11_days (va_Pc [.ref (raK 0), .int a0] (cPw dC dI cs sz (ww_X11_days cs ad raK raC raO raS raN raHy raHR raHS xK0 xK2 xK4 xK5 xK7 xK8 xK9 xK10 xK11 xK12 xK13 xK14 xK18 K C O S N Hy HS))) (cQi dC dI cs (va_A (ww_X11_days cs ad raK raC raO raS raN raHy raHR raHS xK0 xK2 xK4 xK5 xK7 xK8 xK9 xK10 xK11 xK12 xK13 xK14 xK18 zD zD zD zD zD zD (fun _ => zD)) sz) r.1 (ww_X11_days cs ad raK raC raO raS raN raHy raHR raHS xK0 xK2 xK4 xK5 xK7 xK8 xK9 xK10 xK11 xK12 xK13 xK14 xK18 K C O r.2.1 N r.2.2.1 r.2.2.2)) 0 0 (va_A (ww_X11_days cs ad raK raC raO raS raN raHy raHR raHS xK0 xK2 xK4 xK5 xK7 xK8 xK9 xK10 xK11 xK12 xK13 xK14 xK18 zD zD zD zD zD zD (fun _ => zD)) sz) := by
  refine Met.ofW (cc := cX11_days) (maxL := 3) (ret := (some .int)) (by decide) rfl ?_
  intro p e s m args below meth c s₁ B hml hv
  obtain ⟨hav, hsz, hP, hK, hD0, hN⟩ := hv
  have hx := B.exec
  have hb := B.bytes
  have hr := B.returns
  have hts := atoms_spec (ws := wsX11_days) B.pre
  have hown : s.vm.findClass RX11 = some m.cls := findClass_of_methodNamed B.named
  have hlocks := B.notSynchronized
  subst hsz
  have hA : ∀ q, s.heap.size ≤ q → va_A (ww_X11_days cs ad raK raC raO raS raN raHy raHR raHS xK0 xK2 xK4 xK5 xK7 xK8 xK9 xK10 xK11 xK12 xK13 xK14 xK18 zD zD zD zD zD zD (fun _ => zD)) s.heap.size q := fun q h => Or.inr h
  have hD : va_D (va_A (ww_X11_days cs ad raK raC raO raS raN raHy raHR raHS xK0 xK2 xK4 xK5 xK7 xK8 xK9 xK10 xK11 xK12 xK13 xK14 xK18 zD zD zD zD zD zD (fun _ => zD)) s.heap.size) (ww_X11_days cs ad raK raC raO raS raN raHy raHR raHS xK0 xK2 xK4 xK5 xK7 xK8 xK9 xK10 xK11 xK12 xK13 xK14 xK18 K C O S N Hy HS) := hD0.weaken (fun k q h _ => cA_in (ws := (ww_X11_days cs ad raK raC raO raS raN raHy raHR raHS xK0 xK2 xK4 xK5 xK7 xK8 xK9 xK10 xK11 xK12 xK13 xK14 xK18 K C O S N Hy HS)) (ws' := (ww_X11_days cs ad raK raC raO raS raN raHy raHR raHS xK0 xK2 xK4 xK5 xK7 xK8 xK9 xK10 xK11 xK12 xK13 xK14 xK18 zD zD zD zD zD zD (fun _ => zD))) rfl h)
  have hS : va_S (va_A (ww_X11_days cs ad raK raC raO raS raN raHy raHR raHS xK0 xK2 xK4 xK5 xK7 xK8 xK9 xK10 xK11 xK12 xK13 xK14 xK18 zD zD zD zD zD zD (fun _ => zD)) s.heap.size) s.heap s.heap [] := va_S.rf
  have hinX11 := (show ∀ w ∈ wsX110, w ∈ wsX11_days from fun w h => List.mem_cons_of_mem _ (List.mem_append_left _ (List.mem_append_left _ (List.mem_append_left _ (List.mem_append_left _ (List.mem_append_right _ h))))))
  have hinX7 := (show ∀ w ∈ wsX70, w ∈ wsX11_days from fun w h => List.mem_cons_of_mem _ (List.mem_append_left _ (List.mem_append_left _ (List.mem_append_left _ (List.mem_append_right _ h)))))
  have k_code_Lib_Math_min_name_Lib_Math_min_code_2__some__int_ := hts (.code Lib.Math.min.name Lib.Math.min.code 2 (some .int)) (List.mem_of_getElem? (i := 5) rfl)
  have k_fieldLink_RX11_23__KeyLetters___scene___LKeyLetters_Scene__ := hts (.fieldLink RX11 23 "KeyLetters" "scene" "LKeyLetters$Scene;") (List.mem_of_getElem? (i := 1) rfl)
  have k_initialized_RX2 := hts (.initialized RX2) (List.mem_of_getElem? (i := 17) rfl)
  have k_initialized_RX9 := hts (.initialized RX9) (List.mem_of_getElem? (i := 12) rfl)
  have k_initialized__java_lang_Math_ := hts (.initialized "java/lang/Math") (List.mem_of_getElem? (i := 4) rfl)
  have k_instanceMethod_yX2_keep := hts (.instanceMethod yX2_keep) (List.mem_of_getElem? (i := 16) rfl)
  have k_instanceMethod_yX9_daysLeft := hts (.instanceMethod yX9_daysLeft) (List.mem_of_getElem? (i := 11) rfl)
  have k_instanceMethod_yX9_passDays := hts (.instanceMethod yX9_passDays) (List.mem_of_getElem? (i := 38) rfl)
  have k_methodLink_RX11_236_Lib_Math_min_name := hts (.methodLink RX11 236 Lib.Math.min.name) (List.mem_of_getElem? (i := 2) rfl)
  have k_selects_RX2_yX2_keep_yX2_keep := hts (.selects RX2 yX2_keep yX2_keep) (List.mem_of_getElem? (i := 18) rfl)
  have k_selects_RX9_yX9_daysLeft_yX9_daysLeft := hts (.selects RX9 yX9_daysLeft yX9_daysLeft) (List.mem_of_getElem? (i := 13) rfl)
  have k_selects_RX9_yX9_passDays_yX9_passDays := hts (.selects RX9 yX9_passDays yX9_passDays) (List.mem_of_getElem? (i := 39) rfl)
  have k_static_Lib_Math_min_name := hts (.static Lib.Math.min.name) (List.mem_of_getElem? (i := 3) rfl)
  have kldLink_RX11_38__KeyLetters___history___LKeyLetters_History__ := hts (.fieldLink RX11 38 "KeyLetters" "history" "LKeyLetters$History;") (List.mem_of_getElem? (i := 6) rfl)
  have hl := lv_entry ([.ref (raK 0), .int a0]) (n := 3) (Nat.le_of_ble_eq_true rfl)
  rw [show entryFrame m args 3 = entryFrame m ([.ref (raK 0), .int a0] : List Value).toArray 3 from by rw [hav], lg_entry_eq]
  generalize (lg_sl ([.ref (raK 0), .int a0]) ++ List.replicate (3 - (lg_sl ([.ref (raK 0), .int a0])).length) Slot.unset).toArray = ls at hl ⊢
  have hl : lv_has ls 3 [(0, .ref (raK 0)), (1, .int a0)] := hl
  unfold f_X11_days at hf
  refine lv_iload_n hx hb dX11_days_0 rfl (lv_at hl 1 rfl) ?_
  refine ko_call (v := some (.int (f_X11_isDays a0))) (va_runS (As := [.int a0]) (rest := []) ⟨hx, hb, hml, hown, hts⟩ (c_X11_isDays l dC dI cs ad a0 _ rfl) (va_cwS 1 hts gX11_days_X11_isDays rfl rfl rfl (by decide +kernel) ⟨Nat.le_of_ble_eq_true rfl, Nat.le_of_ble_eq_true rfl⟩) ⟨fun a U g mk q => ⟨q.1, (fun _ _ _ _ => cPr_bl) a U g mk q.2⟩, fun U hU hW => ⟨rfl, ⟨by rw [hU]; exact (hP.sub (ws' := ([] : va_W)) [] rfl), va_K.moved hW.alike hK, kN_warm hW hN⟩⟩⟩ rfl rfl hl.1 rfl (lv_room (Nat.le_of_ble_eq_true rfl)) dX11_days_1 ⟨Nat.le_refl _, Nat.le_refl _⟩) ?_
  refine lv_if_ne (tgt := 9) hx hb dX11_days_4 (by decide) (fun hb8 => ?_) (fun hb8 => ?_)
  · have hf := (if_neg hb8).symm.trans hf
    refine lv_iload_n hx hb dX11_days_9 rfl (lv_at hl 1 rfl) ?_
    refine lv_aload_n hx hb dX11_days_10 rfl (lv_at hl 0 rfl) ?_
    refine va_get (D := (dC, dI)) (ci := 11) (C := RX11) (T := TX11) (N := 19) hx hb hts hinX11 hown hK hP 0 rfl rfl 3 (by decide) (v := .ref (raC 0)) k_fieldLink_RX11_23__KeyLetters___scene___LKeyLetters_Scene__ (fun _ h9 => h9) rfl dX11_days_11 ?_
    refine va_getN (D := (dC, dI)) (ci := 8) (C := RX7) (T := TX7) (N := 3) hx hb hts hinX7 hown hK hP 1 rfl rfl 1 (by decide) (v := .ref (raS 0)) (va_Nw.use rfl (hN _ (List.mem_of_getElem? (i := 51) rfl))) (fun _ h9 => h9) rfl dX11_days_14 ?_
    refine ko_call (v := some (.int (f_X9_daysLeft S))) (va_runVN (As := []) (rest := [.int a0]) ⟨hx, hb, hml, hown, hts⟩ (c_X9_daysLeft l dC dI cs ad raS S _ rfl) ⟨va_cnB 0 hts gX11_days_X9_daysLeft_n233 rfl rfl rfl (hN _ (List.mem_of_getElem? (i := 104) rfl)) k_initialized_RX9 (by decide +kernel) ⟨Nat.le_of_ble_eq_true rfl, Nat.le_of_ble_eq_true rfl⟩, k_instanceMethod_yX9_daysLeft, k_selects_RX9_yX9_daysLeft_yX9_daysLeft⟩ ⟨fun a U g mk q => ⟨q.1, (fun _ _ _ _ => cPr_bl) a U g mk q.2⟩, va_recv hK hP (ci := 10) (q0 := 10) rfl rfl, fun U hU hW => ⟨rfl, ⟨by rw [hU]; exact (hP.sub (ws' := (ww_X9_daysLeft cs ad raS S)) [10, 11, 12, 13, 14] rfl), va_K.moved hW.alike hK, kN_warm hW hN⟩⟩⟩ rfl rfl hl.1 rfl (lv_room (Nat.le_of_ble_eq_true rfl)) dX11_days_17 ⟨Nat.le_refl _, Nat.le_refl _⟩) ?_
    refine va_mmin hx hb (hml.trans hl.1.symm) hown k_methodLink_RX11_236_Lib_Math_min_name k_static_Lib_Math_min_name k_initialized__java_lang_Math_ k_code_Lib_Math_min_name_Lib_Math_min_code_2__some__int_ (Nat.le_of_ble_eq_true rfl) (Nat.le_of_ble_eq_true rfl) (Nat.zero_le _) (Nat.zero_le _) dX11_days_20 ?_
    obtain ⟨v1, ev1, hf⟩ := bd1_e hf
    refine kt_i ev1 ?_
    refine lv_istore_n (nL := 3) (lv' := [(2, .int v1), (0, .ref (raK 0)), (1, .int a0)]) hx hb dX11_days_23 rfl hl (by decide) rfl (fun ls hl => ?_)
    refine lv_iload_n hx hb dX11_days_24 rfl (lv_at hl 0 rfl) ?_
    refine lv_if_le (tgt := 60) hx hb dX11_days_25 (by decide) (fun hb7 => ?_) (fun hb7 => ?_)
    · have hf := (if_pos hb7).symm.trans hf
      refine lv_iload_n hx hb dX11_days_60 rfl (lv_at hl 0 rfl) ?_
      have hf := Option.some.inj hf
      subst hf
      exact c_iret (v := v1) hx hb hr hlocks hP hK hD hS dX11_days_61
    · have hf := (if_neg hb7).symm.trans hf
      refine lv_aload_n hx hb dX11_days_28 rfl (lv_at hl 1 rfl) ?_
      refine va_get (D := (dC, dI)) (ci := 11) (C := RX11) (T := TX11) (N := 19) hx hb hts hinX11 hown hK hP 0 rfl rfl 6 (by decide) (v := .ref (raHy 0)) kldLink_RX11_38__KeyLetters___history___LKeyLetters_History__ (fun _ h9 => h9) rfl dX11_days_29 ?_
      refine lv_aload_n hx hb dX11_days_32 rfl (lv_at hl 1 rfl) ?_
      refine va_get (D := (dC, dI)) (ci := 11) (C := RX11) (T := TX11) (N := 19) hx hb hts hinX11 hown hK hP 0 rfl rfl 3 (by decide) (v := .ref (raC 0)) k_fieldLink_RX11_23__KeyLetters___scene___LKeyLetters_Scene__ (fun _ h9 => h9) rfl dX11_days_33 ?_
      refine va_getN (D := (dC, dI)) (ci := 8) (C := RX7) (T := TX7) (N := 3) hx hb hts hinX7 hown hK hP 1 rfl rfl 1 (by decide) (v := .ref (raS 0)) (va_Nw.use rfl (hN _ (List.mem_of_getElem? (i := 51) rfl))) (fun _ h9 => h9) rfl dX11_days_36 ?_
      obtain ⟨Hyv3, HSv4, hq2, hf⟩ := bo2_e hf
      refine g_callv (isC := [20, 21, 22, 23, 24, 25, 26, 27, 28, 29, 30, 31, 32, 33, 34, 35, 36, 37, 38, 39, 40, 41, 42, 43, 44, 45, 46, 47, 48, 49, 50, 51, 52, 53, 54, 55, 56, 57, 58, 59, 60, 61, 10, 11, 12, 13, 14]) (isR := [0, 1, 2, 3, 4, 5, 6, 7, 8, 9, 15, 16, 17, 18, 19]) (wc := (ww_X2_keep cs ad raHy raHR raHS raS Hy HS S)) (wz := (ww_X2_keep cs ad raHy raHR raHS raS zD (fun _ => zD) zD)) (w1 := (ww_X2_keep cs ad raHy raHR raHS raS Hyv3 HSv4 S)) (ws' := (ww_X11_days cs ad raK raC raO raS raN raHy raHR raHS xK0 xK2 xK4 xK5 xK7 xK8 xK9 xK10 xK11 xK12 xK13 xK14 xK18 K C O S N Hyv3 HSv4)) (va_runVN (As := [.ref (raS 0)]) (rest := []) ⟨hx, hb, hml, hown, hts⟩ (c_X2_keep l dC dI cs ad raHy raHR raHS raS _ Hy HS S (Hyv3, HSv4) hq2) ⟨va_cnB 1 hts gX11_days_X2_keep_n241 rfl rfl rfl (hN _ (List.mem_of_getElem? (i := 101) rfl)) k_initialized_RX2 (by decide +kernel) ⟨Nat.le_of_ble_eq_true rfl, Nat.le_of_ble_eq_true rfl⟩, k_instanceMethod_yX2_keep, k_selects_RX2_yX2_keep_yX2_keep⟩ ⟨fun a U g mk q => ⟨q.1, (fun _ _ _ _ => cPw_bl) a U g mk q.2⟩, va_recv hK hP (ci := 3) (q0 := 20) rfl rfl, fun U hU hW => ⟨rfl, ⟨by rw [hU], by rw [hU]; exact (hP.sub (ws' := (ww_X2_keep cs ad raHy raHR raHS raS Hy HS S)) [20, 21, 22, 23, 24, 25, 26, 27, 28, 29, 30, 31, 32, 33, 34, 35, 36, 37, 38, 39, 40, 41, 42, 43, 44, 45, 46, 47, 48, 49, 50, 51, 52, 53, 54, 55, 56, 57, 58, 59, 60, 61, 10, 11, 12, 13, 14] rfl), va_K.moved hW.alike hK, (hD.sub (ws' := (ww_X2_keep cs ad raHy raHR raHS raS Hy HS S)) [20, 21, 22, 23, 24, 25, 26, 27, 28, 29, 30, 31, 32, 33, 34, 35, 36, 37, 38, 39, 40, 41, 42, 43, 44, 45, 46, 47, 48, 49, 50, 51, 52, 53, 54, 55, 56, 57, 58, 59, 60, 61, 10, 11, 12, 13, 14] (by decide) rfl).weaken (fun _ _ _ _ => trivial), kN_warm hW hN⟩⟩⟩ rfl rfl hl.1 rfl (lv_room (Nat.le_of_ble_eq_true rfl)) dX11_days_39 ⟨Nat.le_refl _, Nat.le_refl _⟩) hP hD hS hA rfl rfl (wr := ((wX11 cs ad raK xK0 xK2 (raC 0) xK4 xK5 (raHy 0) xK7 xK8 xK9 xK10 xK11 xK12 xK13 xK14 xK18 K) ++ ((wX7 cs ad raC (raO 0) (raS 0) (raN 0) C) ++ ((wX3 cs ad raO O) ++ ((wX8 cs ad raN N)))))) rfl rfl rfl (nw := 62) rfl (by decide +kernel) rfl (fun H locs hP hD hS => ?_)
      refine lv_aload_n hx hb dX11_days_42 rfl (lv_at hl 1 rfl) ?_
      refine va_get (D := (dC, dI)) (ci := 11) (C := RX11) (T := TX11) (N := 19) hx hb hts hinX11 hown hK hP 0 rfl rfl 3 (by decide) (v := .ref (raC 0)) k_fieldLink_RX11_23__KeyLetters___scene___LKeyLetters_Scene__ (fun _ h9 => h9) rfl dX11_days_43 ?_
      refine va_getN (D := (dC, dI)) (ci := 8) (C := RX7) (T := TX7) (N := 3) hx hb hts hinX7 hown hK hP 1 rfl rfl 1 (by decide) (v := .ref (raS 0)) (va_Nw.use rfl (hN _ (List.mem_of_getElem? (i := 51) rfl))) (fun _ h9 => h9) rfl dX11_days_46 ?_
      refine lv_aload_n hx hb dX11_days_49 rfl (lv_at hl 1 rfl) ?_
      refine va_get (D := (dC, dI)) (ci := 11) (C := RX11) (T := TX11) (N := 19) hx hb hts hinX11 hown hK hP 0 rfl rfl 3 (by decide) (v := .ref (raC 0)) k_fieldLink_RX11_23__KeyLetters___scene___LKeyLetters_Scene__ (fun _ h9 => h9) rfl dX11_days_50 ?_
      refine va_getN (D := (dC, dI)) (ci := 8) (C := RX7) (T := TX7) (N := 3) hx hb hts hinX7 hown hK hP 1 rfl rfl 0 (by decide) (v := .ref (raO 0)) (va_Nw.use rfl (hN _ (List.mem_of_getElem? (i := 50) rfl))) (fun _ h9 => h9) rfl dX11_days_53 ?_
      refine lv_iload_n hx hb dX11_days_56 rfl (lv_at hl 0 rfl) ?_
      obtain ⟨Sv6, hq5, hf⟩ := bo_e hf
      refine g_callv (isC := [10, 11, 12, 13, 14, 2, 3, 4, 5, 6, 7, 8, 9]) (isR := [0, 1, 15, 16, 17, 18, 19, 20, 21, 22, 23, 24, 25, 26, 27, 28, 29, 30, 31, 32, 33, 34, 35, 36, 37, 38, 39, 40, 41, 42, 43, 44, 45, 46, 47, 48, 49, 50, 51, 52, 53, 54, 55, 56, 57, 58, 59, 60, 61]) (wc := (ww_X9_passDays cs ad raS raO S O)) (wz := (ww_X9_passDays cs ad raS raO zD zD)) (w1 := (ww_X9_passDays cs ad raS raO Sv6 O)) (ws' := (ww_X11_days cs ad raK raC raO raS raN raHy raHR raHS xK0 xK2 xK4 xK5 xK7 xK8 xK9 xK10 xK11 xK12 xK13 xK14 xK18 K C O Sv6 N Hyv3 HSv4)) (va_runVN (As := [.ref (raO 0), .int v1]) (rest := []) ⟨hx, hb, hml, hown, hts⟩ (c_X9_passDays l dC dI cs ad raS raO _ S O v1 Sv6 hq5) ⟨va_cnB 2 hts gX11_days_X9_passDays_n245 rfl rfl rfl (hN _ (List.mem_of_getElem? (i := 105) rfl)) k_initialized_RX9 (by decide +kernel) ⟨Nat.le_of_ble_eq_true rfl, Nat.le_of_ble_eq_true rfl⟩, k_instanceMethod_yX9_passDays, k_selects_RX9_yX9_passDays_yX9_passDays⟩ ⟨fun a U g mk q => ⟨q.1, (fun _ _ _ _ => cPw_bl) a U g mk q.2⟩, va_recv hK hP (ci := 10) (q0 := 10) rfl rfl, fun U hU hW => ⟨rfl, ⟨by rw [hU], by rw [hU]; exact (hP.sub (ws' := (ww_X9_passDays cs ad raS raO S O)) [10, 11, 12, 13, 14, 2, 3, 4, 5, 6, 7, 8, 9] rfl), va_K.moved hW.alike hK, (hD.sub (ws' := (ww_X9_passDays cs ad raS raO S O)) [10, 11, 12, 13, 14, 2, 3, 4, 5, 6, 7, 8, 9] (by decide) rfl).weaken (fun _ _ _ _ => trivial), kN_warm hW hN⟩⟩⟩ rfl rfl hl.1 rfl (lv_room (Nat.le_of_ble_eq_true rfl)) dX11_days_57 ⟨Nat.le_refl _, Nat.le_refl _⟩) hP hD hS hA rfl rfl (wr := ((wX11 cs ad raK xK0 xK2 (raC 0) xK4 xK5 (raHy 0) xK7 xK8 xK9 xK10 xK11 xK12 xK13 xK14 xK18 K) ++ ((wX7 cs ad raC (raO 0) (raS 0) (raN 0) C) ++ ((wX8 cs ad raN N) ++ ((wX2 cs ad raHy raHR Hyv3) ++ (([(raHR, .inl (cs 5, 8, .inr (.inr (.inr (.inr (fun j => some (raHS j 0)))))))]) ++ ((wX9x8 cs ad raHS HSv4)))))))) rfl rfl rfl (nw := 62) rfl (by decide +kernel) rfl (fun H locs hP hD hS => ?_)
      refine lv_iload_n hx hb dX11_days_60 rfl (lv_at hl 0 rfl) ?_
      have hf := Option.some.inj hf
      subst hf
      exact c_iret (v := v1) hx hb hr hlocks hP hK hD hS dX11_days_61
  · have hf := (if_pos hb8).symm.trans hf
    refine lv_iconst (v := -1) hx hb dX11_days_7 (by decide) ?_
    have hf := Option.some.inj hf
    subst hf
    exact c_iret (v := (-1 : Int32)) hx hb hr hlocks hP hK hD hS dX11_days_8

def ww_X11_undo (cs : Nat → ClassId) (ad : Nat → Nat) (raK : Nat → Nat) (raC : Nat → Nat) (raO : Nat → Nat) (raS : Nat → Nat) (raN : Nat → Nat) (raHy : Nat → Nat) (raHR : Nat) (raHS : Nat → Nat → Nat) (xK0 : Nat) (xK2 : Nat) (xK4 : Nat) (xK5 : Nat) (xK7 : Nat) (xK8 : Nat) (xK9 : Nat) (xK10 : Nat) (xK11 : Nat) (xK12 : Nat) (xK13 : Nat) (xK14 : Nat) (xK18 : Nat) (K : kD) (C : kD) (O : kD) (S : kD) (N : kD) (Hy : kD) (HS : Nat → kD) : va_W := (wX11 cs ad raK xK0 xK2 (raC 0) xK4 xK5 (raHy 0) xK7 xK8 xK9 xK10 xK11 xK12 xK13 xK14 xK18 K ++ (wX7 cs ad raC (raO 0) (raS 0) (raN 0) C ++ (wX3 cs ad raO O ++ (wX9 cs ad raS S ++ (wX8 cs ad raN N ++ (wX2 cs ad raHy raHR Hy ++ ([(raHR, .inl (cs 5, 8, .inr (.inr (.inr (.inr (fun j => some (raHS j 0)))))))] ++ (wX9x8 cs ad raHS HS))))))))
abbrev rm_X11_undo : Room := { frames := 3, cells := 0, slots := 0, locals := 82 }
set_option maxHeartbeats 4000000 in
set_option maxRecDepth 100000 in
theorem c_X11_undo (l : Launch) (dC : Nat → ClassId) (dI : Nat → Nat → Nat) (cs : Nat → ClassId) (ad : Nat → Nat) (raK : Nat → Nat) (raC : Nat → Nat) (raO : Nat → Nat) (raS : Nat → Nat) (raN : Nat → Nat) (raHy : Nat → Nat) (raHR : Nat) (raHS : Nat → Nat → Nat) (xK0 : Nat) (xK2 : Nat) (xK4 : Nat) (xK5 : Nat) (xK7 : Nat) (xK8 : Nat) (xK9 : Nat) (xK10 : Nat) (xK11 : Nat) (xK12 : Nat) (xK13 : Nat) (xK14 : Nat) (xK18 : Nat) (sz : Nat) (K : kD) (C : kD) (O : kD) (S : kD) (N : kD) (Hy : kD) (HS : Nat → kD) (r : Int32 × kD × kD) (hf : f_X11_undo K C O S N Hy HS = some r) : Met l yX11_undo wsX11_undo rm_X11_undo (va_Pc [.ref (raK 0)] (cPw dC dI cs sz (ww_X11_undo cs ad raK raC raO raS raN raHy raHR raHS xK0 xK2 xK4 xK5 xK7 xK8 xK9 xK10 xK11 xK12 xK13 xK14 xK18 K C O S N Hy HS))) (cQi dC dI cs (va_A (ww_X11_undo cs ad raK raC raO raS raN raHy raHR raHS xK0 xK2 xK4 xK5 xK7 xK8 xK9 xK10 xK11 xK12 xK13 xK14 xK18 zD zD zD zD zD zD (fun _ => zD)) sz) r.1 (ww_X11_undo cs ad raK raC raO raS raN raHy raHR raHS xK0 xK2 xK4 xK5 xK7 xK8 xK9 xK10 xK11 xK12 xK13 xK14 xK18 K C O r.2.1 N r.2.2 HS)) 0 0 (va_A (ww_X11_undo cs ad raK raC raO raS raN raHy raHR raHS xK0 xK2 xK4 xK5 xK7 xK8 xK9 xK10 xK11 xK12 xK13 xK14 xK18 zD zD zD zD zD zD (fun _ => zD)) sz) := by
  refine Met.ofW (cc := cX11_undo) (maxL := 1) (ret := (some .int)) (by decide) rfl ?_
  intro p e s m args below meth c s₁ B hml hv
  obtain ⟨hav, hsz, hP, hK, hD0, hN⟩ := hv
  have hx := B.exec
  have hb := B.bytes
  have hr := B.returns
  have hts := atoms_spec (ws := wsX11_undo) B.pre
  have hown : s.vm.findClass RX11 = some m.cls := findClass_of_methodNamed B.named
  have hlocks := B.notSynchronized
  subst hsz
  have hA : ∀ q, s.heap.size ≤ q → va_A (ww_X11_undo cs ad raK raC raO raS raN raHy raHR raHS xK0 xK2 xK4 xK5 xK7 xK8 xK9 xK10 xK11 xK12 xK13 xK14 xK18 zD zD zD zD zD zD (fun _ => zD)) s.heap.size q := fun q h => Or.inr h
  have hD : va_D (va_A (ww_X11_undo cs ad raK raC raO raS raN raHy raHR raHS xK0 xK2 xK4 xK5 xK7 xK8 xK9 xK10 xK11 xK12 xK13 xK14 xK18 zD zD zD zD zD zD (fun _ => zD)) s.heap.size) (ww_X11_undo cs ad raK raC raO raS raN raHy raHR raHS xK0 xK2 xK4 xK5 xK7 xK8 xK9 xK10 xK11 xK12 xK13 xK14 xK18 K C O S N Hy HS) := hD0.weaken (fun k q h _ => cA_in (ws := (ww_X11_undo cs ad raK raC raO raS raN raHy raHR raHS xK0 xK2 xK4 xK5 xK7 xK8 xK9 xK10 xK11 xK12 xK13 xK14 xK18 K C O S N Hy HS)) (ws' := (ww_X11_undo cs ad raK raC raO raS raN raHy raHR raHS xK0 xK2 xK4 xK5 xK7 xK8 xK9 xK10 xK11 xK12 xK13 xK14 xK18 zD zD zD zD zD zD (fun _ => zD))) rfl h)
  have hS : va_S (va_A (ww_X11_undo cs ad raK raC raO raS raN raHy raHR raHS xK0 xK2 xK4 xK5 xK7 xK8 xK9 xK10 xK11 xK12 xK13 xK14 xK18 zD zD zD zD zD zD (fun _ => zD)) s.heap.size) s.heap s.heap [] := va_S.rf
  have hinX11 := (show ∀ w ∈ wsX110, w ∈ wsX11_undo from fun w h => List.mem_cons_of_mem _ (List.mem_append_left _ (List.mem_append_left _ (List.mem_append_left _ (List.mem_append_right _ h)))))
  have hinX2 := (show ∀ w ∈ wsX20, w ∈ wsX11_undo from fun w h => List.mem_cons_of_mem _ (List.mem_append_left _ (List.mem_append_right _ h)))
  have hinX7 := (show ∀ w ∈ wsX70, w ∈ wsX11_undo from fun w h => List.mem_cons_of_mem _ (List.mem_append_left _ (List.mem_append_left _ (List.mem_append_right _ h))))
  have k_fieldLink_RX11_23__KeyLetters___scene___LKeyLetters_Scene__ := hts (.fieldLink RX11 23 "KeyLetters" "scene" "LKeyLetters$Scene;") (List.mem_of_getElem? (i := 2) rfl)
  have k_initialized_RX2 := hts (.initialized RX2) (List.mem_of_getElem? (i := 4) rfl)
  have k_instanceMethod_yX2_takeBack := hts (.instanceMethod yX2_takeBack) (List.mem_of_getElem? (i := 3) rfl)
  have k_selects_RX2_yX2_takeBack_yX2_takeBack := hts (.selects RX2 yX2_takeBack yX2_takeBack) (List.mem_of_getElem? (i := 5) rfl)
  have kldLink_RX11_38__KeyLetters___history___LKeyLetters_History__ := hts (.fieldLink RX11 38 "KeyLetters" "history" "LKeyLetters$History;") (List.mem_of_getElem? (i := 1) rfl)
  have hl := lv_entry ([.ref (raK 0)]) (n := 1) (Nat.le_of_ble_eq_true rfl)
  rw [show entryFrame m args 1 = entryFrame m ([.ref (raK 0)] : List Value).toArray 1 from by rw [hav], lg_entry_eq]
  generalize (lg_sl ([.ref (raK 0)]) ++ List.replicate (1 - (lg_sl ([.ref (raK 0)])).length) Slot.unset).toArray = ls at hl ⊢
  have hl : lv_has ls 1 [(0, .ref (raK 0))] := hl
  unfold f_X11_undo at hf
  refine lv_aload_n hx hb dX11_undo_0 rfl (lv_at hl 0 rfl) ?_
  refine va_get (D := (dC, dI)) (ci := 11) (C := RX11) (T := TX11) (N := 19) hx hb hts hinX11 hown hK hP 0 rfl rfl 6 (by decide) (v := .ref (raHy 0)) kldLink_RX11_38__KeyLetters___history___LKeyLetters_History__ (fun _ h9 => h9) rfl dX11_undo_1 ?_
  refine lv_aload_n hx hb dX11_undo_4 rfl (lv_at hl 0 rfl) ?_
  refine va_get (D := (dC, dI)) (ci := 11) (C := RX11) (T := TX11) (N := 19) hx hb hts hinX11 hown hK hP 0 rfl rfl 3 (by decide) (v := .ref (raC 0)) k_fieldLink_RX11_23__KeyLetters___scene___LKeyLetters_Scene__ (fun _ h9 => h9) rfl dX11_undo_5 ?_
  refine va_getN (D := (dC, dI)) (ci := 8) (C := RX7) (T := TX7) (N := 3) hx hb hts hinX7 hown hK hP 1 rfl rfl 1 (by decide) (v := .ref (raS 0)) (va_Nw.use rfl (hN _ (List.mem_of_getElem? (i := 51) rfl))) (fun _ h9 => h9) rfl dX11_undo_8 ?_
  obtain ⟨v2, Hyv3, Sv4, hq1, hf⟩ := bo3_e hf
  refine g_callw (isC := [20, 21, 22, 23, 24, 25, 26, 27, 28, 29, 30, 31, 32, 33, 34, 35, 36, 37, 38, 39, 40, 41, 42, 43, 44, 45, 46, 47, 48, 49, 50, 51, 52, 53, 54, 55, 56, 57, 58, 59, 60, 61, 10, 11, 12, 13, 14]) (isR := [0, 1, 2, 3, 4, 5, 6, 7, 8, 9, 15, 16, 17, 18, 19]) (wc := (ww_X2_takeBack cs ad raHy raHR raHS raS Hy HS S)) (wz := (ww_X2_takeBack cs ad raHy raHR raHS raS zD (fun _ => zD) zD)) (w1 := (ww_X2_takeBack cs ad raHy raHR raHS raS Hyv3 HS Sv4)) (ws' := (ww_X11_undo cs ad raK raC raO raS raN raHy raHR raHS xK0 xK2 xK4 xK5 xK7 xK8 xK9 xK10 xK11 xK12 xK13 xK14 xK18 K C O Sv4 N Hyv3 HS)) (v := v2) (va_runVN (As := [.ref (raS 0)]) (rest := []) ⟨hx, hb, hml, hown, hts⟩ (c_X2_takeBack l dC dI cs ad raHy raHR raHS raS _ Hy HS S (v2, Hyv3, Sv4) hq1) ⟨va_cnB 1 hts gX11_undo_X2_takeBack_n249 rfl rfl rfl (hN _ (List.mem_of_getElem? (i := 106) rfl)) k_initialized_RX2 (by decide +kernel) ⟨Nat.le_of_ble_eq_true rfl, Nat.le_of_ble_eq_true rfl⟩, k_instanceMethod_yX2_takeBack, k_selects_RX2_yX2_takeBack_yX2_takeBack⟩ ⟨fun a U g mk q => ⟨q.1, (fun _ _ _ _ => cPw_bl) a U g mk q.2⟩, va_recv hK hP (ci := 3) (q0 := 20) rfl rfl, fun U hU hW => ⟨rfl, ⟨by rw [hU], by rw [hU]; exact (hP.sub (ws' := (ww_X2_takeBack cs ad raHy raHR raHS raS Hy HS S)) [20, 21, 22, 23, 24, 25, 26, 27, 28, 29, 30, 31, 32, 33, 34, 35, 36, 37, 38, 39, 40, 41, 42, 43, 44, 45, 46, 47, 48, 49, 50, 51, 52, 53, 54, 55, 56, 57, 58, 59, 60, 61, 10, 11, 12, 13, 14] rfl), va_K.moved hW.alike hK, (hD.sub (ws' := (ww_X2_takeBack cs ad raHy raHR raHS raS Hy HS S)) [20, 21, 22, 23, 24, 25, 26, 27, 28, 29, 30, 31, 32, 33, 34, 35, 36, 37, 38, 39, 40, 41, 42, 43, 44, 45, 46, 47, 48, 49, 50, 51, 52, 53, 54, 55, 56, 57, 58, 59, 60, 61, 10, 11, 12, 13, 14] (by decide) rfl).weaken (fun _ _ _ _ => trivial), kN_warm hW hN⟩⟩⟩ rfl rfl hl.1 rfl (lv_room (Nat.le_of_ble_eq_true rfl)) dX11_undo_11 ⟨Nat.le_refl _, Nat.le_refl _⟩) hP hD hS hA rfl rfl (wr := ((wX11 cs ad raK xK0 xK2 (raC 0) xK4 xK5 (raHy 0) xK7 xK8 xK9 xK10 xK11 xK12 xK13 xK14 xK18 K) ++ ((wX7 cs ad raC (raO 0) (raS 0) (raN 0) C) ++ ((wX3 cs ad raO O) ++ ((wX8 cs ad raN N)))))) rfl rfl rfl (nw := 62) rfl (by decide +kernel) rfl (fun H locs hP hD hS => ?_)
  refine lv_if_eq (tgt := 27) hx hb dX11_undo_14 (by decide) (fun hb5 => ?_) (fun hb5 => ?_)
  · have hf := (if_pos hb5).symm.trans hf
    refine lv_iconst (v := -1) hx hb dX11_undo_27 (by decide) ?_
    have hf := Option.some.inj hf
    subst hf
    exact c_iret (v := (-1 : Int32)) hx hb hr hlocks hP hK hD hS dX11_undo_28
  · have hf := (if_neg hb5).symm.trans hf
    refine lv_aload_n hx hb dX11_undo_17 rfl (lv_at hl 0 rfl) ?_
    refine va_get (D := (dC, dI)) (ci := 11) (C := RX11) (T := TX11) (N := 19) hx hb hts hinX11 hown hK hP 0 rfl rfl 6 (by decide) (v := .ref (raHy 0)) kldLink_RX11_38__KeyLetters___history___LKeyLetters_History__ (fun _ h9 => h9) rfl dX11_undo_18 ?_
    refine va_getN (D := (dC, dI)) (ci := 3) (C := RX2) (T := TX2) (N := 3) hx hb hts hinX2 hown hK hP 20 rfl rfl 0 (by decide) (v := .int (Hyv3.1 0 0)) (va_Nw.use rfl (hN _ (List.mem_of_getElem? (i := 55) rfl))) (fun _ h9 => h9) rfl dX11_undo_21 ?_
    refine lv_goto (tgt := 28) hx hb dX11_undo_24 (by decide) ?_
    have hf := Option.some.inj hf
    subst hf
    exact c_iret (v := (Hyv3.1 0 0)) hx hb hr hlocks hP hK hD hS dX11_undo_28

def ww_X11_comes (cs : Nat → ClassId) (ad : Nat → Nat) (raK : Nat → Nat) (raC : Nat → Nat) (raO : Nat → Nat) (raS : Nat → Nat) (raN : Nat → Nat) (raP : Nat → Nat) (xK0 : Nat) (xK2 : Nat) (xK4 : Nat) (xK5 : Nat) (xK6 : Nat) (xK7 : Nat) (xK8 : Nat) (xK9 : Nat) (xK10 : Nat) (xK11 : Nat) (xK13 : Nat) (xK14 : Nat) (xK18 : Nat) (K : kD) (C : kD) (O : kD) (S : kD) (N : kD) (P : kD) : va_W := (wX11 cs ad raK xK0 xK2 (raC 0) xK4 xK5 xK6 xK7 xK8 xK9 xK10 xK11 (raP 0) xK13 xK14 xK18 K ++ (wX7 cs ad raC (raO 0) (raS 0) (raN 0) C ++ (wX3 cs ad raO O ++ (wX9 cs ad raS S ++ (wX8 cs ad raN N ++ (wX5 cs ad raP P))))))
abbrev rm_X11_comes : Room := { frames := 5, cells := 0, slots := 0, locals := 118 }
set_option maxHeartbeats 4000000 in
set_option maxRecDepth 100000 in
theorem c_X11_comes (l : Launch) (dC : Nat → ClassId) (dI : Nat → Nat → Nat) (cs : Nat → ClassId) (ad : Nat → Nat) (raK : Nat → Nat) (raC : Nat → Nat) (raO : Nat → Nat) (raS : Nat → Nat) (raN : Nat → Nat) (raP : Nat → Nat) (xK0 : Nat) (xK2 : Nat) (xK4 : Nat) (xK5 : Nat) (xK6 : Nat) (xK7 : Nat) (xK8 : Nat) (xK9 : Nat) (xK10 : Nat) (xK11 : Nat) (xK13 : Nat) (xK14 : Nat) (xK18 : Nat) (sz : Nat) (K : kD) (C : kD) (O : kD) (S : kD) (N : kD) (P : kD) (a0 : Int32) (r : Int32 × kD) (hf : f_X11_comes a0 K C O S N P = some r) : Met l yX11_comes wsX11_comes rm_X11_comes (va_Pc [.ref (raK 0), .int a0] (cPw dC dI cs sz (ww_X11_comes cs ad raK raC raO raS raN raP xK0 xK2 xK4 xK5 xK6 xK7 xK8 xK9 xK10 xK11 xK13 xK14 xK18 K C O S N P))) (cQi dC dI cs (va_A (ww_X11_comes cs ad raK raC raO raS raN raP xK0 xK2 xK4 xK5 xK6 xK7 xK8 xK9 xK10 xK11 xK13 xK14 xK18 zD zD zD zD zD zD) sz) r.1 (ww_X11_comes cs ad raK raC raO raS raN raP xK0 xK2 xK4 xK5 xK6 xK7 xK8 xK9 xK10 xK11 xK13 xK14 xK18 K C O S N r.2)) 0 0 (va_A (ww_X11_comes cs ad raK raC raO raS raN raP xK0 xK2 xK4 xK5 xK6 xK7 xK8 xK9 xK10 xK11 xK13 xK14 xK18 zD zD zD zD zD zD) sz) := by
  refine Met.ofW (cc := cX11_comes) (maxL := 2) (ret := (some .int)) (by decide) rfl ?_
  intro p e s m args below meth c s₁ B hml hv
  obtain ⟨hav, hsz, hP, hK, hD0, hN⟩ := hv
  have hx := B.exec
  have hb := B.bytes
  have hr := B.returns
  have hts := atoms_spec (ws := wsX11_comes) B.pre
  have hown : s.vm.findClass RX11 = some m.cls := findClass_of_methodNamed B.named
  have hlocks := B.notSynchronized
  subst hsz
  have hA : ∀ q, s.heap.size ≤ q → va_A (ww_X11_comes cs ad raK raC raO raS raN raP xK0 xK2 xK4 xK5 xK6 xK7 xK8 xK9 xK10 xK11 xK13 xK14 xK18 zD zD zD zD zD zD) s.heap.size q := fun q h => Or.inr h
  have hD : va_D (va_A (ww_X11_comes cs ad raK raC raO raS raN raP xK0 xK2 xK4 xK5 xK6 xK7 xK8 xK9 xK10 xK11 xK13 xK14 xK18 zD zD zD zD zD zD) s.heap.size) (ww_X11_comes cs ad raK raC raO raS raN raP xK0 xK2 xK4 xK5 xK6 xK7 xK8 xK9 xK10 xK11 xK13 xK14 xK18 K C O S N P) := hD0.weaken (fun k q h _ => cA_in (ws := (ww_X11_comes cs ad raK raC raO raS raN raP xK0 xK2 xK4 xK5 xK6 xK7 xK8 xK9 xK10 xK11 xK13 xK14 xK18 K C O S N P)) (ws' := (ww_X11_comes cs ad raK raC raO raS raN raP xK0 xK2 xK4 xK5 xK6 xK7 xK8 xK9 xK10 xK11 xK13 xK14 xK18 zD zD zD zD zD zD)) rfl h)
  have hS : va_S (va_A (ww_X11_comes cs ad raK raC raO raS raN raP xK0 xK2 xK4 xK5 xK6 xK7 xK8 xK9 xK10 xK11 xK13 xK14 xK18 zD zD zD zD zD zD) s.heap.size) s.heap s.heap [] := va_S.rf
  have hinX11 := (show ∀ w ∈ wsX110, w ∈ wsX11_comes from fun w h => List.mem_cons_of_mem _ (List.mem_append_left _ (List.mem_append_left _ (List.mem_append_left _ (List.mem_append_left _ (List.mem_append_right _ h))))))
  have hinX7 := (show ∀ w ∈ wsX70, w ∈ wsX11_comes from fun w h => List.mem_cons_of_mem _ (List.mem_append_left _ (List.mem_append_left _ (List.mem_append_left _ (List.mem_append_right _ h)))))
  have k_fieldLink_RX11_23__KeyLetters___scene___LKeyLetters_Scene__ := hts (.fieldLink RX11 23 "KeyLetters" "scene" "LKeyLetters$Scene;") (List.mem_of_getElem? (i := 2) rfl)
  have k_fieldLink_RX11_80__KeyLetters___route___LKeyLetters_Route__ := hts (.fieldLink RX11 80 "KeyLetters" "route" "LKeyLetters$Route;") (List.mem_of_getElem? (i := 1) rfl)
  have k_initialized_RX5 := hts (.initialized RX5) (List.mem_of_getElem? (i := 4) rfl)
  have k_instanceMethod_yX5_find := hts (.instanceMethod yX5_find) (List.mem_of_getElem? (i := 3) rfl)
  have k_selects_RX5_yX5_find_yX5_find := hts (.selects RX5 yX5_find yX5_find) (List.mem_of_getElem? (i := 5) rfl)
  have hl := lv_entry ([.ref (raK 0), .int a0]) (n := 2) (Nat.le_of_ble_eq_true rfl)
  rw [show entryFrame m args 2 = entryFrame m ([.ref (raK 0), .int a0] : List Value).toArray 2 from by rw [hav], lg_entry_eq]
  generalize (lg_sl ([.ref (raK 0), .int a0]) ++ List.replicate (2 - (lg_sl ([.ref (raK 0), .int a0])).length) Slot.unset).toArray = ls at hl ⊢
  have hl : lv_has ls 2 [(0, .ref (raK 0)), (1, .int a0)] := hl
  unfold f_X11_comes at hf
  refine lv_aload_n hx hb dX11_comes_0 rfl (lv_at hl 0 rfl) ?_
  refine va_get (D := (dC, dI)) (ci := 11) (C := RX11) (T := TX11) (N := 19) hx hb hts hinX11 hown hK hP 0 rfl rfl 12 (by decide) (v := .ref (raP 0)) k_fieldLink_RX11_80__KeyLetters___route___LKeyLetters_Route__ (fun _ h9 => h9) rfl dX11_comes_1 ?_
  refine lv_aload_n hx hb dX11_comes_4 rfl (lv_at hl 0 rfl) ?_
  refine va_get (D := (dC, dI)) (ci := 11) (C := RX11) (T := TX11) (N := 19) hx hb hts hinX11 hown hK hP 0 rfl rfl 3 (by decide) (v := .ref (raC 0)) k_fieldLink_RX11_23__KeyLetters___scene___LKeyLetters_Scene__ (fun _ h9 => h9) rfl dX11_comes_5 ?_
  refine va_getN (D := (dC, dI)) (ci := 8) (C := RX7) (T := TX7) (N := 3) hx hb hts hinX7 hown hK hP 1 rfl rfl 0 (by decide) (v := .ref (raO 0)) (va_Nw.use rfl (hN _ (List.mem_of_getElem? (i := 50) rfl))) (fun _ h9 => h9) rfl dX11_comes_8 ?_
  refine lv_aload_n hx hb dX11_comes_11 rfl (lv_at hl 0 rfl) ?_
  refine va_get (D := (dC, dI)) (ci := 11) (C := RX11) (T := TX11) (N := 19) hx hb hts hinX11 hown hK hP 0 rfl rfl 3 (by decide) (v := .ref (raC 0)) k_fieldLink_RX11_23__KeyLetters___scene___LKeyLetters_Scene__ (fun _ h9 => h9) rfl dX11_comes_12 ?_
  refine va_getN (D := (dC, dI)) (ci := 8) (C := RX7) (T := TX7) (N := 3) hx hb hts hinX7 hown hK hP 1 rfl rfl 1 (by decide) (v := .ref (raS 0)) (va_Nw.use rfl (hN _ (List.mem_of_getElem? (i := 51) rfl))) (fun _ h9 => h9) rfl dX11_comes_15 ?_
  refine lv_iload_n hx hb dX11_comes_18 rfl (lv_at hl 1 rfl) ?_
  obtain ⟨v2, Pv3, hq1, hf⟩ := bo2_e hf
  refine g_callw (isC := [20, 21, 22, 23, 2, 3, 4, 5, 6, 7, 8, 9, 10, 11, 12, 13, 14]) (isR := [0, 1, 15, 16, 17, 18, 19]) (wc := (ww_X5_find cs ad raP raO raS P O S)) (wz := (ww_X5_find cs ad raP raO raS zD zD zD)) (w1 := (ww_X5_find cs ad raP raO raS Pv3 O S)) (ws' := (ww_X11_comes cs ad raK raC raO raS raN raP xK0 xK2 xK4 xK5 xK6 xK7 xK8 xK9 xK10 xK11 xK13 xK14 xK18 K C O S N Pv3)) (v := v2) (va_runVN (As := [.ref (raO 0), .ref (raS 0), .int a0]) (rest := []) ⟨hx, hb, hml, hown, hts⟩ (c_X5_find l dC dI cs ad raP raO raS _ P O S a0 (v2, Pv3) hq1) ⟨va_cnB 3 hts gX11_comes_X5_find_n256 rfl rfl rfl (hN _ (List.mem_of_getElem? (i := 107) rfl)) k_initialized_RX5 (by decide +kernel) ⟨Nat.le_of_ble_eq_true rfl, Nat.le_of_ble_eq_true rfl⟩, k_instanceMethod_yX5_find, k_selects_RX5_yX5_find_yX5_find⟩ ⟨fun a U g mk q => ⟨q.1, (fun _ _ _ _ => cPw_bl) a U g mk q.2⟩, va_recv hK hP (ci := 6) (q0 := 20) rfl rfl, fun U hU hW => ⟨rfl, ⟨by rw [hU], by rw [hU]; exact (hP.sub (ws' := (ww_X5_find cs ad raP raO raS P O S)) [20, 21, 22, 23, 2, 3, 4, 5, 6, 7, 8, 9, 10, 11, 12, 13, 14] rfl), va_K.moved hW.alike hK, (hD.sub (ws' := (ww_X5_find cs ad raP raO raS P O S)) [20, 21, 22, 23, 2, 3, 4, 5, 6, 7, 8, 9, 10, 11, 12, 13, 14] (by decide) rfl).weaken (fun _ _ _ _ => trivial), kN_warm hW hN⟩⟩⟩ rfl rfl hl.1 rfl (lv_room (Nat.le_of_ble_eq_true rfl)) dX11_comes_19 ⟨Nat.le_refl _, Nat.le_refl _⟩) hP hD hS hA rfl rfl (wr := ((wX11 cs ad raK xK0 xK2 (raC 0) xK4 xK5 xK6 xK7 xK8 xK9 xK10 xK11 (raP 0) xK13 xK14 xK18 K) ++ ((wX7 cs ad raC (raO 0) (raS 0) (raN 0) C) ++ ((wX8 cs ad raN N))))) rfl rfl rfl (nw := 24) rfl (by decide +kernel) rfl (fun H locs hP hD hS => ?_)
  have hf := Option.some.inj hf
  subst hf
  exact c_iret (v := v2) hx hb hr hlocks hP hK hD hS dX11_comes_22

def ww_X11_comesAt (cs : Nat → ClassId) (ad : Nat → Nat) (raK : Nat → Nat) (raP : Nat → Nat) (xK0 : Nat) (xK2 : Nat) (xK3 : Nat) (xK4 : Nat) (xK5 : Nat) (xK6 : Nat) (xK7 : Nat) (xK8 : Nat) (xK9 : Nat) (xK10 : Nat) (xK11 : Nat) (xK13 : Nat) (xK14 : Nat) (xK18 : Nat) (K : kD) (P : kD) : va_W := (wX11 cs ad raK xK0 xK2 xK3 xK4 xK5 xK6 xK7 xK8 xK9 xK10 xK11 (raP 0) xK13 xK14 xK18 K ++ (wX5 cs ad raP P))
abbrev rm_X11_comesAt : Room := { frames := 0, cells := 0, slots := 0, locals := 0 }
set_option maxHeartbeats 4000000 in
set_option maxRecDepth 100000 in
theorem c_X11_comesAt (l : Launch) (dC : Nat → ClassId) (dI : Nat → Nat → Nat) (cs : Nat → ClassId) (ad : Nat → Nat) (raK : Nat → Nat) (raP : Nat → Nat) (xK0 : Nat) (xK2 : Nat) (xK3 : Nat) (xK4 : Nat) (xK5 : Nat) (xK6 : Nat) (xK7 : Nat) (xK8 : Nat) (xK9 : Nat) (xK10 : Nat) (xK11 : Nat) (xK13 : Nat) (xK14 : Nat) (xK18 : Nat) (K : kD) (P : kD) (a0 : Int32) (r : Int32) (hf : f_X11_comesAt a0 K P = some r) : Met l yX11_comesAt wsX11_comesAt rm_X11_comesAt (va_Pc [.ref (raK 0), .int a0] (cPr dC dI cs (ww_X11_comesAt cs ad raK raP xK0 xK2 xK3 xK4 xK5 xK6 xK7 xK8 xK9 xK10 xK11 xK13 xK14 xK18 K P))) (kQ (some (.int r))) 0 0 (kF) := by
  refine Met.ofW (cc := cX11_comesAt) (maxL := 2) (ret := (some .int)) (by decide) rfl ?_
  intro p e s m args below meth c s₁ B hml hv
  obtain ⟨hav, hP, hK, hN⟩ := hv
  have hx := B.exec
  have hb := B.bytes
  have hr := B.returns
  have hts := atoms_spec (ws := wsX11_comesAt) B.pre
  have hown : s.vm.findClass RX11 = some m.cls := findClass_of_methodNamed B.named
  have hlocks := B.notSynchronized
  have hinX11 := (show ∀ w ∈ wsX110, w ∈ wsX11_comesAt from fun w h => List.mem_cons_of_mem _ (List.mem_append_left _ (List.mem_append_right _ h)))
  have hinX5 := (show ∀ w ∈ wsX50, w ∈ wsX11_comesAt from fun w h => List.mem_cons_of_mem _ (List.mem_append_right _ h))
  have k_fieldLink_RX11_80__KeyLetters___route___LKeyLetters_Route__ := hts (.fieldLink RX11 80 "KeyLetters" "route" "LKeyLetters$Route;") (List.mem_of_getElem? (i := 1) rfl)
  have hl := lv_entry ([.ref (raK 0), .int a0]) (n := 2) (Nat.le_of_ble_eq_true rfl)
  rw [show entryFrame m args 2 = entryFrame m ([.ref (raK 0), .int a0] : List Value).toArray 2 from by rw [hav], lg_entry_eq]
  generalize (lg_sl ([.ref (raK 0), .int a0]) ++ List.replicate (2 - (lg_sl ([.ref (raK 0), .int a0])).length) Slot.unset).toArray = ls at hl ⊢
  have hl : lv_has ls 2 [(0, .ref (raK 0)), (1, .int a0)] := hl
  unfold f_X11_comesAt at hf
  refine lv_iload_n hx hb dX11_comesAt_0 rfl (lv_at hl 1 rfl) ?_
  refine lv_if_lt (tgt := 27) hx hb dX11_comesAt_1 (by decide) (fun hb3 => ?_) (fun hb3 => ?_)
  · have hf := (if_pos hb3).symm.trans hf
    refine lv_iconst (v := -1) hx hb dX11_comesAt_27 (by decide) ?_
    have hf := Option.some.inj hf
    subst hf
    exact W.iret (v := (-1 : Int32)) hx hb hr (fun t ht hW => ⟨rfl, ht⟩) (fun _ h => nomatch h) dX11_comesAt_28
  · have hf := (if_neg hb3).symm.trans hf
    refine lv_iload_n hx hb dX11_comesAt_4 rfl (lv_at hl 1 rfl) ?_
    refine lv_aload_n hx hb dX11_comesAt_5 rfl (lv_at hl 0 rfl) ?_
    refine va_get (D := (dC, dI)) (ci := 11) (C := RX11) (T := TX11) (N := 19) hx hb hts hinX11 hown hK hP 0 rfl rfl 12 (by decide) (v := .ref (raP 0)) k_fieldLink_RX11_80__KeyLetters___route___LKeyLetters_Route__ (fun _ h9 => h9) rfl dX11_comesAt_6 ?_
    refine va_getN (D := (dC, dI)) (ci := 6) (C := RX5) (T := TX5) (N := 4) hx hb hts hinX5 hown hK hP 1 rfl rfl 3 (by decide) (v := .int (P.1 0 3)) (va_Nw.use rfl (hN _ (List.mem_of_getElem? (i := 66) rfl))) (fun _ h9 => h9) rfl dX11_comesAt_9 ?_
    refine lv_icmp_ge (tgt := 27) hx hb dX11_comesAt_12 (by decide) (fun hb2 => ?_) (fun hb2 => ?_)
    · have hf := (if_pos hb2).symm.trans hf
      refine lv_iconst (v := -1) hx hb dX11_comesAt_27 (by decide) ?_
      have hf := Option.some.inj hf
      subst hf
      exact W.iret (v := (-1 : Int32)) hx hb hr (fun t ht hW => ⟨rfl, ht⟩) (fun _ h => nomatch h) dX11_comesAt_28
    · have hf := (if_neg hb2).symm.trans hf
      refine lv_aload_n hx hb dX11_comesAt_15 rfl (lv_at hl 0 rfl) ?_
      refine va_get (D := (dC, dI)) (ci := 11) (C := RX11) (T := TX11) (N := 19) hx hb hts hinX11 hown hK hP 0 rfl rfl 12 (by decide) (v := .ref (raP 0)) k_fieldLink_RX11_80__KeyLetters___route___LKeyLetters_Route__ (fun _ h9 => h9) rfl dX11_comesAt_16 ?_
      refine va_getN (D := (dC, dI)) (ci := 6) (C := RX5) (T := TX5) (N := 4) hx hb hts hinX5 hown hK hP 1 rfl rfl 2 (by decide) (v := .ref (raP 2)) (va_Nw.use rfl (hN _ (List.mem_of_getElem? (i := 65) rfl))) (fun _ h9 => h9) rfl dX11_comesAt_19 ?_
      refine lv_iload_n hx hb dX11_comesAt_22 rfl (lv_at hl 1 rfl) ?_
      obtain ⟨hc1, hf⟩ := ck_e hf
      refine va_iald hx hb hK hP 4 1 rfl rfl hc1 dX11_comesAt_23 ?_
      refine lv_goto (tgt := 28) hx hb dX11_comesAt_24 (by decide) ?_
      have hf := Option.some.inj hf
      subst hf
      exact W.iret (v := (P.1 2 a0.toNatClampNeg)) hx hb hr (fun t ht hW => ⟨rfl, ht⟩) (fun _ h => nomatch h) dX11_comesAt_28

def ww_X11_silent (cs : Nat → ClassId) (ad : Nat → Nat) (raK : Nat → Nat) (raC : Nat → Nat) (raO : Nat → Nat) (raS : Nat → Nat) (raN : Nat → Nat) (raTR : Nat → Nat) (xK0 : Nat) (xK2 : Nat) (xK4 : Nat) (xK5 : Nat) (xK6 : Nat) (xK7 : Nat) (xK8 : Nat) (xK9 : Nat) (xK11 : Nat) (xK12 : Nat) (xK13 : Nat) (xK14 : Nat) (xK18 : Nat) (K : kD) (C : kD) (O : kD) (S : kD) (N : kD) (TR : kD) : va_W := (wX11 cs ad raK xK0 xK2 (raC 0) xK4 xK5 xK6 xK7 xK8 xK9 (raTR 0) xK11 xK12 xK13 xK14 xK18 K ++ (wX7 cs ad raC (raO 0) (raS 0) (raN 0) C ++ (wX3 cs ad raO O ++ (wX9 cs ad raS S ++ (wX8 cs ad raN N ++ (wX9 cs ad raTR TR))))))
abbrev rm_X11_silent : Room := { frames := 5, cells := 0, slots := 0, locals := 112 }
set_option maxHeartbeats 4000000 in
set_option maxRecDepth 100000 in
theorem c_X11_silent (l : Launch) (dC : Nat → ClassId) (dI : Nat → Nat → Nat) (cs : Nat → ClassId) (ad : Nat → Nat) (raK : Nat → Nat) (raC : Nat → Nat) (raO : Nat → Nat) (raS : Nat → Nat) (raN : Nat → Nat) (raTR : Nat → Nat) (xK0 : Nat) (xK2 : Nat) (xK4 : Nat) (xK5 : Nat) (xK6 : Nat) (xK7 : Nat) (xK8 : Nat) (xK9 : Nat) (xK11 : Nat) (xK12 : Nat) (xK13 : Nat) (xK14 : Nat) (xK18 : Nat) (sz : Nat) (K : kD) (C : kD) (O : kD) (S : kD) (N : kD) (TR : kD) (r : Int32 × kD) (hf : f_X11_silent K C O S N TR = some r) : Met l yX11_silent wsX11_silent rm_X11_silent (va_Pc [.ref (raK 0)] (cPw dC dI cs sz (ww_X11_silent cs ad raK raC raO raS raN raTR xK0 xK2 xK4 xK5 xK6 xK7 xK8 xK9 xK11 xK12 xK13 xK14 xK18 K C O S N TR))) (cQi dC dI cs (va_A (ww_X11_silent cs ad raK raC raO raS raN raTR xK0 xK2 xK4 xK5 xK6 xK7 xK8 xK9 xK11 xK12 xK13 xK14 xK18 zD zD zD zD zD zD) sz) r.1 (ww_X11_silent cs ad raK raC raO raS raN raTR xK0 xK2 xK4 xK5 xK6 xK7 xK8 xK9 xK11 xK12 xK13 xK14 xK18 K C O S N r.2)) 0 0 (va_A (ww_X11_silent cs ad raK raC raO raS raN raTR xK0 xK2 xK4 xK5 xK6 xK7 xK8 xK9 xK11 xK12 xK13 xK14 xK18 zD zD zD zD zD zD) sz) := by
  refine Met.ofW (cc := cX11_silent) (maxL := 2) (ret := (some .int)) (by decide) rfl ?_
  intro p e s m args below meth c s₁ B hml hv
  obtain ⟨hav, hsz, hP, hK, hD0, hN⟩ := hv
  have hx := B.exec
  have hb := B.bytes
  have hr := B.returns
  have hts := atoms_spec (ws := wsX11_silent) B.pre
  have hown : s.vm.findClass RX11 = some m.cls := findClass_of_methodNamed B.named
  have hlocks := B.notSynchronized
  subst hsz
  have hA : ∀ q, s.heap.size ≤ q → va_A (ww_X11_silent cs ad raK raC raO raS raN raTR xK0 xK2 xK4 xK5 xK6 xK7 xK8 xK9 xK11 xK12 xK13 xK14 xK18 zD zD zD zD zD zD) s.heap.size q := fun q h => Or.inr h
  have hD : va_D (va_A (ww_X11_silent cs ad raK raC raO raS raN raTR xK0 xK2 xK4 xK5 xK6 xK7 xK8 xK9 xK11 xK12 xK13 xK14 xK18 zD zD zD zD zD zD) s.heap.size) (ww_X11_silent cs ad raK raC raO raS raN raTR xK0 xK2 xK4 xK5 xK6 xK7 xK8 xK9 xK11 xK12 xK13 xK14 xK18 K C O S N TR) := hD0.weaken (fun k q h _ => cA_in (ws := (ww_X11_silent cs ad raK raC raO raS raN raTR xK0 xK2 xK4 xK5 xK6 xK7 xK8 xK9 xK11 xK12 xK13 xK14 xK18 K C O S N TR)) (ws' := (ww_X11_silent cs ad raK raC raO raS raN raTR xK0 xK2 xK4 xK5 xK6 xK7 xK8 xK9 xK11 xK12 xK13 xK14 xK18 zD zD zD zD zD zD)) rfl h)
  have hS : va_S (va_A (ww_X11_silent cs ad raK raC raO raS raN raTR xK0 xK2 xK4 xK5 xK6 xK7 xK8 xK9 xK11 xK12 xK13 xK14 xK18 zD zD zD zD zD zD) s.heap.size) s.heap s.heap [] := va_S.rf
  have hinX11 := (show ∀ w ∈ wsX110, w ∈ wsX11_silent from fun w h => List.mem_cons_of_mem _ (List.mem_append_left _ (List.mem_append_left _ (List.mem_append_left _ (List.mem_append_right _ h)))))
  have hinX7 := (show ∀ w ∈ wsX70, w ∈ wsX11_silent from fun w h => List.mem_cons_of_mem _ (List.mem_append_left _ (List.mem_append_left _ (List.mem_append_right _ h))))
  have k_fieldLink_RX11_23__KeyLetters___scene___LKeyLetters_Scene__ := hts (.fieldLink RX11 23 "KeyLetters" "scene" "LKeyLetters$Scene;") (List.mem_of_getElem? (i := 2) rfl)
  have k_fieldLink_RX11_66__KeyLetters___trial___LKeyLetters_State__ := hts (.fieldLink RX11 66 "KeyLetters" "trial" "LKeyLetters$State;") (List.mem_of_getElem? (i := 1) rfl)
  have k_initialized_RX9 := hts (.initialized RX9) (List.mem_of_getElem? (i := 4) rfl)
  have k_instanceMethod_yX9_copyFrom := hts (.instanceMethod yX9_copyFrom) (List.mem_of_getElem? (i := 3) rfl)
  have k_instanceMethod_yX9_passDay := hts (.instanceMethod yX9_passDay) (List.mem_of_getElem? (i := 20) rfl)
  have k_selects_RX9_yX9_copyFrom_yX9_copyFrom := hts (.selects RX9 yX9_copyFrom yX9_copyFrom) (List.mem_of_getElem? (i := 5) rfl)
  have k_selects_RX9_yX9_passDay_yX9_passDay := hts (.selects RX9 yX9_passDay yX9_passDay) (List.mem_of_getElem? (i := 21) rfl)
  have hl := lv_entry ([.ref (raK 0)]) (n := 2) (Nat.le_of_ble_eq_true rfl)
  rw [show entryFrame m args 2 = entryFrame m ([.ref (raK 0)] : List Value).toArray 2 from by rw [hav], lg_entry_eq]
  generalize (lg_sl ([.ref (raK 0)]) ++ List.replicate (2 - (lg_sl ([.ref (raK 0)])).length) Slot.unset).toArray = ls at hl ⊢
  have hl : lv_has ls 2 [(0, .ref (raK 0))] := hl
  unfold f_X11_silent at hf
  have h_16 := lp_ind (z := (fun _ _ => none)) (b := (g_X11_silent_16 K C O S N)) (fun (rc_16 : Int32 → kD → Option (Int32 × kD)) => ∀ (x1_16 : Int32) (TR_16 : kD) (ls : Array Slot) (H : Heap) (locs : List Loc), lv_has ls 2 [(0, .ref (raK 0)), (1, .int x1_16)] → va_P (dC, dI) vwCl (ww_X11_silent cs ad raK raC raO raS raN raTR xK0 xK2 xK4 xK5 xK6 xK7 xK8 xK9 xK11 xK12 xK13 xK14 xK18 K C O S N TR_16) H → va_D (va_A (ww_X11_silent cs ad raK raC raO raS raN raTR xK0 xK2 xK4 xK5 xK6 xK7 xK8 xK9 xK11 xK12 xK13 xK14 xK18 zD zD zD zD zD zD) s.heap.size) (ww_X11_silent cs ad raK raC raO raS raN raTR xK0 xK2 xK4 xK5 xK6 xK7 xK8 xK9 xK11 xK12 xK13 xK14 xK18 K C O S N TR_16) → va_S (va_A (ww_X11_silent cs ad raK raC raO raS raN raTR xK0 xK2 xK4 xK5 xK6 xK7 xK8 xK9 xK11 xK12 xK13 xK14 xK18 zD zD zD zD zD zD) s.heap.size) s.heap H locs → rc_16 x1_16 TR_16 = some r → W p l e (headSpec wsX11_silent rm_X11_silent).room s m args below meth c H locs 0 0 (MQ below (cQi dC dI cs (va_A (ww_X11_silent cs ad raK raC raO raS raN raTR xK0 xK2 xK4 xK5 xK6 xK7 xK8 xK9 xK11 xK12 xK13 xK14 xK18 zD zD zD zD zD zD) s.heap.size) r.1 (ww_X11_silent cs ad raK raC raO raS raN raTR xK0 xK2 xK4 xK5 xK6 xK7 xK8 xK9 xK11 xK12 xK13 xK14 xK18 K C O S N r.2)) args s 0 0 (va_A (ww_X11_silent cs ad raK raC raO raS raN raTR xK0 xK2 xK4 xK5 xK6 xK7 xK8 xK9 xK11 xK12 xK13 xK14 xK18 zD zD zD zD zD zD) s.heap.size)) (F0 m 16 ls [])) (by
      intro x1_16 TR_16 ls H locs hl hP hD hS hf
      cases hf) (by
      intro rc_16 ih_16 x1_16 TR_16 ls H locs hl hP hD hS hf
      unfold g_X11_silent_16 at hf
      refine lv_iload_n hx hb dX11_silent_16 rfl (lv_at hl 1 rfl) ?_
      refine lv_bipush (v := 99) hx hb dX11_silent_17 (by decide) ?_
      refine lv_icmp_gt (tgt := 47) hx hb dX11_silent_19 (by decide) (fun hb6 => ?_) (fun hb6 => ?_)
      · have hf := (if_pos hb6).symm.trans hf
        refine lv_iconst (v := -1) hx hb dX11_silent_47 (by decide) ?_
        have hf := Option.some.inj hf
        subst hf
        exact c_iret (v := (-1 : Int32)) hx hb hr hlocks hP hK hD hS dX11_silent_48
      · have hf := (if_neg hb6).symm.trans hf
        refine lv_aload_n hx hb dX11_silent_22 rfl (lv_at hl 0 rfl) ?_
        refine va_get (D := (dC, dI)) (ci := 11) (C := RX11) (T := TX11) (N := 19) hx hb hts hinX11 hown hK hP 0 rfl rfl 10 (by decide) (v := .ref (raTR 0)) k_fieldLink_RX11_66__KeyLetters___trial___LKeyLetters_State__ (fun _ h9 => h9) rfl dX11_silent_23 ?_
        refine lv_aload_n hx hb dX11_silent_26 rfl (lv_at hl 0 rfl) ?_
        refine va_get (D := (dC, dI)) (ci := 11) (C := RX11) (T := TX11) (N := 19) hx hb hts hinX11 hown hK hP 0 rfl rfl 3 (by decide) (v := .ref (raC 0)) k_fieldLink_RX11_23__KeyLetters___scene___LKeyLetters_Scene__ (fun _ h9 => h9) rfl dX11_silent_27 ?_
        refine va_getN (D := (dC, dI)) (ci := 8) (C := RX7) (T := TX7) (N := 3) hx hb hts hinX7 hown hK hP 1 rfl rfl 0 (by decide) (v := .ref (raO 0)) (va_Nw.use rfl (hN _ (List.mem_of_getElem? (i := 50) rfl))) (fun _ h9 => h9) rfl dX11_silent_30 ?_
        obtain ⟨v2, TRv3, hq1, hf⟩ := bo2_e hf
        refine g_callw (isC := [20, 21, 22, 23, 24, 2, 3, 4, 5, 6, 7, 8, 9]) (isR := [0, 1, 10, 11, 12, 13, 14, 15, 16, 17, 18, 19]) (wc := (ww_X9_passDay cs ad raTR raO TR_16 O)) (wz := (ww_X9_passDay cs ad raTR raO zD zD)) (w1 := (ww_X9_passDay cs ad raTR raO TRv3 O)) (ws' := (ww_X11_silent cs ad raK raC raO raS raN raTR xK0 xK2 xK4 xK5 xK6 xK7 xK8 xK9 xK11 xK12 xK13 xK14 xK18 K C O S N TRv3)) (v := v2) (va_runVN (As := [.ref (raO 0)]) (rest := []) ⟨hx, hb, hml, hown, hts⟩ (c_X9_passDay l dC dI cs ad raTR raO _ TR_16 O (v2, TRv3) hq1) ⟨va_cnB 1 hts gX11_silent_X9_passDay_n267 rfl rfl rfl (hN _ (List.mem_of_getElem? (i := 112) rfl)) k_initialized_RX9 (by decide +kernel) ⟨Nat.le_of_ble_eq_true rfl, Nat.le_of_ble_eq_true rfl⟩, k_instanceMethod_yX9_passDay, k_selects_RX9_yX9_passDay_yX9_passDay⟩ ⟨fun a U g mk q => ⟨q.1, (fun _ _ _ _ => cPw_bl) a U g mk q.2⟩, va_recv hK hP (ci := 10) (q0 := 20) rfl rfl, fun U hU hW => ⟨rfl, ⟨by rw [hU], by rw [hU]; exact (hP.sub (ws' := (ww_X9_passDay cs ad raTR raO TR_16 O)) [20, 21, 22, 23, 24, 2, 3, 4, 5, 6, 7, 8, 9] rfl), va_K.moved hW.alike hK, (hD.sub (ws' := (ww_X9_passDay cs ad raTR raO TR_16 O)) [20, 21, 22, 23, 24, 2, 3, 4, 5, 6, 7, 8, 9] (by decide) rfl).weaken (fun _ _ _ _ => trivial), kN_warm hW hN⟩⟩⟩ rfl rfl hl.1 rfl (lv_room (Nat.le_of_ble_eq_true rfl)) dX11_silent_33 ⟨Nat.le_refl _, Nat.le_refl _⟩) hP hD hS hA rfl rfl (wr := ((wX11 cs ad raK xK0 xK2 (raC 0) xK4 xK5 xK6 xK7 xK8 xK9 (raTR 0) xK11 xK12 xK13 xK14 xK18 K) ++ ((wX7 cs ad raC (raO 0) (raS 0) (raN 0) C) ++ ((wX9 cs ad raS S) ++ ((wX8 cs ad raN N)))))) rfl rfl rfl (nw := 25) rfl (by decide +kernel) rfl (fun H locs hP hD hS => ?_)
        refine lv_if_ne (tgt := 41) hx hb dX11_silent_36 (by decide) (fun hb5 => ?_) (fun hb5 => ?_)
        · have hf := (if_neg hb5).symm.trans hf
          obtain ⟨v4, ev4, hf⟩ := bd1_e hf
          refine lv_iinc (k := 1) (x := x1_16) (v := v4) (nL := 2) (lv' := [(1, .int v4), (0, .ref (raK 0))]) hx hb dX11_silent_41 hl rfl (kt_inc (w := 1) (by decide) ev4) (by decide) rfl (fun ls hl => ?_)
          refine lv_goto (tgt := 16) hx hb dX11_silent_44 (by decide) ?_
          exact ih_16 v4 TRv3 ls _ _ (lv_sub hl [1, 0] rfl) hP hD hS hf
        · have hf := (if_pos hb5).symm.trans hf
          refine lv_iload_n hx hb dX11_silent_39 rfl (lv_at hl 1 rfl) ?_
          have hf := Option.some.inj hf
          subst hf
          exact c_iret (v := x1_16) hx hb hr hlocks hP hK hD hS dX11_silent_40) 2000
  refine lv_aload_n hx hb dX11_silent_0 rfl (lv_at hl 0 rfl) ?_
  refine va_get (D := (dC, dI)) (ci := 11) (C := RX11) (T := TX11) (N := 19) hx hb hts hinX11 hown hK hP 0 rfl rfl 10 (by decide) (v := .ref (raTR 0)) k_fieldLink_RX11_66__KeyLetters___trial___LKeyLetters_State__ (fun _ h9 => h9) rfl dX11_silent_1 ?_
  refine lv_aload_n hx hb dX11_silent_4 rfl (lv_at hl 0 rfl) ?_
  refine va_get (D := (dC, dI)) (ci := 11) (C := RX11) (T := TX11) (N := 19) hx hb hts hinX11 hown hK hP 0 rfl rfl 3 (by decide) (v := .ref (raC 0)) k_fieldLink_RX11_23__KeyLetters___scene___LKeyLetters_Scene__ (fun _ h9 => h9) rfl dX11_silent_5 ?_
  refine va_getN (D := (dC, dI)) (ci := 8) (C := RX7) (T := TX7) (N := 3) hx hb hts hinX7 hown hK hP 1 rfl rfl 1 (by decide) (v := .ref (raS 0)) (va_Nw.use rfl (hN _ (List.mem_of_getElem? (i := 51) rfl))) (fun _ h9 => h9) rfl dX11_silent_8 ?_
  obtain ⟨TRv8, hq7, hf⟩ := bo_e hf
  refine g_callv (isC := [20, 21, 22, 23, 24, 10, 11, 12, 13, 14]) (isR := [0, 1, 2, 3, 4, 5, 6, 7, 8, 9, 15, 16, 17, 18, 19]) (wc := (ww_X9_copyFrom cs ad raTR raS TR S)) (wz := (ww_X9_copyFrom cs ad raTR raS zD zD)) (w1 := (ww_X9_copyFrom cs ad raTR raS TRv8 S)) (ws' := (ww_X11_silent cs ad raK raC raO raS raN raTR xK0 xK2 xK4 xK5 xK6 xK7 xK8 xK9 xK11 xK12 xK13 xK14 xK18 K C O S N TRv8)) (va_runVN (As := [.ref (raS 0)]) (rest := []) ⟨hx, hb, hml, hown, hts⟩ (c_X9_copyFrom l dC dI cs ad raTR raS _ TR S TRv8 hq7) ⟨va_cnB 1 hts gX11_silent_X9_copyFrom_n264 rfl rfl rfl (hN _ (List.mem_of_getElem? (i := 111) rfl)) k_initialized_RX9 (by decide +kernel) ⟨Nat.le_of_ble_eq_true rfl, Nat.le_of_ble_eq_true rfl⟩, k_instanceMethod_yX9_copyFrom, k_selects_RX9_yX9_copyFrom_yX9_copyFrom⟩ ⟨fun a U g mk q => ⟨q.1, (fun _ _ _ _ => cPw_bl) a U g mk q.2⟩, va_recv hK hP (ci := 10) (q0 := 20) rfl rfl, fun U hU hW => ⟨rfl, ⟨by rw [hU], by rw [hU]; exact (hP.sub (ws' := (ww_X9_copyFrom cs ad raTR raS TR S)) [20, 21, 22, 23, 24, 10, 11, 12, 13, 14] rfl), va_K.moved hW.alike hK, (hD.sub (ws' := (ww_X9_copyFrom cs ad raTR raS TR S)) [20, 21, 22, 23, 24, 10, 11, 12, 13, 14] (by decide) rfl).weaken (fun _ _ _ _ => trivial), kN_warm hW hN⟩⟩⟩ rfl rfl hl.1 rfl (lv_room (Nat.le_of_ble_eq_true rfl)) dX11_silent_11 ⟨Nat.le_refl _, Nat.le_refl _⟩) hP hD hS hA rfl rfl (wr := ((wX11 cs ad raK xK0 xK2 (raC 0) xK4 xK5 xK6 xK7 xK8 xK9 (raTR 0) xK11 xK12 xK13 xK14 xK18 K) ++ ((wX7 cs ad raC (raO 0) (raS 0) (raN 0) C) ++ ((wX3 cs ad raO O) ++ ((wX8 cs ad raN N)))))) rfl rfl rfl (nw := 25) rfl (by decide +kernel) rfl (fun H locs hP hD hS => ?_)
  refine lv_iconst (v := 1) hx hb dX11_silent_14 (by decide) ?_
  refine lv_istore_n (nL := 2) (lv' := [(1, .int (1 : Int32)), (0, .ref (raK 0))]) hx hb dX11_silent_15 rfl hl (by decide) rfl (fun ls hl => ?_)
  exact h_16 (1 : Int32) TRv8 ls _ _ (lv_sub hl [1, 0] rfl) hP hD hS hf

def ww_X11_waysAt (cs : Nat → ClassId) (ad : Nat → Nat) (raK : Nat → Nat) (raRW : Nat → Nat) (xK0 : Nat) (xK2 : Nat) (xK3 : Nat) (xK4 : Nat) (xK5 : Nat) (xK6 : Nat) (xK7 : Nat) (xK8 : Nat) (xK9 : Nat) (xK10 : Nat) (xK11 : Nat) (xK12 : Nat) (xK14 : Nat) (xK18 : Nat) (xRW0 : Nat) (xRW1 : Nat) (K : kD) (RW : kD) : va_W := (wX11 cs ad raK xK0 xK2 xK3 xK4 xK5 xK6 xK7 xK8 xK9 xK10 xK11 xK12 (raRW 0) xK14 xK18 K ++ (wX6 cs ad raRW xRW0 xRW1 RW))
abbrev rm_X11_waysAt : Room := { frames := 0, cells := 0, slots := 0, locals := 0 }
set_option maxHeartbeats 4000000 in
set_option maxRecDepth 100000 in
theorem c_X11_waysAt (l : Launch) (dC : Nat → ClassId) (dI : Nat → Nat → Nat) (cs : Nat → ClassId) (ad : Nat → Nat) (raK : Nat → Nat) (raRW : Nat → Nat) (xK0 : Nat) (xK2 : Nat) (xK3 : Nat) (xK4 : Nat) (xK5 : Nat) (xK6 : Nat) (xK7 : Nat) (xK8 : Nat) (xK9 : Nat) (xK10 : Nat) (xK11 : Nat) (xK12 : Nat) (xK14 : Nat) (xK18 : Nat) (xRW0 : Nat) (xRW1 : Nat) (K : kD) (RW : kD) (a0 : Int32) (r : Int32) (hf : f_X11_waysAt a0 K RW = some r) : Met l yX11_waysAt wsX11_waysAt rm_X11_waysAt (va_Pc [.ref (raK 0), .int a0] (cPr dC dI cs (ww_X11_waysAt cs ad raK raRW xK0 xK2 xK3 xK4 xK5 xK6 xK7 xK8 xK9 xK10 xK11 xK12 xK14 xK18 xRW0 xRW1 K RW))) (kQ (some (.int r))) 0 0 (kF) := by
  refine Met.ofW (cc := cX11_waysAt) (maxL := 2) (ret := (some .int)) (by decide) rfl ?_
  intro p e s m args below meth c s₁ B hml hv
  obtain ⟨hav, hP, hK, hN⟩ := hv
  have hx := B.exec
  have hb := B.bytes
  have hr := B.returns
  have hts := atoms_spec (ws := wsX11_waysAt) B.pre
  have hown : s.vm.findClass RX11 = some m.cls := findClass_of_methodNamed B.named
  have hlocks := B.notSynchronized
  have hinX11 := (show ∀ w ∈ wsX110, w ∈ wsX11_waysAt from fun w h => List.mem_cons_of_mem _ (List.mem_append_left _ (List.mem_append_right _ h)))
  have hinX6 := (show ∀ w ∈ wsX60, w ∈ wsX11_waysAt from fun w h => List.mem_cons_of_mem _ (List.mem_append_right _ h))
  have k_fieldLink_RX11_87__KeyLetters___rows___LKeyLetters_Rows__ := hts (.fieldLink RX11 87 "KeyLetters" "rows" "LKeyLetters$Rows;") (List.mem_of_getElem? (i := 1) rfl)
  have hl := lv_entry ([.ref (raK 0), .int a0]) (n := 2) (Nat.le_of_ble_eq_true rfl)
  rw [show entryFrame m args 2 = entryFrame m ([.ref (raK 0), .int a0] : List Value).toArray 2 from by rw [hav], lg_entry_eq]
  generalize (lg_sl ([.ref (raK 0), .int a0]) ++ List.replicate (2 - (lg_sl ([.ref (raK 0), .int a0])).length) Slot.unset).toArray = ls at hl ⊢
  have hl : lv_has ls 2 [(0, .ref (raK 0)), (1, .int a0)] := hl
  unfold f_X11_waysAt at hf
  refine lv_iload_n hx hb dX11_waysAt_0 rfl (lv_at hl 1 rfl) ?_
  refine lv_if_lt (tgt := 27) hx hb dX11_waysAt_1 (by decide) (fun hb3 => ?_) (fun hb3 => ?_)
  · have hf := (if_pos hb3).symm.trans hf
    refine lv_iconst (v := -1) hx hb dX11_waysAt_27 (by decide) ?_
    have hf := Option.some.inj hf
    subst hf
    exact W.iret (v := (-1 : Int32)) hx hb hr (fun t ht hW => ⟨rfl, ht⟩) (fun _ h => nomatch h) dX11_waysAt_28
  · have hf := (if_neg hb3).symm.trans hf
    refine lv_iload_n hx hb dX11_waysAt_4 rfl (lv_at hl 1 rfl) ?_
    refine lv_aload_n hx hb dX11_waysAt_5 rfl (lv_at hl 0 rfl) ?_
    refine va_get (D := (dC, dI)) (ci := 11) (C := RX11) (T := TX11) (N := 19) hx hb hts hinX11 hown hK hP 0 rfl rfl 13 (by decide) (v := .ref (raRW 0)) k_fieldLink_RX11_87__KeyLetters___rows___LKeyLetters_Rows__ (fun _ h9 => h9) rfl dX11_waysAt_6 ?_
    refine va_getN (D := (dC, dI)) (ci := 7) (C := RX6) (T := TX6) (N := 5) hx hb hts hinX6 hown hK hP 1 rfl rfl 3 (by decide) (v := .int (RW.1 0 3)) (va_Nw.use rfl (hN _ (List.mem_of_getElem? (i := 69) rfl))) (fun _ h9 => h9) rfl dX11_waysAt_9 ?_
    refine lv_icmp_ge (tgt := 27) hx hb dX11_waysAt_12 (by decide) (fun hb2 => ?_) (fun hb2 => ?_)
    · have hf := (if_pos hb2).symm.trans hf
      refine lv_iconst (v := -1) hx hb dX11_waysAt_27 (by decide) ?_
      have hf := Option.some.inj hf
      subst hf
      exact W.iret (v := (-1 : Int32)) hx hb hr (fun t ht hW => ⟨rfl, ht⟩) (fun _ h => nomatch h) dX11_waysAt_28
    · have hf := (if_neg hb2).symm.trans hf
      refine lv_aload_n hx hb dX11_waysAt_15 rfl (lv_at hl 0 rfl) ?_
      refine va_get (D := (dC, dI)) (ci := 11) (C := RX11) (T := TX11) (N := 19) hx hb hts hinX11 hown hK hP 0 rfl rfl 13 (by decide) (v := .ref (raRW 0)) k_fieldLink_RX11_87__KeyLetters___rows___LKeyLetters_Rows__ (fun _ h9 => h9) rfl dX11_waysAt_16 ?_
      refine va_getN (D := (dC, dI)) (ci := 7) (C := RX6) (T := TX6) (N := 5) hx hb hts hinX6 hown hK hP 1 rfl rfl 2 (by decide) (v := .ref (raRW 2)) (va_Nw.use rfl (hN _ (List.mem_of_getElem? (i := 68) rfl))) (fun _ h9 => h9) rfl dX11_waysAt_19 ?_
      refine lv_iload_n hx hb dX11_waysAt_22 rfl (lv_at hl 1 rfl) ?_
      obtain ⟨hc1, hf⟩ := ck_e hf
      refine va_iald hx hb hK hP 2 1 rfl rfl hc1 dX11_waysAt_23 ?_
      refine lv_goto (tgt := 28) hx hb dX11_waysAt_24 (by decide) ?_
      have hf := Option.some.inj hf
      subst hf
      exact W.iret (v := (RW.1 2 a0.toNatClampNeg)) hx hb hr (fun t ht hW => ⟨rfl, ht⟩) (fun _ h => nomatch h) dX11_waysAt_28

def ww_X11_ask (cs : Nat → ClassId) (ad : Nat → Nat) (raK : Nat → Nat) (raRW : Nat → Nat) (xK0 : Nat) (xK2 : Nat) (xK3 : Nat) (xK4 : Nat) (xK5 : Nat) (xK6 : Nat) (xK7 : Nat) (xK8 : Nat) (xK9 : Nat) (xK10 : Nat) (xK11 : Nat) (xK12 : Nat) (xK14 : Nat) (xK18 : Nat) (xRW0 : Nat) (xRW1 : Nat) (K : kD) (RW : kD) : va_W := (wX11 cs ad raK xK0 xK2 xK3 xK4 xK5 xK6 xK7 xK8 xK9 xK10 xK11 xK12 (raRW 0) xK14 xK18 K ++ (wX6 cs ad raRW xRW0 xRW1 RW))
abbrev rm_X11_ask : Room := { frames := 0, cells := 0, slots := 0, locals := 0 }
set_option maxHeartbeats 4000000 in
set_option maxRecDepth 100000 in
theorem c_X11_ask (l : Launch) (dC : Nat → ClassId) (dI : Nat → Nat → Nat) (cs : Nat → ClassId) (ad : Nat → Nat) (raK : Nat → Nat) (raRW : Nat → Nat) (xK0 : Nat) (xK2 : Nat) (xK3 : Nat) (xK4 : Nat) (xK5 : Nat) (xK6 : Nat) (xK7 : Nat) (xK8 : Nat) (xK9 : Nat) (xK10 : Nat) (xK11 : Nat) (xK12 : Nat) (xK14 : Nat) (xK18 : Nat) (xRW0 : Nat) (xRW1 : Nat) (K : kD) (RW : kD) (r : Int32) (hf : f_X11_ask K RW = r) : Met l yX11_ask wsX11_ask rm_X11_ask (va_Pc [.ref (raK 0)] (cPr dC dI cs (ww_X11_ask cs ad raK raRW xK0 xK2 xK3 xK4 xK5 xK6 xK7 xK8 xK9 xK10 xK11 xK12 xK14 xK18 xRW0 xRW1 K RW))) (kQ (some (.int r))) 0 0 (kF) := by
  refine Met.ofW (cc := cX11_ask) (maxL := 1) (ret := (some .int)) (by decide) rfl ?_
  intro p e s m args below meth c s₁ B hml hv
  obtain ⟨hav, hP, hK, hN⟩ := hv
  have hx := B.exec
  have hb := B.bytes
  have hr := B.returns
  have hts := atoms_spec (ws := wsX11_ask) B.pre
  have hown : s.vm.findClass RX11 = some m.cls := findClass_of_methodNamed B.named
  have hlocks := B.notSynchronized
  have hinX11 := (show ∀ w ∈ wsX110, w ∈ wsX11_ask from fun w h => List.mem_cons_of_mem _ (List.mem_append_left _ (List.mem_append_right _ h)))
  have hinX6 := (show ∀ w ∈ wsX60, w ∈ wsX11_ask from fun w h => List.mem_cons_of_mem _ (List.mem_append_right _ h))
  have k_fieldLink_RX11_87__KeyLetters___rows___LKeyLetters_Rows__ := hts (.fieldLink RX11 87 "KeyLetters" "rows" "LKeyLetters$Rows;") (List.mem_of_getElem? (i := 1) rfl)
  have hl := lv_entry ([.ref (raK 0)]) (n := 1) (Nat.le_of_ble_eq_true rfl)
  rw [show entryFrame m args 1 = entryFrame m ([.ref (raK 0)] : List Value).toArray 1 from by rw [hav], lg_entry_eq]
  generalize (lg_sl ([.ref (raK 0)]) ++ List.replicate (1 - (lg_sl ([.ref (raK 0)])).length) Slot.unset).toArray = ls at hl ⊢
  have hl : lv_has ls 1 [(0, .ref (raK 0))] := hl
  unfold f_X11_ask at hf
  refine lv_aload_n hx hb dX11_ask_0 rfl (lv_at hl 0 rfl) ?_
  refine va_get (D := (dC, dI)) (ci := 11) (C := RX11) (T := TX11) (N := 19) hx hb hts hinX11 hown hK hP 0 rfl rfl 13 (by decide) (v := .ref (raRW 0)) k_fieldLink_RX11_87__KeyLetters___rows___LKeyLetters_Rows__ (fun _ h9 => h9) rfl dX11_ask_1 ?_
  refine va_getN (D := (dC, dI)) (ci := 7) (C := RX6) (T := TX6) (N := 5) hx hb hts hinX6 hown hK hP 1 rfl rfl 4 (by decide) (v := .int (RW.1 0 4)) (va_Nw.use rfl (hN _ (List.mem_of_getElem? (i := 70) rfl))) (fun _ h9 => h9) rfl dX11_ask_4 ?_
  subst hf
  exact W.iret (v := (RW.1 0 4)) hx hb hr (fun t ht hW => ⟨rfl, ht⟩) (fun _ h => nomatch h) dX11_ask_7

def ww_X11_tellsPhrases (cs : Nat → ClassId) (ad : Nat → Nat) (raK : Nat → Nat) (raT : Nat) (raC : Nat → Nat) (raO : Nat → Nat) (raS : Nat → Nat) (raN : Nat → Nat) (xK2 : Nat) (xK4 : Nat) (xK5 : Nat) (xK6 : Nat) (xK7 : Nat) (xK8 : Nat) (xK9 : Nat) (xK10 : Nat) (xK11 : Nat) (xK12 : Nat) (xK13 : Nat) (xK14 : Nat) (xK18 : Nat) (K : kD) (T : Nat → Int32) (C : kD) (O : kD) (S : kD) (N : kD) : va_W := (wX11 cs ad raK raT xK2 (raC 0) xK4 xK5 xK6 xK7 xK8 xK9 xK10 xK11 xK12 xK13 xK14 xK18 K ++ ([(raT, .inl (cs 1, 940, .inl T))] ++ (wX7 cs ad raC (raO 0) (raS 0) (raN 0) C ++ (wX3 cs ad raO O ++ (wX9 cs ad raS S ++ (wX8 cs ad raN N))))))
abbrev rm_X11_tellsPhrases : Room := { frames := 1, cells := 0, slots := 0, locals := 21 }
set_option maxHeartbeats 4000000 in
set_option maxRecDepth 100000 in
theorem c_X11_tellsPhrases (l : Launch) (dC : Nat → ClassId) (dI : Nat → Nat → Nat) (cs : Nat → ClassId) (ad : Nat → Nat) (raK : Nat → Nat) (raT : Nat) (raC : Nat → Nat) (raO : Nat → Nat) (raS : Nat → Nat) (raN : Nat → Nat) (xK2 : Nat) (xK4 : Nat) (xK5 : Nat) (xK6 : Nat) (xK7 : Nat) (xK8 : Nat) (xK9 : Nat) (xK10 : Nat) (xK11 : Nat) (xK12 : Nat) (xK13 : Nat) (xK14 : Nat) (xK18 : Nat) (K : kD) (T : Nat → Int32) (C : kD) (O : kD) (S : kD) (N : kD) (a0 : Int32) (r : Int32) (hf : f_X11_tellsPhrases a0 K T C O S N = some r) : Met l yX11_tellsPhrases wsX11_tellsPhrases rm_X11_tellsPhrases (va_Pc [.ref (raK 0), .int a0] (cPr dC dI cs (ww_X11_tellsPhrases cs ad raK raT raC raO raS raN xK2 xK4 xK5 xK6 xK7 xK8 xK9 xK10 xK11 xK12 xK13 xK14 xK18 K T C O S N))) (kQ (some (.int r))) 0 0 (kF) := by
  refine Met.ofW (cc := cX11_tellsPhrases) (maxL := 3) (ret := (some .boolean)) (by decide) rfl ?_
  intro p e s m args below meth c s₁ B hml hv
  obtain ⟨hav, hP, hK, hN⟩ := hv
  have hx := B.exec
  have hb := B.bytes
  have hr := B.returns
  have hts := atoms_spec (ws := wsX11_tellsPhrases) B.pre
  have hown : s.vm.findClass RX11 = some m.cls := findClass_of_methodNamed B.named
  have hlocks := B.notSynchronized
  have hinX11 := (show ∀ w ∈ wsX110, w ∈ wsX11_tellsPhrases from fun w h => List.mem_cons_of_mem _ (List.mem_append_left _ (List.mem_append_left _ (List.mem_append_right _ h))))
  have hinX7 := (show ∀ w ∈ wsX70, w ∈ wsX11_tellsPhrases from fun w h => List.mem_cons_of_mem _ (List.mem_append_left _ (List.mem_append_right _ h)))
  have k_fieldLink_RX11_23__KeyLetters___scene___LKeyLetters_Scene__ := hts (.fieldLink RX11 23 "KeyLetters" "scene" "LKeyLetters$Scene;") (List.mem_of_getElem? (i := 1) rfl)
  have k_fieldLink_RX11_9__KeyLetters___tape____I_ := hts (.fieldLink RX11 9 "KeyLetters" "tape" "[I") (List.mem_of_getElem? (i := 2) rfl)
  have k_initialized_RX3 := hts (.initialized RX3) (List.mem_of_getElem? (i := 4) rfl)
  have k_instanceMethod_yX3_hasPhrase := hts (.instanceMethod yX3_hasPhrase) (List.mem_of_getElem? (i := 3) rfl)
  have k_selects_RX3_yX3_hasPhrase_yX3_hasPhrase := hts (.selects RX3 yX3_hasPhrase yX3_hasPhrase) (List.mem_of_getElem? (i := 5) rfl)
  have hl := lv_entry ([.ref (raK 0), .int a0]) (n := 3) (Nat.le_of_ble_eq_true rfl)
  rw [show entryFrame m args 3 = entryFrame m ([.ref (raK 0), .int a0] : List Value).toArray 3 from by rw [hav], lg_entry_eq]
  generalize (lg_sl ([.ref (raK 0), .int a0]) ++ List.replicate (3 - (lg_sl ([.ref (raK 0), .int a0])).length) Slot.unset).toArray = ls at hl ⊢
  have hl : lv_has ls 3 [(0, .ref (raK 0)), (1, .int a0)] := hl
  unfold f_X11_tellsPhrases at hf
  have h_15 := lp_ind (z := (fun _ _ => none)) (b := (g_X11_tellsPhrases_15 K T C O S N)) (fun (rc_15 : Int32 → Int32 → Option Int32) => ∀ (x1_15 : Int32) (x2_15 : Int32) (ls : Array Slot), lv_has ls 3 [(0, .ref (raK 0)), (1, .int x1_15), (2, .int x2_15)] → rc_15 x1_15 x2_15 = some r → W p l e (headSpec wsX11_tellsPhrases rm_X11_tellsPhrases).room s m args below meth c s.heap [] 0 0 (MQ below (kQ (some (.int r))) args s 0 0 (kF)) (F0 m 15 ls [])) (by
      intro x1_15 x2_15 ls hl hf
      cases hf) (by
      intro rc_15 ih_15 x1_15 x2_15 ls hl hf
      unfold g_X11_tellsPhrases_15 at hf
      refine lv_iload_n hx hb dX11_tellsPhrases_15 rfl (lv_at hl 2 rfl) ?_
      refine lv_iload_n hx hb dX11_tellsPhrases_16 rfl (lv_at hl 1 rfl) ?_
      refine lv_icmp_ge (tgt := 47) hx hb dX11_tellsPhrases_17 (by decide) (fun hb4 => ?_) (fun hb4 => ?_)
      · have hf := (if_pos hb4).symm.trans hf
        refine lv_iconst (v := 1) hx hb dX11_tellsPhrases_47 (by decide) ?_
        have hf := Option.some.inj hf
        subst hf
        exact W.zret (v := (1 : Int32)) (ty := .boolean) hx hb hr rfl (fun t ht hW => ⟨rfl, ht⟩) (fun _ h => nomatch h) dX11_tellsPhrases_48
      · have hf := (if_neg hb4).symm.trans hf
        refine lv_aload_n hx hb dX11_tellsPhrases_20 rfl (lv_at hl 0 rfl) ?_
        refine va_get (D := (dC, dI)) (ci := 11) (C := RX11) (T := TX11) (N := 19) hx hb hts hinX11 hown hK hP 0 rfl rfl 3 (by decide) (v := .ref (raC 0)) k_fieldLink_RX11_23__KeyLetters___scene___LKeyLetters_Scene__ (fun _ h9 => h9) rfl dX11_tellsPhrases_21 ?_
        refine va_getN (D := (dC, dI)) (ci := 8) (C := RX7) (T := TX7) (N := 3) hx hb hts hinX7 hown hK hP 2 rfl rfl 0 (by decide) (v := .ref (raO 0)) (va_Nw.use rfl (hN _ (List.mem_of_getElem? (i := 50) rfl))) (fun _ h9 => h9) rfl dX11_tellsPhrases_24 ?_
        refine lv_aload_n hx hb dX11_tellsPhrases_27 rfl (lv_at hl 0 rfl) ?_
        refine va_get (D := (dC, dI)) (ci := 11) (C := RX11) (T := TX11) (N := 19) hx hb hts hinX11 hown hK hP 0 rfl rfl 0 (by decide) (v := .ref raT) k_fieldLink_RX11_9__KeyLetters___tape____I_ (fun _ h9 => h9) rfl dX11_tellsPhrases_28 ?_
        refine lv_iload_n hx hb dX11_tellsPhrases_31 rfl (lv_at hl 2 rfl) ?_
        obtain ⟨hc1, hf⟩ := ck_e hf
        refine va_iald hx hb hK hP 1 1 rfl rfl hc1 dX11_tellsPhrases_32 ?_
        refine ko_call (v := some (.int (f_X3_hasPhrase (T x2_15.toNatClampNeg) O))) (va_runVN (As := [.int (T x2_15.toNatClampNeg)]) (rest := []) ⟨hx, hb, hml, hown, hts⟩ (c_X3_hasPhrase l dC dI cs ad raO O (T x2_15.toNatClampNeg) _ rfl) ⟨va_cnB 1 hts gX11_tellsPhrases_X3_hasPhrase_n182 rfl rfl rfl (hN _ (List.mem_of_getElem? (i := 90) rfl)) k_initialized_RX3 (by decide +kernel) ⟨Nat.le_of_ble_eq_true rfl, Nat.le_of_ble_eq_true rfl⟩, k_instanceMethod_yX3_hasPhrase, k_selects_RX3_yX3_hasPhrase_yX3_hasPhrase⟩ ⟨fun a U g mk q => ⟨q.1, (fun _ _ _ _ => cPr_bl) a U g mk q.2⟩, va_recv hK hP (ci := 4) (q0 := 3) rfl rfl, fun U hU hW => ⟨rfl, ⟨by rw [hU]; exact (hP.sub (ws' := (ww_X3_hasPhrase cs ad raO O)) [3, 4, 5, 6, 7, 8, 9, 10] rfl), va_K.moved hW.alike hK, kN_warm hW hN⟩⟩⟩ rfl rfl hl.1 rfl (lv_room (Nat.le_of_ble_eq_true rfl)) dX11_tellsPhrases_33 ⟨Nat.le_refl _, Nat.le_refl _⟩) ?_
        refine lv_if_ne (tgt := 41) hx hb dX11_tellsPhrases_36 (by decide) (fun hb3 => ?_) (fun hb3 => ?_)
        · have hf := (if_neg hb3).symm.trans hf
          obtain ⟨v2, ev2, hf⟩ := bd1_e hf
          refine lv_iinc (k := 2) (x := x2_15) (v := v2) (nL := 3) (lv' := [(2, .int v2), (0, .ref (raK 0)), (1, .int x1_15)]) hx hb dX11_tellsPhrases_41 hl rfl (kt_inc (w := 1) (by decide) ev2) (by decide) rfl (fun ls hl => ?_)
          refine lv_goto (tgt := 15) hx hb dX11_tellsPhrases_44 (by decide) ?_
          exact ih_15 x1_15 v2 ls (lv_sub hl [1, 2, 0] rfl) hf
        · have hf := (if_pos hb3).symm.trans hf
          refine lv_iconst (v := 0) hx hb dX11_tellsPhrases_39 (by decide) ?_
          have hf := Option.some.inj hf
          subst hf
          exact W.zret (v := (0 : Int32)) (ty := .boolean) hx hb hr rfl (fun t ht hW => ⟨rfl, ht⟩) (fun _ h => nomatch h) dX11_tellsPhrases_40) 2000
  refine lv_iload_n hx hb dX11_tellsPhrases_0 rfl (lv_at hl 1 rfl) ?_
  refine lv_iconst (v := 1) hx hb dX11_tellsPhrases_1 (by decide) ?_
  refine lv_icmp_lt (tgt := 11) hx hb dX11_tellsPhrases_2 (by decide) (fun hb6 => ?_) (fun hb6 => ?_)
  · have hf := (if_pos hb6).symm.trans hf
    refine lv_iconst (v := 0) hx hb dX11_tellsPhrases_11 (by decide) ?_
    have hf := Option.some.inj hf
    subst hf
    exact W.zret (v := (0 : Int32)) (ty := .boolean) hx hb hr rfl (fun t ht hW => ⟨rfl, ht⟩) (fun _ h => nomatch h) dX11_tellsPhrases_12
  · have hf := (if_neg hb6).symm.trans hf
    refine lv_iload_n hx hb dX11_tellsPhrases_5 rfl (lv_at hl 1 rfl) ?_
    refine lv_bipush (v := 9) hx hb dX11_tellsPhrases_6 (by decide) ?_
    refine lv_icmp_le (tgt := 13) hx hb dX11_tellsPhrases_8 (by decide) (fun hb5 => ?_) (fun hb5 => ?_)
    · have hf := (if_pos hb5).symm.trans hf
      refine lv_iconst (v := 0) hx hb dX11_tellsPhrases_13 (by decide) ?_
      refine lv_istore_n (nL := 3) (lv' := [(2, .int (0 : Int32)), (0, .ref (raK 0)), (1, .int a0)]) hx hb dX11_tellsPhrases_14 rfl hl (by decide) rfl (fun ls hl => ?_)
      exact h_15 a0 (0 : Int32) ls (lv_sub hl [1, 2, 0] rfl) hf
    · have hf := (if_neg hb5).symm.trans hf
      refine lv_iconst (v := 0) hx hb dX11_tellsPhrases_11 (by decide) ?_
      have hf := Option.some.inj hf
      subst hf
      exact W.zret (v := (0 : Int32)) (ty := .boolean) hx hb hr rfl (fun t ht hW => ⟨rfl, ht⟩) (fun _ h => nomatch h) dX11_tellsPhrases_12

abbrev rm_J13_bitCount_95d88 : Room := { frames := 0, cells := 0, slots := 0, locals := 0 }
set_option maxHeartbeats 4000000 in
set_option maxRecDepth 100000 in
theorem c_J13_bitCount_95d88 (l : Launch) (dC : Nat → ClassId) (dI : Nat → Nat → Nat) (cs : Nat → ClassId) (ad : Nat → Nat) (a0 : Int64) (r : Int32) (hf : f_J13_bitCount_95d88 a0 = r) : Met l yJ13_bitCount_95d88 wsJ13_bitCount_95d88 rm_J13_bitCount_95d88 (va_Pc [.long a0] (cPr dC dI cs ([] : va_W))) (kQ (some (.int r))) 0 0 (kF) := by
  refine Met.ofW (cc := cJ13_bitCount_95d88) (maxL := 2) (ret := (some .int)) (by decide) rfl ?_
  intro p e s m args below meth c s₁ B hml hv
  obtain ⟨hav, hP, hK, hN⟩ := hv
  have hx := B.exec
  have hb := B.bytes
  have hr := B.returns
  have hts := atoms_spec (ws := wsJ13_bitCount_95d88) B.pre
  have hown : s.vm.findClass RJ13 = some m.cls := findClass_of_methodNamed B.named
  have hlocks := B.notSynchronized
  have k_constantLong_RJ13_314_6148914691236517205 := hts (.constantLong RJ13 314 6148914691236517205) (by decide +kernel)
  have k_constantLong_RJ13_316_3689348814741910323 := hts (.constantLong RJ13 316 3689348814741910323) (by decide +kernel)
  have k_constantLong_RJ13_318_1085102592571150095 := hts (.constantLong RJ13 318 1085102592571150095) (by decide +kernel)
  have hl := lv_entry ([.long a0]) (n := 2) (Nat.le_of_ble_eq_true rfl)
  rw [show entryFrame m args 2 = entryFrame m ([.long a0] : List Value).toArray 2 from by rw [hav], lg_entry_eq]
  generalize (lg_sl ([.long a0]) ++ List.replicate (2 - (lg_sl ([.long a0])).length) Slot.unset).toArray = ls at hl ⊢
  have hl : lv_has ls 2 [(0, .long a0)] := hl
  unfold f_J13_bitCount_95d88 at hf
  refine lv_lload_n hx hb dJ13_bitCount_95d88_0 rfl (lv_at hl 0 rfl) ?_
  refine lv_lload_n hx hb dJ13_bitCount_95d88_1 rfl (lv_at hl 0 rfl) ?_
  refine lv_iconst (v := 1) hx hb dJ13_bitCount_95d88_2 (by decide) ?_
  refine lv_lushr (v := (kUshrL a0 (1 : Int32))) hx hb dJ13_bitCount_95d88_3 rfl ?_
  refine lv_ldc2 (v := 6148914691236517205) hx hb hown k_constantLong_RJ13_314_6148914691236517205 dJ13_bitCount_95d88_4 ?_
  refine lv_land hx hb dJ13_bitCount_95d88_7 ?_
  refine lv_lsub hx hb dJ13_bitCount_95d88_8 ?_
  obtain ⟨v1, ev1, hf⟩ := bd1_e hf
  refine kt_j ev1 ?_
  refine lv_lstore_n (nL := 2) (lv' := [(0, .long v1)]) hx hb dJ13_bitCount_95d88_9 rfl hl (by decide) rfl (fun ls hl => ?_)
  refine lv_lload_n hx hb dJ13_bitCount_95d88_10 rfl (lv_at hl 0 rfl) ?_
  refine lv_ldc2 (v := 3689348814741910323) hx hb hown k_constantLong_RJ13_316_3689348814741910323 dJ13_bitCount_95d88_11 ?_
  refine lv_land hx hb dJ13_bitCount_95d88_14 ?_
  refine lv_lload_n hx hb dJ13_bitCount_95d88_15 rfl (lv_at hl 0 rfl) ?_
  refine lv_iconst (v := 2) hx hb dJ13_bitCount_95d88_16 (by decide) ?_
  refine lv_lushr (v := (kUshrL v1 (2 : Int32))) hx hb dJ13_bitCount_95d88_17 rfl ?_
  refine lv_ldc2 (v := 3689348814741910323) hx hb hown k_constantLong_RJ13_316_3689348814741910323 dJ13_bitCount_95d88_18 ?_
  refine lv_land hx hb dJ13_bitCount_95d88_21 ?_
  refine lv_ladd hx hb dJ13_bitCount_95d88_22 ?_
  obtain ⟨v2, ev2, hf⟩ := bd1_e hf
  refine kt_j ev2 ?_
  refine lv_lstore_n (nL := 2) (lv' := [(0, .long v2)]) hx hb dJ13_bitCount_95d88_23 rfl hl (by decide) rfl (fun ls hl => ?_)
  refine lv_lload_n hx hb dJ13_bitCount_95d88_24 rfl (lv_at hl 0 rfl) ?_
  refine lv_lload_n hx hb dJ13_bitCount_95d88_25 rfl (lv_at hl 0 rfl) ?_
  refine lv_iconst (v := 4) hx hb dJ13_bitCount_95d88_26 (by decide) ?_
  refine lv_lushr (v := (kUshrL v2 (4 : Int32))) hx hb dJ13_bitCount_95d88_27 rfl ?_
  refine lv_ladd hx hb dJ13_bitCount_95d88_28 ?_
  refine lv_ldc2 (v := 1085102592571150095) hx hb hown k_constantLong_RJ13_318_1085102592571150095 dJ13_bitCount_95d88_29 ?_
  refine lv_land hx hb dJ13_bitCount_95d88_32 ?_
  obtain ⟨v3, ev3, hf⟩ := bd1_e hf
  refine kt_j ev3 ?_
  refine lv_lstore_n (nL := 2) (lv' := [(0, .long v3)]) hx hb dJ13_bitCount_95d88_33 rfl hl (by decide) rfl (fun ls hl => ?_)
  refine lv_lload_n hx hb dJ13_bitCount_95d88_34 rfl (lv_at hl 0 rfl) ?_
  refine lv_lload_n hx hb dJ13_bitCount_95d88_35 rfl (lv_at hl 0 rfl) ?_
  refine lv_bipush (v := 8) hx hb dJ13_bitCount_95d88_36 (by decide) ?_
  refine lv_lushr (v := (kUshrL v3 (8 : Int32))) hx hb dJ13_bitCount_95d88_38 rfl ?_
  refine lv_ladd hx hb dJ13_bitCount_95d88_39 ?_
  obtain ⟨v4, ev4, hf⟩ := bd1_e hf
  refine kt_j ev4 ?_
  refine lv_lstore_n (nL := 2) (lv' := [(0, .long v4)]) hx hb dJ13_bitCount_95d88_40 rfl hl (by decide) rfl (fun ls hl => ?_)
  refine lv_lload_n hx hb dJ13_bitCount_95d88_41 rfl (lv_at hl 0 rfl) ?_
  refine lv_lload_n hx hb dJ13_bitCount_95d88_42 rfl (lv_at hl 0 rfl) ?_
  refine lv_bipush (v := 16) hx hb dJ13_bitCount_95d88_43 (by decide) ?_
  refine lv_lushr (v := (kUshrL v4 (16 : Int32))) hx hb dJ13_bitCount_95d88_45 rfl ?_
  refine lv_ladd hx hb dJ13_bitCount_95d88_46 ?_
  obtain ⟨v5, ev5, hf⟩ := bd1_e hf
  refine kt_j ev5 ?_
  refine lv_lstore_n (nL := 2) (lv' := [(0, .long v5)]) hx hb dJ13_bitCount_95d88_47 rfl hl (by decide) rfl (fun ls hl => ?_)
  refine lv_lload_n hx hb dJ13_bitCount_95d88_48 rfl (lv_at hl 0 rfl) ?_
  refine lv_lload_n hx hb dJ13_bitCount_95d88_49 rfl (lv_at hl 0 rfl) ?_
  refine lv_bipush (v := 32) hx hb dJ13_bitCount_95d88_50 (by decide) ?_
  refine lv_lushr (v := (kUshrL v5 (32 : Int32))) hx hb dJ13_bitCount_95d88_52 rfl ?_
  refine lv_ladd hx hb dJ13_bitCount_95d88_53 ?_
  obtain ⟨v6, ev6, hf⟩ := bd1_e hf
  refine kt_j ev6 ?_
  refine lv_lstore_n (nL := 2) (lv' := [(0, .long v6)]) hx hb dJ13_bitCount_95d88_54 rfl hl (by decide) rfl (fun ls hl => ?_)
  refine lv_lload_n hx hb dJ13_bitCount_95d88_55 rfl (lv_at hl 0 rfl) ?_
  refine lv_l2i (v := v6.toInt32) hx hb dJ13_bitCount_95d88_56 rfl ?_
  refine lv_bipush (v := 127) hx hb dJ13_bitCount_95d88_57 (by decide) ?_
  refine lv_iand hx hb dJ13_bitCount_95d88_59 ?_
  subst hf
  exact W.iret (v := (v6.toInt32 &&& (127 : Int32))) hx hb hr (fun t ht hW => ⟨rfl, ht⟩) (fun _ h => nomatch h) dJ13_bitCount_95d88_60

def ww_X11_lacks (cs : Nat → ClassId) (ad : Nat → Nat) (raK : Nat → Nat) (raT : Nat) (raC : Nat → Nat) (raO : Nat → Nat) (raS : Nat → Nat) (raN : Nat → Nat) (xK2 : Nat) (xK4 : Nat) (xK5 : Nat) (xK6 : Nat) (xK7 : Nat) (xK8 : Nat) (xK9 : Nat) (xK10 : Nat) (xK11 : Nat) (xK12 : Nat) (xK13 : Nat) (xK14 : Nat) (xK18 : Nat) (K : kD) (T : Nat → Int32) (C : kD) (O : kD) (S : kD) (N : kD) : va_W := (wX11 cs ad raK raT xK2 (raC 0) xK4 xK5 xK6 xK7 xK8 xK9 xK10 xK11 xK12 xK13 xK14 xK18 K ++ ([(raT, .inl (cs 1, 940, .inl T))] ++ (wX7 cs ad raC (raO 0) (raS 0) (raN 0) C ++ (wX3 cs ad raO O ++ (wX9 cs ad raS S ++ (wX8 cs ad raN N))))))
abbrev rm_X11_lacks : Room := { frames := 2, cells := 0, slots := 0, locals := 43 }
set_option maxHeartbeats 4000000 in
set_option maxRecDepth 100000 in
theorem c_X11_lacks (l : Launch) (dC : Nat → ClassId) (dI : Nat → Nat → Nat) (cs : Nat → ClassId) (ad : Nat → Nat) (raK : Nat → Nat) (raT : Nat) (raC : Nat → Nat) (raO : Nat → Nat) (raS : Nat → Nat) (raN : Nat → Nat) (xK2 : Nat) (xK4 : Nat) (xK5 : Nat) (xK6 : Nat) (xK7 : Nat) (xK8 : Nat) (xK9 : Nat) (xK10 : Nat) (xK11 : Nat) (xK12 : Nat) (xK13 : Nat) (xK14 : Nat) (xK18 : Nat) (sz : Nat) (K : kD) (T : Nat → Int32) (C : kD) (O : kD) (S : kD) (N : kD) (r : Int32 × kD) (hf : f_X11_lacks K T C O S N = some r) : Met l yX11_lacks wsX11_lacks rm_X11_lacks (va_Pc [.ref (raK 0)] (cPw dC dI cs sz (ww_X11_lacks cs ad raK raT raC raO raS raN xK2 xK4 xK5 xK6 xK7 xK8 xK9 xK10 xK11 xK12 xK13 xK14 xK18 K T C O S N))) (cQi dC dI cs (va_A (ww_X11_lacks cs ad raK raT raC raO raS raN xK2 xK4 xK5 xK6 xK7 xK8 xK9 xK10 xK11 xK12 xK13 xK14 xK18 zD (fun _ => 0) zD zD zD zD) sz) r.1 (ww_X11_lacks cs ad raK raT raC raO raS raN xK2 xK4 xK5 xK6 xK7 xK8 xK9 xK10 xK11 xK12 xK13 xK14 xK18 r.2 T C O S N)) 0 0 (va_A (ww_X11_lacks cs ad raK raT raC raO raS raN xK2 xK4 xK5 xK6 xK7 xK8 xK9 xK10 xK11 xK12 xK13 xK14 xK18 zD (fun _ => 0) zD zD zD zD) sz) := by
  refine Met.ofW (cc := cX11_lacks) (maxL := 5) (ret := (some .int)) (by decide) rfl ?_
  intro p e s m args below meth c s₁ B hml hv
  obtain ⟨hav, hsz, hP, hK, hD0, hN⟩ := hv
  have hx := B.exec
  have hb := B.bytes
  have hr := B.returns
  have hts := atoms_spec (ws := wsX11_lacks) B.pre
  have hown : s.vm.findClass RX11 = some m.cls := findClass_of_methodNamed B.named
  have hlocks := B.notSynchronized
  subst hsz
  have hA : ∀ q, s.heap.size ≤ q → va_A (ww_X11_lacks cs ad raK raT raC raO raS raN xK2 xK4 xK5 xK6 xK7 xK8 xK9 xK10 xK11 xK12 xK13 xK14 xK18 zD (fun _ => 0) zD zD zD zD) s.heap.size q := fun q h => Or.inr h
  have hD : va_D (va_A (ww_X11_lacks cs ad raK raT raC raO raS raN xK2 xK4 xK5 xK6 xK7 xK8 xK9 xK10 xK11 xK12 xK13 xK14 xK18 zD (fun _ => 0) zD zD zD zD) s.heap.size) (ww_X11_lacks cs ad raK raT raC raO raS raN xK2 xK4 xK5 xK6 xK7 xK8 xK9 xK10 xK11 xK12 xK13 xK14 xK18 K T C O S N) := hD0.weaken (fun k q h _ => cA_in (ws := (ww_X11_lacks cs ad raK raT raC raO raS raN xK2 xK4 xK5 xK6 xK7 xK8 xK9 xK10 xK11 xK12 xK13 xK14 xK18 K T C O S N)) (ws' := (ww_X11_lacks cs ad raK raT raC raO raS raN xK2 xK4 xK5 xK6 xK7 xK8 xK9 xK10 xK11 xK12 xK13 xK14 xK18 zD (fun _ => 0) zD zD zD zD)) rfl h)
  have hS : va_S (va_A (ww_X11_lacks cs ad raK raT raC raO raS raN xK2 xK4 xK5 xK6 xK7 xK8 xK9 xK10 xK11 xK12 xK13 xK14 xK18 zD (fun _ => 0) zD zD zD zD) s.heap.size) s.heap s.heap [] := va_S.rf
  have hinX11 := (show ∀ w ∈ wsX110, w ∈ wsX11_lacks from fun w h => List.mem_cons_of_mem _ (List.mem_append_left _ (List.mem_append_left _ (List.mem_append_right _ h))))
  have hinX7 := (show ∀ w ∈ wsX70, w ∈ wsX11_lacks from fun w h => List.mem_cons_of_mem _ (List.mem_append_left _ (List.mem_append_right _ h)))
  have k_fieldLink_RX11_23__KeyLetters___scene___LKeyLetters_Scene__ := hts (.fieldLink RX11 23 "KeyLetters" "scene" "LKeyLetters$Scene;") (List.mem_of_getElem? (i := 1) rfl)
  have k_fieldLink_RX11_9__KeyLetters___tape____I_ := hts (.fieldLink RX11 9 "KeyLetters" "tape" "[I") (List.mem_of_getElem? (i := 2) rfl)
  have k_initialized_RX3 := hts (.initialized RX3) (List.mem_of_getElem? (i := 14) rfl)
  have k_instanceMethod_yX3_isAnswer := hts (.instanceMethod yX3_isAnswer) (List.mem_of_getElem? (i := 18) rfl)
  have k_selects_RX3_yX3_isAnswer_yX3_isAnswer := hts (.selects RX3 yX3_isAnswer yX3_isAnswer) (List.mem_of_getElem? (i := 19) rfl)
  have hl := lv_entry ([.ref (raK 0)]) (n := 5) (Nat.le_of_ble_eq_true rfl)
  rw [show entryFrame m args 5 = entryFrame m ([.ref (raK 0)] : List Value).toArray 5 from by rw [hav], lg_entry_eq]
  generalize (lg_sl ([.ref (raK 0)]) ++ List.replicate (5 - (lg_sl ([.ref (raK 0)])).length) Slot.unset).toArray = ls at hl ⊢
  have hl : lv_has ls 5 [(0, .ref (raK 0))] := hl
  unfold f_X11_lacks at hf
  have h_86 : ∀ (x2_86 : Int64) (K_86 : kD) (ls : Array Slot) (H : Heap) (locs : List Loc), lv_has ls 5 [(2, .long x2_86)] → va_P (dC, dI) vwCl (ww_X11_lacks cs ad raK raT raC raO raS raN xK2 xK4 xK5 xK6 xK7 xK8 xK9 xK10 xK11 xK12 xK13 xK14 xK18 K_86 T C O S N) H → va_D (va_A (ww_X11_lacks cs ad raK raT raC raO raS raN xK2 xK4 xK5 xK6 xK7 xK8 xK9 xK10 xK11 xK12 xK13 xK14 xK18 zD (fun _ => 0) zD zD zD zD) s.heap.size) (ww_X11_lacks cs ad raK raT raC raO raS raN xK2 xK4 xK5 xK6 xK7 xK8 xK9 xK10 xK11 xK12 xK13 xK14 xK18 K_86 T C O S N) → va_S (va_A (ww_X11_lacks cs ad raK raT raC raO raS raN xK2 xK4 xK5 xK6 xK7 xK8 xK9 xK10 xK11 xK12 xK13 xK14 xK18 zD (fun _ => 0) zD zD zD zD) s.heap.size) s.heap H locs → g_X11_lacks_86 T C O S N x2_86 K_86 = some r → W p l e (headSpec wsX11_lacks rm_X11_lacks).room s m args below meth c H locs 0 0 (MQ below (cQi dC dI cs (va_A (ww_X11_lacks cs ad raK raT raC raO raS raN xK2 xK4 xK5 xK6 xK7 xK8 xK9 xK10 xK11 xK12 xK13 xK14 xK18 zD (fun _ => 0) zD zD zD zD) s.heap.size) r.1 (ww_X11_lacks cs ad raK raT raC raO raS raN xK2 xK4 xK5 xK6 xK7 xK8 xK9 xK10 xK11 xK12 xK13 xK14 xK18 r.2 T C O S N)) args s 0 0 (va_A (ww_X11_lacks cs ad raK raT raC raO raS raN xK2 xK4 xK5 xK6 xK7 xK8 xK9 xK10 xK11 xK12 xK13 xK14 xK18 zD (fun _ => 0) zD zD zD zD) s.heap.size)) (F0 m 86 ls []) := by
    intro x2_86 K_86 ls H locs hl hP hD hS hf
    unfold g_X11_lacks_86 at hf
    refine lv_lload_n hx hb dX11_lacks_86 rfl (lv_at hl 0 rfl) ?_
    refine ko_call (v := some (.int (f_J13_bitCount_95d88 x2_86))) (va_runS (As := [.long x2_86]) (rest := []) ⟨hx, hb, hml, hown, hts⟩ (c_J13_bitCount_95d88 l dC dI cs ad x2_86 _ rfl) (va_cwS 1 hts gX11_lacks_J13_bitCount_95d88 rfl rfl rfl (by decide +kernel) ⟨Nat.le_of_ble_eq_true rfl, Nat.le_of_ble_eq_true rfl⟩) ⟨fun a U g mk q => ⟨q.1, (fun _ _ _ _ => cPr_bl) a U g mk q.2⟩, fun U hU hW => ⟨rfl, ⟨by rw [hU]; exact (hP.sub (ws' := ([] : va_W)) [] rfl), va_K.moved hW.alike hK, kN_warm hW hN⟩⟩⟩ rfl rfl hl.1 rfl (lv_room (Nat.le_of_ble_eq_true rfl)) dX11_lacks_87 ⟨Nat.le_refl _, Nat.le_refl _⟩) ?_
    have hf := Option.some.inj hf
    subst hf
    exact c_iret (v := (f_J13_bitCount_95d88 x2_86)) hx hb hr hlocks hP hK hD hS dX11_lacks_90
  have h_20 := lp_ind (z := (fun _ _ _ _ => none)) (b := (g_X11_lacks_20 T C O S N)) (fun (rc_20 : Int32 → Int64 → Int32 → kD → Option (Int32 × kD)) => ∀ (x1_20 : Int32) (x2_20 : Int64) (x4_20 : Int32) (K_20 : kD) (ls : Array Slot) (H : Heap) (locs : List Loc), lv_has ls 5 [(0, .ref (raK 0)), (1, .int x1_20), (2, .long x2_20), (4, .int x4_20)] → va_P (dC, dI) vwCl (ww_X11_lacks cs ad raK raT raC raO raS raN xK2 xK4 xK5 xK6 xK7 xK8 xK9 xK10 xK11 xK12 xK13 xK14 xK18 K_20 T C O S N) H → va_D (va_A (ww_X11_lacks cs ad raK raT raC raO raS raN xK2 xK4 xK5 xK6 xK7 xK8 xK9 xK10 xK11 xK12 xK13 xK14 xK18 zD (fun _ => 0) zD zD zD zD) s.heap.size) (ww_X11_lacks cs ad raK raT raC raO raS raN xK2 xK4 xK5 xK6 xK7 xK8 xK9 xK10 xK11 xK12 xK13 xK14 xK18 K_20 T C O S N) → va_S (va_A (ww_X11_lacks cs ad raK raT raC raO raS raN xK2 xK4 xK5 xK6 xK7 xK8 xK9 xK10 xK11 xK12 xK13 xK14 xK18 zD (fun _ => 0) zD zD zD zD) s.heap.size) s.heap H locs → rc_20 x1_20 x2_20 x4_20 K_20 = some r → W p l e (headSpec wsX11_lacks rm_X11_lacks).room s m args below meth c H locs 0 0 (MQ below (cQi dC dI cs (va_A (ww_X11_lacks cs ad raK raT raC raO raS raN xK2 xK4 xK5 xK6 xK7 xK8 xK9 xK10 xK11 xK12 xK13 xK14 xK18 zD (fun _ => 0) zD zD zD zD) s.heap.size) r.1 (ww_X11_lacks cs ad raK raT raC raO raS raN xK2 xK4 xK5 xK6 xK7 xK8 xK9 xK10 xK11 xK12 xK13 xK14 xK18 r.2 T C O S N)) args s 0 0 (va_A (ww_X11_lacks cs ad raK raT raC raO raS raN xK2 xK4 xK5 xK6 xK7 xK8 xK9 xK10 xK11 xK12 xK13 xK14 xK18 zD (fun _ => 0) zD zD zD zD) s.heap.size)) (F0 m 20 ls [])) (by
      intro x1_20 x2_20 x4_20 K_20 ls H locs hl hP hD hS hf
      cases hf) (by
      intro rc_20 ih_20 x1_20 x2_20 x4_20 K_20 ls H locs hl hP hD hS hf
      unfold g_X11_lacks_20 at hf
      have h_80 : ∀ (x1_80 : Int32) (x2_80 : Int64) (x4_80 : Int32) (K_80 : kD) (ls : Array Slot) (H : Heap) (locs : List Loc), lv_has ls 5 [(0, .ref (raK 0)), (1, .int x1_80), (2, .long x2_80), (4, .int x4_80)] → va_P (dC, dI) vwCl (ww_X11_lacks cs ad raK raT raC raO raS raN xK2 xK4 xK5 xK6 xK7 xK8 xK9 xK10 xK11 xK12 xK13 xK14 xK18 K_80 T C O S N) H → va_D (va_A (ww_X11_lacks cs ad raK raT raC raO raS raN xK2 xK4 xK5 xK6 xK7 xK8 xK9 xK10 xK11 xK12 xK13 xK14 xK18 zD (fun _ => 0) zD zD zD zD) s.heap.size) (ww_X11_lacks cs ad raK raT raC raO raS raN xK2 xK4 xK5 xK6 xK7 xK8 xK9 xK10 xK11 xK12 xK13 xK14 xK18 K_80 T C O S N) → va_S (va_A (ww_X11_lacks cs ad raK raT raC raO raS raN xK2 xK4 xK5 xK6 xK7 xK8 xK9 xK10 xK11 xK12 xK13 xK14 xK18 zD (fun _ => 0) zD zD zD zD) s.heap.size) s.heap H locs → g_X11_lacks_80 rc_20 T C O S N x1_80 x2_80 x4_80 K_80 = some r → W p l e (headSpec wsX11_lacks rm_X11_lacks).room s m args below meth c H locs 0 0 (MQ below (cQi dC dI cs (va_A (ww_X11_lacks cs ad raK raT raC raO raS raN xK2 xK4 xK5 xK6 xK7 xK8 xK9 xK10 xK11 xK12 xK13 xK14 xK18 zD (fun _ => 0) zD zD zD zD) s.heap.size) r.1 (ww_X11_lacks cs ad raK raT raC raO raS raN xK2 xK4 xK5 xK6 xK7 xK8 xK9 xK10 xK11 xK12 xK13 xK14 xK18 r.2 T C O S N)) args s 0 0 (va_A (ww_X11_lacks cs ad raK raT raC raO raS raN xK2 xK4 xK5 xK6 xK7 xK8 xK9 xK10 xK11 xK12 xK13 xK14 xK18 zD (fun _ => 0) zD zD zD zD) s.heap.size)) (F0 m 80 ls []) := by
        intro x1_80 x2_80 x4_80 K_80 ls H locs hl hP hD hS hf
        unfold g_X11_lacks_80 at hf
        obtain ⟨v1, ev1, hf⟩ := bd1_e hf
        refine lv_iinc (k := 3) (x := x4_80) (v := v1) (nL := 5) (lv' := [(4, .int v1), (0, .ref (raK 0)), (1, .int x1_80), (2, .long x2_80)]) hx hb dX11_lacks_80 hl rfl (kt_inc (w := 1) (by decide) ev1) (by decide) rfl (fun ls hl => ?_)
        refine lv_goto (tgt := 20) hx hb dX11_lacks_83 (by decide) ?_
        exact ih_20 x1_80 x2_80 v1 K_80 ls _ _ (lv_sub hl [1, 2, 3, 0] rfl) hP hD hS hf
      refine lv_iload hx hb dX11_lacks_20 (lv_at hl 3 rfl) ?_
      refine lv_iload_n hx hb dX11_lacks_22 rfl (lv_at hl 1 rfl) ?_
      refine lv_icmp_ge (tgt := 86) hx hb dX11_lacks_23 (by decide) (fun hb12 => ?_) (fun hb12 => ?_)
      · have hf := (if_pos hb12).symm.trans hf
        exact h_86 x2_20 K_20 ls _ _ (lv_sub hl [2] rfl) hP hD hS hf
      · have hf := (if_neg hb12).symm.trans hf
        refine lv_aload_n hx hb dX11_lacks_26 rfl (lv_at hl 0 rfl) ?_
        refine va_get (D := (dC, dI)) (ci := 11) (C := RX11) (T := TX11) (N := 19) hx hb hts hinX11 hown hK hP 0 rfl rfl 3 (by decide) (v := .ref (raC 0)) k_fieldLink_RX11_23__KeyLetters___scene___LKeyLetters_Scene__ (fun _ h9 => h9) rfl dX11_lacks_27 ?_
        refine va_getN (D := (dC, dI)) (ci := 8) (C := RX7) (T := TX7) (N := 3) hx hb hts hinX7 hown hK hP 2 rfl rfl 0 (by decide) (v := .ref (raO 0)) (va_Nw.use rfl (hN _ (List.mem_of_getElem? (i := 50) rfl))) (fun _ h9 => h9) rfl dX11_lacks_30 ?_
        refine lv_aload_n hx hb dX11_lacks_33 rfl (lv_at hl 0 rfl) ?_
        refine va_get (D := (dC, dI)) (ci := 11) (C := RX11) (T := TX11) (N := 19) hx hb hts hinX11 hown hK hP 0 rfl rfl 0 (by decide) (v := .ref raT) k_fieldLink_RX11_9__KeyLetters___tape____I_ (fun _ h9 => h9) rfl dX11_lacks_34 ?_
        refine lv_iload hx hb dX11_lacks_37 (lv_at hl 3 rfl) ?_
        obtain ⟨hc2, hf⟩ := ck_e hf
        refine va_iald hx hb hK hP 1 1 rfl rfl hc2 dX11_lacks_39 ?_
        refine lv_aload_n hx hb dX11_lacks_40 rfl (lv_at hl 0 rfl) ?_
        refine va_get (D := (dC, dI)) (ci := 11) (C := RX11) (T := TX11) (N := 19) hx hb hts hinX11 hown hK hP 0 rfl rfl 0 (by decide) (v := .ref raT) k_fieldLink_RX11_9__KeyLetters___tape____I_ (fun _ h9 => h9) rfl dX11_lacks_41 ?_
        refine lv_iload hx hb dX11_lacks_44 (lv_at hl 3 rfl) ?_
        refine lv_iconst (v := 1) hx hb dX11_lacks_46 (by decide) ?_
        refine lv_isub hx hb dX11_lacks_47 ?_
        obtain ⟨v3, ev3, hf⟩ := bd1_e hf
        refine kt_i ev3 ?_
        obtain ⟨hc4, hf⟩ := ck_e hf
        refine va_iald hx hb hK hP 1 1 rfl rfl hc4 dX11_lacks_48 ?_
        obtain ⟨v6, hq5, hf⟩ := bo_e hf
        refine ko_call (v := some (.int v6)) (va_runVN (As := [.int (T x4_20.toNatClampNeg), .int (T v3.toNatClampNeg)]) (rest := []) ⟨hx, hb, hml, hown, hts⟩ (c_X3_isAnswer l dC dI cs ad raO O (T x4_20.toNatClampNeg) (T v3.toNatClampNeg) v6 hq5) ⟨va_cnB 2 hts gX11_lacks_X3_isAnswer_n285 rfl rfl rfl (hN _ (List.mem_of_getElem? (i := 116) rfl)) k_initialized_RX3 (by decide +kernel) ⟨Nat.le_of_ble_eq_true rfl, Nat.le_of_ble_eq_true rfl⟩, k_instanceMethod_yX3_isAnswer, k_selects_RX3_yX3_isAnswer_yX3_isAnswer⟩ ⟨fun a U g mk q => ⟨q.1, (fun _ _ _ _ => cPr_bl) a U g mk q.2⟩, va_recv hK hP (ci := 4) (q0 := 3) rfl rfl, fun U hU hW => ⟨rfl, ⟨by rw [hU]; exact (hP.sub (ws' := (ww_X3_isAnswer cs ad raO O)) [3, 4, 5, 6, 7, 8, 9, 10] rfl), va_K.moved hW.alike hK, kN_warm hW hN⟩⟩⟩ rfl rfl hl.1 rfl (lv_room (Nat.le_of_ble_eq_true rfl)) dX11_lacks_49 ⟨Nat.le_refl _, Nat.le_refl _⟩) ?_
        refine lv_if_ne (tgt := 80) hx hb dX11_lacks_52 (by decide) (fun hb11 => ?_) (fun hb11 => ?_)
        · have hf := (if_neg hb11).symm.trans hf
          exact h_80 x1_20 x2_20 x4_20 K_20 ls _ _ hl hP hD hS hf
        · have hf := (if_pos hb11).symm.trans hf
          refine lv_lload_n hx hb dX11_lacks_55 rfl (lv_at hl 2 rfl) ?_
          refine lv_lconst (v := 1) hx hb dX11_lacks_56 (by decide) ?_
          refine lv_aload_n hx hb dX11_lacks_57 rfl (lv_at hl 0 rfl) ?_
          refine va_get (D := (dC, dI)) (ci := 11) (C := RX11) (T := TX11) (N := 19) hx hb hts hinX11 hown hK hP 0 rfl rfl 0 (by decide) (v := .ref raT) k_fieldLink_RX11_9__KeyLetters___tape____I_ (fun _ h9 => h9) rfl dX11_lacks_58 ?_
          refine lv_iload hx hb dX11_lacks_61 (lv_at hl 3 rfl) ?_
          refine lv_iconst (v := 1) hx hb dX11_lacks_63 (by decide) ?_
          refine lv_isub hx hb dX11_lacks_64 ?_
          obtain ⟨v7, ev7, hf⟩ := bd1_e hf
          refine kt_i ev7 ?_
          obtain ⟨hc8, hf⟩ := ck_e hf
          refine va_iald hx hb hK hP 1 1 rfl rfl hc8 dX11_lacks_65 ?_
          refine lv_bipush (v := 8) hx hb dX11_lacks_66 (by decide) ?_
          refine lv_imul hx hb dX11_lacks_68 ?_
          refine lv_aload_n hx hb dX11_lacks_69 rfl (lv_at hl 0 rfl) ?_
          refine va_get (D := (dC, dI)) (ci := 11) (C := RX11) (T := TX11) (N := 19) hx hb hts hinX11 hown hK hP 0 rfl rfl 0 (by decide) (v := .ref raT) k_fieldLink_RX11_9__KeyLetters___tape____I_ (fun _ h9 => h9) rfl dX11_lacks_70 ?_
          refine lv_iload hx hb dX11_lacks_73 (lv_at hl 3 rfl) ?_
          obtain ⟨hc9, hf⟩ := ck_e hf
          refine va_iald hx hb hK hP 1 1 rfl rfl hc9 dX11_lacks_75 ?_
          refine lv_iadd hx hb dX11_lacks_76 ?_
          refine lv_lshl (v := ((1 : Int64) <<< ((((T v7.toNatClampNeg) * (8 : Int32)) + (T x4_20.toNatClampNeg)).toInt64 &&& 63))) hx hb dX11_lacks_77 rfl ?_
          refine lv_lor hx hb dX11_lacks_78 ?_
          obtain ⟨v10, ev10, hf⟩ := bd1_e hf
          refine kt_j ev10 ?_
          refine lv_lstore_n (nL := 5) (lv' := [(2, .long v10), (0, .ref (raK 0)), (1, .int x1_20), (4, .int x4_20)]) hx hb dX11_lacks_79 rfl hl (by decide) rfl (fun ls hl => ?_)
          exact h_80 x1_20 v10 x4_20 K_20 ls _ _ (lv_sub hl [1, 2, 0, 3] rfl) hP hD hS hf) 2000
  refine lv_aload_n hx hb dX11_lacks_0 rfl (lv_at hl 0 rfl) ?_
  obtain ⟨v14, Kv15, hq13, hf⟩ := bo2_e hf
  refine g_callw (isC := [0]) (isR := [1, 2, 3, 4, 5, 6, 7, 8, 9, 10, 11, 12, 13, 14, 15, 16, 17, 18, 19, 20]) (wc := (ww_X11_takeTape cs ad raK raT xK2 (raC 0) xK4 xK5 xK6 xK7 xK8 xK9 xK10 xK11 xK12 xK13 xK14 xK18 K)) (wz := (ww_X11_takeTape cs ad raK raT xK2 (raC 0) xK4 xK5 xK6 xK7 xK8 xK9 xK10 xK11 xK12 xK13 xK14 xK18 zD)) (w1 := (ww_X11_takeTape cs ad raK raT xK2 (raC 0) xK4 xK5 xK6 xK7 xK8 xK9 xK10 xK11 xK12 xK13 xK14 xK18 Kv15)) (ws' := (ww_X11_lacks cs ad raK raT raC raO raS raN xK2 xK4 xK5 xK6 xK7 xK8 xK9 xK10 xK11 xK12 xK13 xK14 xK18 Kv15 T C O S N)) (v := v14) (va_runV (As := []) (rest := []) ⟨hx, hb, hml, hown, hts⟩ (c_X11_takeTape l dC dI cs ad raK raT xK2 (raC 0) xK4 xK5 xK6 xK7 xK8 xK9 xK10 xK11 xK12 xK13 xK14 xK18 _ K (v14, Kv15) hq13) (cwV 0 hts gX11_lacks_X11_takeTape rfl rfl rfl (by decide +kernel) ⟨Nat.le_of_ble_eq_true rfl, Nat.le_of_ble_eq_true rfl⟩) ⟨fun a U g mk q => ⟨q.1, (fun _ _ _ _ => cPw_bl) a U g mk q.2⟩, va_recv hK hP (ci := 11) (q0 := 0) rfl rfl, fun U hU hW => ⟨rfl, ⟨by rw [hU], by rw [hU]; exact (hP.sub (ws' := (ww_X11_takeTape cs ad raK raT xK2 (raC 0) xK4 xK5 xK6 xK7 xK8 xK9 xK10 xK11 xK12 xK13 xK14 xK18 K)) [0] rfl), va_K.moved hW.alike hK, (hD.sub (ws' := (ww_X11_takeTape cs ad raK raT xK2 (raC 0) xK4 xK5 xK6 xK7 xK8 xK9 xK10 xK11 xK12 xK13 xK14 xK18 K)) [0] (by decide) rfl).weaken (fun _ _ _ _ => trivial), kN_warm hW hN⟩⟩⟩ rfl rfl hl.1 rfl (lv_room (Nat.le_of_ble_eq_true rfl)) dX11_lacks_1 ⟨Nat.le_refl _, Nat.le_refl _⟩) hP hD hS hA rfl rfl (wr := (([(raT, .inl (cs 1, 940, .inl T))]) ++ ((wX7 cs ad raC (raO 0) (raS 0) (raN 0) C) ++ ((wX3 cs ad raO O) ++ ((wX9 cs ad raS S) ++ ((wX8 cs ad raN N))))))) rfl rfl rfl (nw := 21) rfl (by decide +kernel) rfl (fun H locs hP hD hS => ?_)
  refine lv_istore_n (nL := 5) (lv' := [(1, .int v14), (0, .ref (raK 0))]) hx hb dX11_lacks_4 rfl hl (by decide) rfl (fun ls hl => ?_)
  refine lv_aload_n hx hb dX11_lacks_5 rfl (lv_at hl 1 rfl) ?_
  refine lv_iload_n hx hb dX11_lacks_6 rfl (lv_at hl 0 rfl) ?_
  obtain ⟨v17, hq16, hf⟩ := bo_e hf
  refine ko_call (v := some (.int v17)) (va_runV (As := [.int v14]) (rest := []) ⟨hx, hb, hml, hown, hts⟩ (c_X11_tellsPhrases l dC dI cs ad raK raT raC raO raS raN xK2 xK4 xK5 xK6 xK7 xK8 xK9 xK10 xK11 xK12 xK13 xK14 xK18 Kv15 T C O S N v14 v17 hq16) (cwV 1 hts gX11_lacks_X11_tellsPhrases rfl rfl rfl (by decide +kernel) ⟨Nat.le_of_ble_eq_true rfl, Nat.le_of_ble_eq_true rfl⟩) ⟨fun a U g mk q => ⟨q.1, (fun _ _ _ _ => cPr_bl) a U g mk q.2⟩, va_recv hK hP (ci := 11) (q0 := 0) rfl rfl, fun U hU hW => ⟨rfl, ⟨by rw [hU]; exact (hP.sub (ws' := (ww_X11_tellsPhrases cs ad raK raT raC raO raS raN xK2 xK4 xK5 xK6 xK7 xK8 xK9 xK10 xK11 xK12 xK13 xK14 xK18 Kv15 T C O S N)) [0, 1, 2, 3, 4, 5, 6, 7, 8, 9, 10, 11, 12, 13, 14, 15, 16, 17, 18, 19, 20] rfl), va_K.moved hW.alike hK, kN_warm hW hN⟩⟩⟩ rfl rfl hl.1 rfl (lv_room (Nat.le_of_ble_eq_true rfl)) dX11_lacks_7 ⟨Nat.le_refl _, Nat.le_refl _⟩) ?_
  refine lv_if_ne (tgt := 15) hx hb dX11_lacks_10 (by decide) (fun hb18 => ?_) (fun hb18 => ?_)
  · have hf := (if_neg hb18).symm.trans hf
    refine lv_lconst (v := 0) hx hb dX11_lacks_15 (by decide) ?_
    refine lv_lstore_n (nL := 5) (lv' := [(2, .long (0 : Int64)), (1, .int v14), (0, .ref (raK 0))]) hx hb dX11_lacks_16 rfl hl (by decide) rfl (fun ls hl => ?_)
    refine lv_iconst (v := 1) hx hb dX11_lacks_17 (by decide) ?_
    refine lv_istore (nL := 5) (lv' := [(4, .int (1 : Int32)), (2, .long (0 : Int64)), (1, .int v14), (0, .ref (raK 0))]) hx hb dX11_lacks_18 hl (by decide) rfl (fun ls hl => ?_)
    exact h_20 v14 (0 : Int64) (1 : Int32) Kv15 ls _ _ (lv_sub hl [3, 2, 1, 0] rfl) hP hD hS hf
  · have hf := (if_pos hb18).symm.trans hf
    refine lv_iconst (v := -1) hx hb dX11_lacks_13 (by decide) ?_
    have hf := Option.some.inj hf
    subst hf
    exact c_iret (v := (-1 : Int32)) hx hb hr hlocks hP hK hD hS dX11_lacks_14

abbrev rm_X11_isLetter : Room := { frames := 0, cells := 0, slots := 0, locals := 0 }
set_option maxHeartbeats 4000000 in
set_option maxRecDepth 100000 in
theorem c_X11_isLetter (l : Launch) (dC : Nat → ClassId) (dI : Nat → Nat → Nat) (cs : Nat → ClassId) (ad : Nat → Nat) (a0 : Int32) (r : Int32) (hf : f_X11_isLetter a0 = r) : Met l yX11_isLetter wsX11_isLetter rm_X11_isLetter (va_Pc [.int a0] (cPr dC dI cs ([] : va_W))) (kQ (some (.int r))) 0 0 (kF) := by
  refine Met.ofW (cc := cX11_isLetter) (maxL := 1) (ret := (some .boolean)) (by decide) rfl ?_
  intro p e s m args below meth c s₁ B hml hv
  obtain ⟨hav, hP, hK, hN⟩ := hv
  have hx := B.exec
  have hb := B.bytes
  have hr := B.returns
  have hts := atoms_spec (ws := wsX11_isLetter) B.pre
  have hown : s.vm.findClass RX11 = some m.cls := findClass_of_methodNamed B.named
  have hlocks := B.notSynchronized
  have hl := lv_entry ([.int a0]) (n := 1) (Nat.le_of_ble_eq_true rfl)
  rw [show entryFrame m args 1 = entryFrame m ([.int a0] : List Value).toArray 1 from by rw [hav], lg_entry_eq]
  generalize (lg_sl ([.int a0]) ++ List.replicate (1 - (lg_sl ([.int a0])).length) Slot.unset).toArray = ls at hl ⊢
  have hl : lv_has ls 1 [(0, .int a0)] := hl
  unfold f_X11_isLetter at hf
  refine lv_iload_n hx hb dX11_isLetter_0 rfl (lv_at hl 0 rfl) ?_
  refine lv_bipush (v := 97) hx hb dX11_isLetter_1 (by decide) ?_
  refine lv_icmp_lt (tgt := 16) hx hb dX11_isLetter_3 (by decide) (fun hb2 => ?_) (fun hb2 => ?_)
  · have hf := (if_pos hb2).symm.trans hf
    refine lv_iconst (v := 0) hx hb dX11_isLetter_16 (by decide) ?_
    subst hf
    exact W.zret (v := (0 : Int32)) (ty := .boolean) hx hb hr rfl (fun t ht hW => ⟨rfl, ht⟩) (fun _ h => nomatch h) dX11_isLetter_17
  · have hf := (if_neg hb2).symm.trans hf
    refine lv_iload_n hx hb dX11_isLetter_6 rfl (lv_at hl 0 rfl) ?_
    refine lv_bipush (v := 122) hx hb dX11_isLetter_7 (by decide) ?_
    refine lv_icmp_gt (tgt := 16) hx hb dX11_isLetter_9 (by decide) (fun hb1 => ?_) (fun hb1 => ?_)
    · have hf := (if_pos hb1).symm.trans hf
      refine lv_iconst (v := 0) hx hb dX11_isLetter_16 (by decide) ?_
      subst hf
      exact W.zret (v := (0 : Int32)) (ty := .boolean) hx hb hr rfl (fun t ht hW => ⟨rfl, ht⟩) (fun _ h => nomatch h) dX11_isLetter_17
    · have hf := (if_neg hb1).symm.trans hf
      refine lv_iconst (v := 1) hx hb dX11_isLetter_12 (by decide) ?_
      refine lv_goto (tgt := 17) hx hb dX11_isLetter_13 (by decide) ?_
      subst hf
      exact W.zret (v := (1 : Int32)) (ty := .boolean) hx hb hr rfl (fun t ht hW => ⟨rfl, ht⟩) (fun _ h => nomatch h) dX11_isLetter_17
theorem z_X11_isLetter (a0 : Int32) : f_X11_isLetter a0 = 0 ∨ f_X11_isLetter a0 = 1 := by
  unfold f_X11_isLetter
  repeat' split
  all_goals first | exact Or.inl rfl | exact Or.inr rfl

def ww_X11_tellsFaintLetters (cs : Nat → ClassId) (ad : Nat → Nat) (raK : Nat → Nat) (raT : Nat) (xK2 : Nat) (xK3 : Nat) (xK4 : Nat) (xK5 : Nat) (xK6 : Nat) (xK7 : Nat) (xK8 : Nat) (xK9 : Nat) (xK10 : Nat) (xK11 : Nat) (xK12 : Nat) (xK13 : Nat) (xK14 : Nat) (xK18 : Nat) (K : kD) (T : Nat → Int32) : va_W := (wX11 cs ad raK raT xK2 xK3 xK4 xK5 xK6 xK7 xK8 xK9 xK10 xK11 xK12 xK13 xK14 xK18 K ++ ([(raT, .inl (cs 1, 940, .inl T))]))
abbrev rm_X11_tellsFaintLetters : Room := { frames := 1, cells := 0, slots := 0, locals := 20 }
set_option maxHeartbeats 4000000 in
set_option maxRecDepth 100000 in
theorem c_X11_tellsFaintLetters (l : Launch) (dC : Nat → ClassId) (dI : Nat → Nat → Nat) (cs : Nat → ClassId) (ad : Nat → Nat) (raK : Nat → Nat) (raT : Nat) (xK2 : Nat) (xK3 : Nat) (xK4 : Nat) (xK5 : Nat) (xK6 : Nat) (xK7 : Nat) (xK8 : Nat) (xK9 : Nat) (xK10 : Nat) (xK11 : Nat) (xK12 : Nat) (xK13 : Nat) (xK14 : Nat) (xK18 : Nat) (K : kD) (T : Nat → Int32) (a0 : Int32) (r : Int32) (hf : f_X11_tellsFaintLetters a0 K T = some r) : Met l yX11_tellsFaintLetters wsX11_tellsFaintLetters rm_X11_tellsFaintLetters (va_Pc [.ref (raK 0), .int a0] (cPr dC dI cs (ww_X11_tellsFaintLetters cs ad raK raT xK2 xK3 xK4 xK5 xK6 xK7 xK8 xK9 xK10 xK11 xK12 xK13 xK14 xK18 K T))) (kQ (some (.int r))) 0 0 (kF) := by
  refine Met.ofW (cc := cX11_tellsFaintLetters) (maxL := 3) (ret := (some .boolean)) (by decide) rfl ?_
  intro p e s m args below meth c s₁ B hml hv
  obtain ⟨hav, hP, hK, hN⟩ := hv
  have hx := B.exec
  have hb := B.bytes
  have hr := B.returns
  have hts := atoms_spec (ws := wsX11_tellsFaintLetters) B.pre
  have hown : s.vm.findClass RX11 = some m.cls := findClass_of_methodNamed B.named
  have hlocks := B.notSynchronized
  have hinX11 := (show ∀ w ∈ wsX110, w ∈ wsX11_tellsFaintLetters from fun w h => List.mem_cons_of_mem _ (List.mem_append_right _ h))
  have k_fieldLink_RX11_9__KeyLetters___tape____I_ := hts (.fieldLink RX11 9 "KeyLetters" "tape" "[I") (List.mem_of_getElem? (i := 1) rfl)
  have hl := lv_entry ([.ref (raK 0), .int a0]) (n := 3) (Nat.le_of_ble_eq_true rfl)
  rw [show entryFrame m args 3 = entryFrame m ([.ref (raK 0), .int a0] : List Value).toArray 3 from by rw [hav], lg_entry_eq]
  generalize (lg_sl ([.ref (raK 0), .int a0]) ++ List.replicate (3 - (lg_sl ([.ref (raK 0), .int a0])).length) Slot.unset).toArray = ls at hl ⊢
  have hl : lv_has ls 3 [(0, .ref (raK 0)), (1, .int a0)] := hl
  unfold f_X11_tellsFaintLetters at hf
  have h_15 := lp_ind (z := (fun _ _ => none)) (b := (g_X11_tellsFaintLetters_15 K T)) (fun (rc_15 : Int32 → Int32 → Option Int32) => ∀ (x1_15 : Int32) (x2_15 : Int32) (ls : Array Slot), lv_has ls 3 [(0, .ref (raK 0)), (1, .int x1_15), (2, .int x2_15)] → rc_15 x1_15 x2_15 = some r → W p l e (headSpec wsX11_tellsFaintLetters rm_X11_tellsFaintLetters).room s m args below meth c s.heap [] 0 0 (MQ below (kQ (some (.int r))) args s 0 0 (kF)) (F0 m 15 ls [])) (by
      intro x1_15 x2_15 ls hl hf
      cases hf) (by
      intro rc_15 ih_15 x1_15 x2_15 ls hl hf
      unfold g_X11_tellsFaintLetters_15 at hf
      have h_45 : ∀ (x1_45 : Int32) (x2_45 : Int32) (ls : Array Slot), lv_has ls 3 [(0, .ref (raK 0)), (1, .int x1_45), (2, .int x2_45)] → g_X11_tellsFaintLetters_45 rc_15 K T x1_45 x2_45 = some r → W p l e (headSpec wsX11_tellsFaintLetters rm_X11_tellsFaintLetters).room s m args below meth c s.heap [] 0 0 (MQ below (kQ (some (.int r))) args s 0 0 (kF)) (F0 m 45 ls []) := by
        intro x1_45 x2_45 ls hl hf
        unfold g_X11_tellsFaintLetters_45 at hf
        obtain ⟨v1, ev1, hf⟩ := bd1_e hf
        refine lv_iinc (k := 2) (x := x2_45) (v := v1) (nL := 3) (lv' := [(2, .int v1), (0, .ref (raK 0)), (1, .int x1_45)]) hx hb dX11_tellsFaintLetters_45 hl rfl (kt_inc (w := 1) (by decide) ev1) (by decide) rfl (fun ls hl => ?_)
        refine lv_goto (tgt := 15) hx hb dX11_tellsFaintLetters_48 (by decide) ?_
        exact ih_15 x1_45 v1 ls (lv_sub hl [1, 2, 0] rfl) hf
      refine lv_iload_n hx hb dX11_tellsFaintLetters_15 rfl (lv_at hl 2 rfl) ?_
      refine lv_iload_n hx hb dX11_tellsFaintLetters_16 rfl (lv_at hl 1 rfl) ?_
      refine lv_icmp_ge (tgt := 51) hx hb dX11_tellsFaintLetters_17 (by decide) (fun hb6 => ?_) (fun hb6 => ?_)
      · have hf := (if_pos hb6).symm.trans hf
        refine lv_iconst (v := 1) hx hb dX11_tellsFaintLetters_51 (by decide) ?_
        have hf := Option.some.inj hf
        subst hf
        exact W.zret (v := (1 : Int32)) (ty := .boolean) hx hb hr rfl (fun t ht hW => ⟨rfl, ht⟩) (fun _ h => nomatch h) dX11_tellsFaintLetters_52
      · have hf := (if_neg hb6).symm.trans hf
        refine lv_aload_n hx hb dX11_tellsFaintLetters_20 rfl (lv_at hl 0 rfl) ?_
        refine va_get (D := (dC, dI)) (ci := 11) (C := RX11) (T := TX11) (N := 19) hx hb hts hinX11 hown hK hP 0 rfl rfl 0 (by decide) (v := .ref raT) k_fieldLink_RX11_9__KeyLetters___tape____I_ (fun _ h9 => h9) rfl dX11_tellsFaintLetters_21 ?_
        refine lv_iload_n hx hb dX11_tellsFaintLetters_24 rfl (lv_at hl 2 rfl) ?_
        obtain ⟨hc2, hf⟩ := ck_e hf
        refine va_iald hx hb hK hP 1 1 rfl rfl hc2 dX11_tellsFaintLetters_25 ?_
        refine lv_bipush (v := 63) hx hb dX11_tellsFaintLetters_26 (by decide) ?_
        refine lv_icmp_eq (tgt := 45) hx hb dX11_tellsFaintLetters_28 (by decide) (fun hb5 => ?_) (fun hb5 => ?_)
        · have hf := (if_pos hb5).symm.trans hf
          exact h_45 x1_15 x2_15 ls hl hf
        · have hf := (if_neg hb5).symm.trans hf
          refine lv_aload_n hx hb dX11_tellsFaintLetters_31 rfl (lv_at hl 0 rfl) ?_
          refine va_get (D := (dC, dI)) (ci := 11) (C := RX11) (T := TX11) (N := 19) hx hb hts hinX11 hown hK hP 0 rfl rfl 0 (by decide) (v := .ref raT) k_fieldLink_RX11_9__KeyLetters___tape____I_ (fun _ h9 => h9) rfl dX11_tellsFaintLetters_32 ?_
          refine lv_iload_n hx hb dX11_tellsFaintLetters_35 rfl (lv_at hl 2 rfl) ?_
          obtain ⟨hc3, hf⟩ := ck_e hf
          refine va_iald hx hb hK hP 1 1 rfl rfl hc3 dX11_tellsFaintLetters_36 ?_
          refine ko_call (v := some (.int (f_X11_isLetter (T x2_15.toNatClampNeg)))) (va_runS (As := [.int (T x2_15.toNatClampNeg)]) (rest := []) ⟨hx, hb, hml, hown, hts⟩ (c_X11_isLetter l dC dI cs ad (T x2_15.toNatClampNeg) _ rfl) (va_cwS 1 hts gX11_tellsFaintLetters_X11_isLetter rfl rfl rfl (by decide +kernel) ⟨Nat.le_of_ble_eq_true rfl, Nat.le_of_ble_eq_true rfl⟩) ⟨fun a U g mk q => ⟨q.1, (fun _ _ _ _ => cPr_bl) a U g mk q.2⟩, fun U hU hW => ⟨rfl, ⟨by rw [hU]; exact (hP.sub (ws' := ([] : va_W)) [] rfl), va_K.moved hW.alike hK, kN_warm hW hN⟩⟩⟩ rfl rfl hl.1 rfl (lv_room (Nat.le_of_ble_eq_true rfl)) dX11_tellsFaintLetters_37 ⟨Nat.le_refl _, Nat.le_refl _⟩) ?_
          refine lv_if_ne (tgt := 45) hx hb dX11_tellsFaintLetters_40 (by decide) (fun hb4 => ?_) (fun hb4 => ?_)
          · have hf := (if_neg hb4).symm.trans hf
            exact h_45 x1_15 x2_15 ls hl hf
          · have hf := (if_pos hb4).symm.trans hf
            refine lv_iconst (v := 0) hx hb dX11_tellsFaintLetters_43 (by decide) ?_
            have hf := Option.some.inj hf
            subst hf
            exact W.zret (v := (0 : Int32)) (ty := .boolean) hx hb hr rfl (fun t ht hW => ⟨rfl, ht⟩) (fun _ h => nomatch h) dX11_tellsFaintLetters_44) 2000
  refine lv_iload_n hx hb dX11_tellsFaintLetters_0 rfl (lv_at hl 1 rfl) ?_
  refine lv_iconst (v := 1) hx hb dX11_tellsFaintLetters_1 (by decide) ?_
  refine lv_icmp_lt (tgt := 11) hx hb dX11_tellsFaintLetters_2 (by decide) (fun hb8 => ?_) (fun hb8 => ?_)
  · have hf := (if_pos hb8).symm.trans hf
    refine lv_iconst (v := 0) hx hb dX11_tellsFaintLetters_11 (by decide) ?_
    have hf := Option.some.inj hf
    subst hf
    exact W.zret (v := (0 : Int32)) (ty := .boolean) hx hb hr rfl (fun t ht hW => ⟨rfl, ht⟩) (fun _ h => nomatch h) dX11_tellsFaintLetters_12
  · have hf := (if_neg hb8).symm.trans hf
    refine lv_iload_n hx hb dX11_tellsFaintLetters_5 rfl (lv_at hl 1 rfl) ?_
    refine lv_bipush (v := 7) hx hb dX11_tellsFaintLetters_6 (by decide) ?_
    refine lv_icmp_le (tgt := 13) hx hb dX11_tellsFaintLetters_8 (by decide) (fun hb7 => ?_) (fun hb7 => ?_)
    · have hf := (if_pos hb7).symm.trans hf
      refine lv_iconst (v := 0) hx hb dX11_tellsFaintLetters_13 (by decide) ?_
      refine lv_istore_n (nL := 3) (lv' := [(2, .int (0 : Int32)), (0, .ref (raK 0)), (1, .int a0)]) hx hb dX11_tellsFaintLetters_14 rfl hl (by decide) rfl (fun ls hl => ?_)
      exact h_15 a0 (0 : Int32) ls (lv_sub hl [1, 2, 0] rfl) hf
    · have hf := (if_neg hb7).symm.trans hf
      refine lv_iconst (v := 0) hx hb dX11_tellsFaintLetters_11 (by decide) ?_
      have hf := Option.some.inj hf
      subst hf
      exact W.zret (v := (0 : Int32)) (ty := .boolean) hx hb hr rfl (fun t ht hW => ⟨rfl, ht⟩) (fun _ h => nomatch h) dX11_tellsFaintLetters_12

abbrev rm_X11_letterAt : Room := { frames := 0, cells := 0, slots := 0, locals := 0 }
set_option maxHeartbeats 4000000 in
set_option maxRecDepth 100000 in
theorem c_X11_letterAt (l : Launch) (dC : Nat → ClassId) (dI : Nat → Nat → Nat) (cs : Nat → ClassId) (ad : Nat → Nat) (a0 : Int64) (a1 : Int32) (r : Int32) (hf : f_X11_letterAt a0 a1 = r) : Met l yX11_letterAt wsX11_letterAt rm_X11_letterAt (va_Pc [.long a0, .int a1] (cPr dC dI cs ([] : va_W))) (kQ (some (.int r))) 0 0 (kF) := by
  refine Met.ofW (cc := cX11_letterAt) (maxL := 3) (ret := (some .int)) (by decide) rfl ?_
  intro p e s m args below meth c s₁ B hml hv
  obtain ⟨hav, hP, hK, hN⟩ := hv
  have hx := B.exec
  have hb := B.bytes
  have hr := B.returns
  have hts := atoms_spec (ws := wsX11_letterAt) B.pre
  have hown : s.vm.findClass RX11 = some m.cls := findClass_of_methodNamed B.named
  have hlocks := B.notSynchronized
  have hl := lv_entry ([.long a0, .int a1]) (n := 3) (Nat.le_of_ble_eq_true rfl)
  rw [show entryFrame m args 3 = entryFrame m ([.long a0, .int a1] : List Value).toArray 3 from by rw [hav], lg_entry_eq]
  generalize (lg_sl ([.long a0, .int a1]) ++ List.replicate (3 - (lg_sl ([.long a0, .int a1])).length) Slot.unset).toArray = ls at hl ⊢
  have hl : lv_has ls 3 [(0, .long a0), (2, .int a1)] := hl
  unfold f_X11_letterAt at hf
  refine lv_iload_n hx hb dX11_letterAt_0 rfl (lv_at hl 1 rfl) ?_
  refine lv_if_lt (tgt := 10) hx hb dX11_letterAt_1 (by decide) (fun hb2 => ?_) (fun hb2 => ?_)
  · have hf := (if_pos hb2).symm.trans hf
    refine lv_iconst (v := 0) hx hb dX11_letterAt_10 (by decide) ?_
    subst hf
    exact W.iret (v := (0 : Int32)) hx hb hr (fun t ht hW => ⟨rfl, ht⟩) (fun _ h => nomatch h) dX11_letterAt_11
  · have hf := (if_neg hb2).symm.trans hf
    refine lv_iload_n hx hb dX11_letterAt_4 rfl (lv_at hl 1 rfl) ?_
    refine lv_bipush (v := 7) hx hb dX11_letterAt_5 (by decide) ?_
    refine lv_icmp_lt (tgt := 12) hx hb dX11_letterAt_7 (by decide) (fun hb1 => ?_) (fun hb1 => ?_)
    · have hf := (if_pos hb1).symm.trans hf
      refine lv_lload_n hx hb dX11_letterAt_12 rfl (lv_at hl 0 rfl) ?_
      refine lv_bipush (v := 8) hx hb dX11_letterAt_13 (by decide) ?_
      refine lv_bipush (v := 6) hx hb dX11_letterAt_15 (by decide) ?_
      refine lv_iload_n hx hb dX11_letterAt_17 rfl (lv_at hl 1 rfl) ?_
      refine lv_isub hx hb dX11_letterAt_18 ?_
      refine lv_imul hx hb dX11_letterAt_19 ?_
      refine lv_lushr (v := (kUshrL a0 ((8 : Int32) * ((6 : Int32) - a1)))) hx hb dX11_letterAt_20 rfl ?_
      refine lv_l2i (v := ((kUshrL a0 ((8 : Int32) * ((6 : Int32) - a1))).toInt32)) hx hb dX11_letterAt_21 rfl ?_
      refine lv_sipush (v := 255) hx hb dX11_letterAt_22 (by decide) ?_
      refine lv_iand hx hb dX11_letterAt_25 ?_
      subst hf
      exact W.iret (v := (((kUshrL a0 ((8 : Int32) * ((6 : Int32) - a1))).toInt32) &&& (255 : Int32))) hx hb hr (fun t ht hW => ⟨rfl, ht⟩) (fun _ h => nomatch h) dX11_letterAt_26
    · have hf := (if_neg hb1).symm.trans hf
      refine lv_iconst (v := 0) hx hb dX11_letterAt_10 (by decide) ?_
      subst hf
      exact W.iret (v := (0 : Int32)) hx hb hr (fun t ht hW => ⟨rfl, ht⟩) (fun _ h => nomatch h) dX11_letterAt_11

def ww_X11_fits (cs : Nat → ClassId) (ad : Nat → Nat) (raK : Nat → Nat) (raT : Nat) (xK2 : Nat) (xK3 : Nat) (xK4 : Nat) (xK5 : Nat) (xK6 : Nat) (xK7 : Nat) (xK8 : Nat) (xK9 : Nat) (xK10 : Nat) (xK11 : Nat) (xK12 : Nat) (xK13 : Nat) (xK14 : Nat) (xK18 : Nat) (K : kD) (T : Nat → Int32) : va_W := (wX11 cs ad raK raT xK2 xK3 xK4 xK5 xK6 xK7 xK8 xK9 xK10 xK11 xK12 xK13 xK14 xK18 K ++ ([(raT, .inl (cs 1, 940, .inl T))]))
abbrev rm_X11_fits : Room := { frames := 1, cells := 0, slots := 0, locals := 22 }
set_option maxHeartbeats 4000000 in
set_option maxRecDepth 100000 in
theorem c_X11_fits (l : Launch) (dC : Nat → ClassId) (dI : Nat → Nat → Nat) (cs : Nat → ClassId) (ad : Nat → Nat) (raK : Nat → Nat) (raT : Nat) (xK2 : Nat) (xK3 : Nat) (xK4 : Nat) (xK5 : Nat) (xK6 : Nat) (xK7 : Nat) (xK8 : Nat) (xK9 : Nat) (xK10 : Nat) (xK11 : Nat) (xK12 : Nat) (xK13 : Nat) (xK14 : Nat) (xK18 : Nat) (K : kD) (T : Nat → Int32) (a0 : Int64) (a1 : Int32) (r : Int32) (hf : f_X11_fits a0 a1 K T = some r) : Met l yX11_fits wsX11_fits rm_X11_fits (va_Pc [.ref (raK 0), .long a0, .int a1] (cPr dC dI cs (ww_X11_fits cs ad raK raT xK2 xK3 xK4 xK5 xK6 xK7 xK8 xK9 xK10 xK11 xK12 xK13 xK14 xK18 K T))) (kQ (some (.int r))) 0 0 (kF) := by
  refine Met.ofW (cc := cX11_fits) (maxL := 5) (ret := (some .boolean)) (by decide) rfl ?_
  intro p e s m args below meth c s₁ B hml hv
  obtain ⟨hav, hP, hK, hN⟩ := hv
  have hx := B.exec
  have hb := B.bytes
  have hr := B.returns
  have hts := atoms_spec (ws := wsX11_fits) B.pre
  have hown : s.vm.findClass RX11 = some m.cls := findClass_of_methodNamed B.named
  have hlocks := B.notSynchronized
  have hinX11 := (show ∀ w ∈ wsX110, w ∈ wsX11_fits from fun w h => List.mem_cons_of_mem _ (List.mem_append_right _ h))
  have k_fieldLink_RX11_9__KeyLetters___tape____I_ := hts (.fieldLink RX11 9 "KeyLetters" "tape" "[I") (List.mem_of_getElem? (i := 1) rfl)
  have hl := lv_entry ([.ref (raK 0), .long a0, .int a1]) (n := 5) (Nat.le_of_ble_eq_true rfl)
  rw [show entryFrame m args 5 = entryFrame m ([.ref (raK 0), .long a0, .int a1] : List Value).toArray 5 from by rw [hav], lg_entry_eq]
  generalize (lg_sl ([.ref (raK 0), .long a0, .int a1]) ++ List.replicate (5 - (lg_sl ([.ref (raK 0), .long a0, .int a1])).length) Slot.unset).toArray = ls at hl ⊢
  have hl : lv_has ls 5 [(0, .ref (raK 0)), (1, .long a0), (3, .int a1)] := hl
  unfold f_X11_fits at hf
  have h_23 := lp_ind (z := (fun _ _ _ => none)) (b := (g_X11_fits_23 K T)) (fun (rc_23 : Int64 → Int32 → Int32 → Option Int32) => ∀ (x1_23 : Int64) (x3_23 : Int32) (x4_23 : Int32) (ls : Array Slot), lv_has ls 5 [(0, .ref (raK 0)), (1, .long x1_23), (3, .int x3_23), (4, .int x4_23)] → rc_23 x1_23 x3_23 x4_23 = some r → W p l e (headSpec wsX11_fits rm_X11_fits).room s m args below meth c s.heap [] 0 0 (MQ below (kQ (some (.int r))) args s 0 0 (kF)) (F0 m 23 ls [])) (by
      intro x1_23 x3_23 x4_23 ls hl hf
      cases hf) (by
      intro rc_23 ih_23 x1_23 x3_23 x4_23 ls hl hf
      unfold g_X11_fits_23 at hf
      have h_59 : ∀ (x1_59 : Int64) (x3_59 : Int32) (x4_59 : Int32) (ls : Array Slot), lv_has ls 5 [(0, .ref (raK 0)), (1, .long x1_59), (3, .int x3_59), (4, .int x4_59)] → g_X11_fits_59 rc_23 K T x1_59 x3_59 x4_59 = some r → W p l e (headSpec wsX11_fits rm_X11_fits).room s m args below meth c s.heap [] 0 0 (MQ below (kQ (some (.int r))) args s 0 0 (kF)) (F0 m 59 ls []) := by
        intro x1_59 x3_59 x4_59 ls hl hf
        unfold g_X11_fits_59 at hf
        obtain ⟨v1, ev1, hf⟩ := bd1_e hf
        refine lv_iinc (k := 3) (x := x4_59) (v := v1) (nL := 5) (lv' := [(4, .int v1), (0, .ref (raK 0)), (1, .long x1_59), (3, .int x3_59)]) hx hb dX11_fits_59 hl rfl (kt_inc (w := 1) (by decide) ev1) (by decide) rfl (fun ls hl => ?_)
        refine lv_goto (tgt := 23) hx hb dX11_fits_62 (by decide) ?_
        exact ih_23 x1_59 x3_59 v1 ls (lv_sub hl [1, 2, 3, 0] rfl) hf
      refine lv_iload hx hb dX11_fits_23 (lv_at hl 3 rfl) ?_
      refine lv_iload_n hx hb dX11_fits_25 rfl (lv_at hl 2 rfl) ?_
      refine lv_icmp_ge (tgt := 65) hx hb dX11_fits_26 (by decide) (fun hb6 => ?_) (fun hb6 => ?_)
      · have hf := (if_pos hb6).symm.trans hf
        refine lv_iconst (v := 1) hx hb dX11_fits_65 (by decide) ?_
        have hf := Option.some.inj hf
        subst hf
        exact W.zret (v := (1 : Int32)) (ty := .boolean) hx hb hr rfl (fun t ht hW => ⟨rfl, ht⟩) (fun _ h => nomatch h) dX11_fits_66
      · have hf := (if_neg hb6).symm.trans hf
        refine lv_aload_n hx hb dX11_fits_29 rfl (lv_at hl 0 rfl) ?_
        refine va_get (D := (dC, dI)) (ci := 11) (C := RX11) (T := TX11) (N := 19) hx hb hts hinX11 hown hK hP 0 rfl rfl 0 (by decide) (v := .ref raT) k_fieldLink_RX11_9__KeyLetters___tape____I_ (fun _ h9 => h9) rfl dX11_fits_30 ?_
        refine lv_iload hx hb dX11_fits_33 (lv_at hl 3 rfl) ?_
        obtain ⟨hc2, hf⟩ := ck_e hf
        refine va_iald hx hb hK hP 1 1 rfl rfl hc2 dX11_fits_35 ?_
        refine lv_bipush (v := 63) hx hb dX11_fits_36 (by decide) ?_
        refine lv_icmp_eq (tgt := 59) hx hb dX11_fits_38 (by decide) (fun hb5 => ?_) (fun hb5 => ?_)
        · have hf := (if_pos hb5).symm.trans hf
          exact h_59 x1_23 x3_23 x4_23 ls hl hf
        · have hf := (if_neg hb5).symm.trans hf
          refine lv_aload_n hx hb dX11_fits_41 rfl (lv_at hl 0 rfl) ?_
          refine va_get (D := (dC, dI)) (ci := 11) (C := RX11) (T := TX11) (N := 19) hx hb hts hinX11 hown hK hP 0 rfl rfl 0 (by decide) (v := .ref raT) k_fieldLink_RX11_9__KeyLetters___tape____I_ (fun _ h9 => h9) rfl dX11_fits_42 ?_
          refine lv_iload hx hb dX11_fits_45 (lv_at hl 3 rfl) ?_
          obtain ⟨hc3, hf⟩ := ck_e hf
          refine va_iald hx hb hK hP 1 1 rfl rfl hc3 dX11_fits_47 ?_
          refine lv_lload_n hx hb dX11_fits_48 rfl (lv_at hl 1 rfl) ?_
          refine lv_iload hx hb dX11_fits_49 (lv_at hl 3 rfl) ?_
          refine ko_call (v := some (.int (f_X11_letterAt x1_23 x4_23))) (va_runS (As := [.long x1_23, .int x4_23]) (rest := [.int (T x4_23.toNatClampNeg)]) ⟨hx, hb, hml, hown, hts⟩ (c_X11_letterAt l dC dI cs ad x1_23 x4_23 _ rfl) (va_cwS 2 hts gX11_fits_X11_letterAt rfl rfl rfl (by decide +kernel) ⟨Nat.le_of_ble_eq_true rfl, Nat.le_of_ble_eq_true rfl⟩) ⟨fun a U g mk q => ⟨q.1, (fun _ _ _ _ => cPr_bl) a U g mk q.2⟩, fun U hU hW => ⟨rfl, ⟨by rw [hU]; exact (hP.sub (ws' := ([] : va_W)) [] rfl), va_K.moved hW.alike hK, kN_warm hW hN⟩⟩⟩ rfl rfl hl.1 rfl (lv_room (Nat.le_of_ble_eq_true rfl)) dX11_fits_51 ⟨Nat.le_refl _, Nat.le_refl _⟩) ?_
          refine lv_icmp_eq (tgt := 59) hx hb dX11_fits_54 (by decide) (fun hb4 => ?_) (fun hb4 => ?_)
          · have hf := (if_pos hb4).symm.trans hf
            exact h_59 x1_23 x3_23 x4_23 ls hl hf
          · have hf := (if_neg hb4).symm.trans hf
            refine lv_iconst (v := 0) hx hb dX11_fits_57 (by decide) ?_
            have hf := Option.some.inj hf
            subst hf
            exact W.zret (v := (0 : Int32)) (ty := .boolean) hx hb hr rfl (fun t ht hW => ⟨rfl, ht⟩) (fun _ h => nomatch h) dX11_fits_58) 2000
  refine lv_lload_n hx hb dX11_fits_0 rfl (lv_at hl 1 rfl) ?_
  refine lv_iload_n hx hb dX11_fits_1 rfl (lv_at hl 2 rfl) ?_
  refine lv_iconst (v := 1) hx hb dX11_fits_2 (by decide) ?_
  refine lv_isub hx hb dX11_fits_3 ?_
  refine ko_call (v := some (.int (f_X11_letterAt a0 (a1 - (1 : Int32))))) (va_runS (As := [.long a0, .int (a1 - (1 : Int32))]) (rest := []) ⟨hx, hb, hml, hown, hts⟩ (c_X11_letterAt l dC dI cs ad a0 (a1 - (1 : Int32)) _ rfl) (va_cwS 2 hts gX11_fits_X11_letterAt rfl rfl rfl (by decide +kernel) ⟨Nat.le_of_ble_eq_true rfl, Nat.le_of_ble_eq_true rfl⟩) ⟨fun a U g mk q => ⟨q.1, (fun _ _ _ _ => cPr_bl) a U g mk q.2⟩, fun U hU hW => ⟨rfl, ⟨by rw [hU]; exact (hP.sub (ws' := ([] : va_W)) [] rfl), va_K.moved hW.alike hK, kN_warm hW hN⟩⟩⟩ rfl rfl hl.1 rfl (lv_room (Nat.le_of_ble_eq_true rfl)) dX11_fits_4 ⟨Nat.le_refl _, Nat.le_refl _⟩) ?_
  refine lv_if_eq (tgt := 18) hx hb dX11_fits_7 (by decide) (fun hb8 => ?_) (fun hb8 => ?_)
  · have hf := (if_pos hb8).symm.trans hf
    refine lv_iconst (v := 0) hx hb dX11_fits_18 (by decide) ?_
    have hf := Option.some.inj hf
    subst hf
    exact W.zret (v := (0 : Int32)) (ty := .boolean) hx hb hr rfl (fun t ht hW => ⟨rfl, ht⟩) (fun _ h => nomatch h) dX11_fits_19
  · have hf := (if_neg hb8).symm.trans hf
    refine lv_lload_n hx hb dX11_fits_10 rfl (lv_at hl 1 rfl) ?_
    refine lv_iload_n hx hb dX11_fits_11 rfl (lv_at hl 2 rfl) ?_
    refine ko_call (v := some (.int (f_X11_letterAt a0 a1))) (va_runS (As := [.long a0, .int a1]) (rest := []) ⟨hx, hb, hml, hown, hts⟩ (c_X11_letterAt l dC dI cs ad a0 a1 _ rfl) (va_cwS 2 hts gX11_fits_X11_letterAt rfl rfl rfl (by decide +kernel) ⟨Nat.le_of_ble_eq_true rfl, Nat.le_of_ble_eq_true rfl⟩) ⟨fun a U g mk q => ⟨q.1, (fun _ _ _ _ => cPr_bl) a U g mk q.2⟩, fun U hU hW => ⟨rfl, ⟨by rw [hU]; exact (hP.sub (ws' := ([] : va_W)) [] rfl), va_K.moved hW.alike hK, kN_warm hW hN⟩⟩⟩ rfl rfl hl.1 rfl (lv_room (Nat.le_of_ble_eq_true rfl)) dX11_fits_12 ⟨Nat.le_refl _, Nat.le_refl _⟩) ?_
    refine lv_if_eq (tgt := 20) hx hb dX11_fits_15 (by decide) (fun hb7 => ?_) (fun hb7 => ?_)
    · have hf := (if_pos hb7).symm.trans hf
      refine lv_iconst (v := 0) hx hb dX11_fits_20 (by decide) ?_
      refine lv_istore (nL := 5) (lv' := [(4, .int (0 : Int32)), (0, .ref (raK 0)), (1, .long a0), (3, .int a1)]) hx hb dX11_fits_21 hl (by decide) rfl (fun ls hl => ?_)
      exact h_23 a0 a1 (0 : Int32) ls (lv_sub hl [1, 2, 3, 0] rfl) hf
    · have hf := (if_neg hb7).symm.trans hf
      refine lv_iconst (v := 0) hx hb dX11_fits_18 (by decide) ?_
      have hf := Option.some.inj hf
      subst hf
      exact W.zret (v := (0 : Int32)) (ty := .boolean) hx hb hr rfl (fun t ht hW => ⟨rfl, ht⟩) (fun _ h => nomatch h) dX11_fits_19

def ww_X11_mostAlikeAt (cs : Nat → ClassId) (ad : Nat → Nat) (raK : Nat → Nat) (raC : Nat → Nat) (raO : Nat → Nat) (raS : Nat → Nat) (raN : Nat → Nat) (xK0 : Nat) (xK2 : Nat) (xK4 : Nat) (xK5 : Nat) (xK6 : Nat) (xK7 : Nat) (xK8 : Nat) (xK9 : Nat) (xK10 : Nat) (xK11 : Nat) (xK12 : Nat) (xK13 : Nat) (xK14 : Nat) (xK18 : Nat) (K : kD) (C : kD) (O : kD) (S : kD) (N : kD) : va_W := (wX11 cs ad raK xK0 xK2 (raC 0) xK4 xK5 xK6 xK7 xK8 xK9 xK10 xK11 xK12 xK13 xK14 xK18 K ++ (wX7 cs ad raC (raO 0) (raS 0) (raN 0) C ++ (wX3 cs ad raO O ++ (wX9 cs ad raS S ++ (wX8 cs ad raN N)))))
abbrev rm_X11_mostAlikeAt : Room := { frames := 1, cells := 0, slots := 0, locals := 40 }
set_option maxHeartbeats 4000000 in
set_option maxRecDepth 100000 in
theorem c_X11_mostAlikeAt (l : Launch) (dC : Nat → ClassId) (dI : Nat → Nat → Nat) (cs : Nat → ClassId) (ad : Nat → Nat) (raK : Nat → Nat) (raC : Nat → Nat) (raO : Nat → Nat) (raS : Nat → Nat) (raN : Nat → Nat) (xK0 : Nat) (xK2 : Nat) (xK4 : Nat) (xK5 : Nat) (xK6 : Nat) (xK7 : Nat) (xK8 : Nat) (xK9 : Nat) (xK10 : Nat) (xK11 : Nat) (xK12 : Nat) (xK13 : Nat) (xK14 : Nat) (xK18 : Nat) (K : kD) (C : kD) (O : kD) (S : kD) (N : kD) (a0 : Int32) (a1 : Int32) (r : Int32) (hf : f_X11_mostAlikeAt a0 a1 K C O S N = some r) : Met l yX11_mostAlikeAt wsX11_mostAlikeAt rm_X11_mostAlikeAt (va_Pc [.ref (raK 0), .int a0, .int a1] (cPr dC dI cs (ww_X11_mostAlikeAt cs ad raK raC raO raS raN xK0 xK2 xK4 xK5 xK6 xK7 xK8 xK9 xK10 xK11 xK12 xK13 xK14 xK18 K C O S N))) (kQ (some (.int r))) 0 0 (kF) := by
  refine Met.ofW (cc := cX11_mostAlikeAt) (maxL := 8) (ret := (some .int)) (by decide) rfl ?_
  intro p e s m args below meth c s₁ B hml hv
  obtain ⟨hav, hP, hK, hN⟩ := hv
  have hx := B.exec
  have hb := B.bytes
  have hr := B.returns
  have hts := atoms_spec (ws := wsX11_mostAlikeAt) B.pre
  have hown : s.vm.findClass RX11 = some m.cls := findClass_of_methodNamed B.named
  have hlocks := B.notSynchronized
  have hinX11 := (show ∀ w ∈ wsX110, w ∈ wsX11_mostAlikeAt from fun w h => List.mem_cons_of_mem _ (List.mem_append_left _ (List.mem_append_left _ (List.mem_append_right _ h))))
  have hinX3 := (show ∀ w ∈ wsX30, w ∈ wsX11_mostAlikeAt from fun w h => List.mem_cons_of_mem _ (List.mem_append_right _ h))
  have hinX7 := (show ∀ w ∈ wsX70, w ∈ wsX11_mostAlikeAt from fun w h => List.mem_cons_of_mem _ (List.mem_append_left _ (List.mem_append_right _ h)))
  have k_code_Lib_Math_max_name_Lib_Math_max_code_2__some__int_ := hts (.code Lib.Math.max.name Lib.Math.max.code 2 (some .int)) (List.mem_of_getElem? (i := 5) rfl)
  have k_fieldLink_RX11_23__KeyLetters___scene___LKeyLetters_Scene__ := hts (.fieldLink RX11 23 "KeyLetters" "scene" "LKeyLetters$Scene;") (List.mem_of_getElem? (i := 1) rfl)
  have k_initialized__java_lang_Math_ := hts (.initialized "java/lang/Math") (List.mem_of_getElem? (i := 4) rfl)
  have k_methodLink_RX11_426_Lib_Math_max_name := hts (.methodLink RX11 426 Lib.Math.max.name) (List.mem_of_getElem? (i := 2) rfl)
  have k_static_Lib_Math_max_name := hts (.static Lib.Math.max.name) (List.mem_of_getElem? (i := 3) rfl)
  have hl := lv_entry ([.ref (raK 0), .int a0, .int a1]) (n := 8) (Nat.le_of_ble_eq_true rfl)
  rw [show entryFrame m args 8 = entryFrame m ([.ref (raK 0), .int a0, .int a1] : List Value).toArray 8 from by rw [hav], lg_entry_eq]
  generalize (lg_sl ([.ref (raK 0), .int a0, .int a1]) ++ List.replicate (8 - (lg_sl ([.ref (raK 0), .int a0, .int a1])).length) Slot.unset).toArray = ls at hl ⊢
  have hl : lv_has ls 8 [(0, .ref (raK 0)), (1, .int a0), (2, .int a1)] := hl
  unfold f_X11_mostAlikeAt at hf
  have h_14 := lp_ind (z := (fun _ _ _ _ => none)) (b := (g_X11_mostAlikeAt_14 K C O S N)) (fun (rc_14 : Int32 → Int32 → Int32 → Int32 → Option Int32) => ∀ (x1_14 : Int32) (x2_14 : Int32) (x4_14 : Int32) (x5_14 : Int32) (ls : Array Slot), lv_has ls 8 [(1, .int x1_14), (2, .int x2_14), (3, .ref (raO 0)), (4, .int x4_14), (5, .int x5_14)] → rc_14 x1_14 x2_14 x4_14 x5_14 = some r → W p l e (headSpec wsX11_mostAlikeAt rm_X11_mostAlikeAt).room s m args below meth c s.heap [] 0 0 (MQ below (kQ (some (.int r))) args s 0 0 (kF)) (F0 m 14 ls [])) (by
      intro x1_14 x2_14 x4_14 x5_14 ls hl hf
      cases hf) (by
      intro rc_14 ih_14 x1_14 x2_14 x4_14 x5_14 ls hl hf
      unfold g_X11_mostAlikeAt_14 at hf
      have h_90 : ∀ (x1_90 : Int32) (x2_90 : Int32) (x4_90 : Int32) (x5_90 : Int32) (x6_90 : Int32) (ls : Array Slot), lv_has ls 8 [(1, .int x1_90), (2, .int x2_90), (3, .ref (raO 0)), (4, .int x4_90), (5, .int x5_90), (6, .int x6_90)] → g_X11_mostAlikeAt_90 rc_14 K C O S N x1_90 x2_90 x4_90 x5_90 x6_90 = some r → W p l e (headSpec wsX11_mostAlikeAt rm_X11_mostAlikeAt).room s m args below meth c s.heap [] 0 0 (MQ below (kQ (some (.int r))) args s 0 0 (kF)) (F0 m 90 ls []) := by
        intro x1_90 x2_90 x4_90 x5_90 x6_90 ls hl hf
        unfold g_X11_mostAlikeAt_90 at hf
        refine lv_iload hx hb dX11_mostAlikeAt_90 (lv_at hl 3 rfl) ?_
        refine lv_iload hx hb dX11_mostAlikeAt_92 (lv_at hl 5 rfl) ?_
        refine va_mmax hx hb (hml.trans hl.1.symm) hown k_methodLink_RX11_426_Lib_Math_max_name k_static_Lib_Math_max_name k_initialized__java_lang_Math_ k_code_Lib_Math_max_name_Lib_Math_max_code_2__some__int_ (Nat.le_of_ble_eq_true rfl) (Nat.le_of_ble_eq_true rfl) (Nat.zero_le _) (Nat.zero_le _) dX11_mostAlikeAt_94 ?_
        obtain ⟨v1, ev1, hf⟩ := bd1_e hf
        refine kt_i ev1 ?_
        refine lv_istore (nL := 8) (lv' := [(4, .int v1), (1, .int x1_90), (2, .int x2_90), (3, .ref (raO 0)), (5, .int x5_90), (6, .int x6_90)]) hx hb dX11_mostAlikeAt_97 hl (by decide) rfl (fun ls hl => ?_)
        obtain ⟨v2, ev2, hf⟩ := bd1_e hf
        refine lv_iinc (k := 4) (x := x5_90) (v := v2) (nL := 8) (lv' := [(5, .int v2), (4, .int v1), (1, .int x1_90), (2, .int x2_90), (3, .ref (raO 0)), (6, .int x6_90)]) hx hb dX11_mostAlikeAt_99 hl rfl (kt_inc (w := 1) (by decide) ev2) (by decide) rfl (fun ls hl => ?_)
        refine lv_goto (tgt := 14) hx hb dX11_mostAlikeAt_102 (by decide) ?_
        exact ih_14 x1_90 x2_90 v1 v2 ls (lv_sub hl [2, 3, 4, 1, 0] rfl) hf
      have h_29 := lp_ind (z := (fun _ _ _ _ _ _ => none)) (b := (g_X11_mostAlikeAt_29 rc_14 K C O S N)) (fun (rc_29 : Int32 → Int32 → Int32 → Int32 → Int32 → Int32 → Option Int32) => ∀ (x1_29 : Int32) (x2_29 : Int32) (x4_29 : Int32) (x5_29 : Int32) (x6_29 : Int32) (x7_29 : Int32) (ls : Array Slot), lv_has ls 8 [(1, .int x1_29), (2, .int x2_29), (3, .ref (raO 0)), (4, .int x4_29), (5, .int x5_29), (6, .int x6_29), (7, .int x7_29)] → rc_29 x1_29 x2_29 x4_29 x5_29 x6_29 x7_29 = some r → W p l e (headSpec wsX11_mostAlikeAt rm_X11_mostAlikeAt).room s m args below meth c s.heap [] 0 0 (MQ below (kQ (some (.int r))) args s 0 0 (kF)) (F0 m 29 ls [])) (by
          intro x1_29 x2_29 x4_29 x5_29 x6_29 x7_29 ls hl hf
          cases hf) (by
          intro rc_29 ih_29 x1_29 x2_29 x4_29 x5_29 x6_29 x7_29 ls hl hf
          unfold g_X11_mostAlikeAt_29 at hf
          have h_84 : ∀ (x1_84 : Int32) (x2_84 : Int32) (x4_84 : Int32) (x5_84 : Int32) (x6_84 : Int32) (x7_84 : Int32) (ls : Array Slot), lv_has ls 8 [(1, .int x1_84), (2, .int x2_84), (3, .ref (raO 0)), (4, .int x4_84), (5, .int x5_84), (6, .int x6_84), (7, .int x7_84)] → g_X11_mostAlikeAt_84 rc_14 rc_29 K C O S N x1_84 x2_84 x4_84 x5_84 x6_84 x7_84 = some r → W p l e (headSpec wsX11_mostAlikeAt rm_X11_mostAlikeAt).room s m args below meth c s.heap [] 0 0 (MQ below (kQ (some (.int r))) args s 0 0 (kF)) (F0 m 84 ls []) := by
            intro x1_84 x2_84 x4_84 x5_84 x6_84 x7_84 ls hl hf
            unfold g_X11_mostAlikeAt_84 at hf
            obtain ⟨v3, ev3, hf⟩ := bd1_e hf
            refine lv_iinc (k := 6) (x := x7_84) (v := v3) (nL := 8) (lv' := [(7, .int v3), (1, .int x1_84), (2, .int x2_84), (3, .ref (raO 0)), (4, .int x4_84), (5, .int x5_84), (6, .int x6_84)]) hx hb dX11_mostAlikeAt_84 hl rfl (kt_inc (w := 1) (by decide) ev3) (by decide) rfl (fun ls hl => ?_)
            refine lv_goto (tgt := 29) hx hb dX11_mostAlikeAt_87 (by decide) ?_
            exact ih_29 x1_84 x2_84 x4_84 x5_84 x6_84 v3 ls (lv_sub hl [1, 2, 3, 4, 5, 6, 0] rfl) hf
          refine lv_iload hx hb dX11_mostAlikeAt_29 (lv_at hl 6 rfl) ?_
          refine lv_aload_n hx hb dX11_mostAlikeAt_31 rfl (lv_at hl 2 rfl) ?_
          refine va_getN (D := (dC, dI)) (ci := 4) (C := RX3) (T := TX3) (N := 11) hx hb hts hinX3 hown hK hP 2 rfl rfl 2 (by decide) (v := .int (O.1 0 2)) (va_Nw.use rfl (hN _ (List.mem_of_getElem? (i := 18) rfl))) (fun _ h9 => h9) rfl dX11_mostAlikeAt_32 ?_
          refine lv_icmp_ge (tgt := 90) hx hb dX11_mostAlikeAt_35 (by decide) (fun hb10 => ?_) (fun hb10 => ?_)
          · have hf := (if_pos hb10).symm.trans hf
            exact h_90 x1_29 x2_29 x4_29 x5_29 x6_29 ls (lv_sub hl [0, 1, 2, 3, 4, 5] rfl) hf
          · have hf := (if_neg hb10).symm.trans hf
            refine lv_iload_n hx hb dX11_mostAlikeAt_38 rfl (lv_at hl 1 rfl) ?_
            refine lv_iload hx hb dX11_mostAlikeAt_39 (lv_at hl 4 rfl) ?_
            refine ko_call (v := some (.int (f_X11_hasBit x2_29 x5_29))) (va_runS (As := [.int x2_29, .int x5_29]) (rest := []) ⟨hx, hb, hml, hown, hts⟩ (c_X11_hasBit l dC dI cs ad x2_29 x5_29 _ rfl) (va_cwS 2 hts gX11_mostAlikeAt_X11_hasBit rfl rfl rfl (by decide +kernel) ⟨Nat.le_of_ble_eq_true rfl, Nat.le_of_ble_eq_true rfl⟩) ⟨fun a U g mk q => ⟨q.1, (fun _ _ _ _ => cPr_bl) a U g mk q.2⟩, fun U hU hW => ⟨rfl, ⟨by rw [hU]; exact (hP.sub (ws' := ([] : va_W)) [] rfl), va_K.moved hW.alike hK, kN_warm hW hN⟩⟩⟩ rfl rfl hl.1 rfl (lv_room (Nat.le_of_ble_eq_true rfl)) dX11_mostAlikeAt_41 ⟨Nat.le_refl _, Nat.le_refl _⟩) ?_
            refine lv_if_eq (tgt := 90) hx hb dX11_mostAlikeAt_44 (by decide) (fun hb9 => ?_) (fun hb9 => ?_)
            · have hf := (if_pos hb9).symm.trans hf
              exact h_90 x1_29 x2_29 x4_29 x5_29 x6_29 ls (lv_sub hl [0, 1, 2, 3, 4, 5] rfl) hf
            · have hf := (if_neg hb9).symm.trans hf
              refine lv_iload_n hx hb dX11_mostAlikeAt_47 rfl (lv_at hl 1 rfl) ?_
              refine lv_iload hx hb dX11_mostAlikeAt_48 (lv_at hl 6 rfl) ?_
              refine ko_call (v := some (.int (f_X11_hasBit x2_29 x7_29))) (va_runS (As := [.int x2_29, .int x7_29]) (rest := []) ⟨hx, hb, hml, hown, hts⟩ (c_X11_hasBit l dC dI cs ad x2_29 x7_29 _ rfl) (va_cwS 2 hts gX11_mostAlikeAt_X11_hasBit rfl rfl rfl (by decide +kernel) ⟨Nat.le_of_ble_eq_true rfl, Nat.le_of_ble_eq_true rfl⟩) ⟨fun a U g mk q => ⟨q.1, (fun _ _ _ _ => cPr_bl) a U g mk q.2⟩, fun U hU hW => ⟨rfl, ⟨by rw [hU]; exact (hP.sub (ws' := ([] : va_W)) [] rfl), va_K.moved hW.alike hK, kN_warm hW hN⟩⟩⟩ rfl rfl hl.1 rfl (lv_room (Nat.le_of_ble_eq_true rfl)) dX11_mostAlikeAt_50 ⟨Nat.le_refl _, Nat.le_refl _⟩) ?_
              refine lv_if_eq (tgt := 84) hx hb dX11_mostAlikeAt_53 (by decide) (fun hb8 => ?_) (fun hb8 => ?_)
              · have hf := (if_pos hb8).symm.trans hf
                exact h_84 x1_29 x2_29 x4_29 x5_29 x6_29 x7_29 ls hl hf
              · have hf := (if_neg hb8).symm.trans hf
                refine lv_aload_n hx hb dX11_mostAlikeAt_56 rfl (lv_at hl 2 rfl) ?_
                refine va_getN (D := (dC, dI)) (ci := 4) (C := RX3) (T := TX3) (N := 11) hx hb hts hinX3 hown hK hP 2 rfl rfl 7 (by decide) (v := .ref (raO 7)) (va_Nw.use rfl (hN _ (List.mem_of_getElem? (i := 27) rfl))) (fun _ h9 => h9) rfl dX11_mostAlikeAt_57 ?_
                refine lv_iload hx hb dX11_mostAlikeAt_60 (lv_at hl 4 rfl) ?_
                obtain ⟨hc4, hf⟩ := ck_e hf
                refine va_lald hx hb hK hP 6 2 rfl rfl hc4 dX11_mostAlikeAt_62 ?_
                refine lv_iload_n hx hb dX11_mostAlikeAt_63 rfl (lv_at hl 0 rfl) ?_
                refine ko_call (v := some (.int (f_X11_letterAt (O.2 7 x5_29.toNatClampNeg) x1_29))) (va_runS (As := [.long (O.2 7 x5_29.toNatClampNeg), .int x1_29]) (rest := []) ⟨hx, hb, hml, hown, hts⟩ (c_X11_letterAt l dC dI cs ad (O.2 7 x5_29.toNatClampNeg) x1_29 _ rfl) (va_cwS 2 hts gX11_mostAlikeAt_X11_letterAt rfl rfl rfl (by decide +kernel) ⟨Nat.le_of_ble_eq_true rfl, Nat.le_of_ble_eq_true rfl⟩) ⟨fun a U g mk q => ⟨q.1, (fun _ _ _ _ => cPr_bl) a U g mk q.2⟩, fun U hU hW => ⟨rfl, ⟨by rw [hU]; exact (hP.sub (ws' := ([] : va_W)) [] rfl), va_K.moved hW.alike hK, kN_warm hW hN⟩⟩⟩ rfl rfl hl.1 rfl (lv_room (Nat.le_of_ble_eq_true rfl)) dX11_mostAlikeAt_64 ⟨Nat.le_refl _, Nat.le_refl _⟩) ?_
                refine lv_aload_n hx hb dX11_mostAlikeAt_67 rfl (lv_at hl 2 rfl) ?_
                refine va_getN (D := (dC, dI)) (ci := 4) (C := RX3) (T := TX3) (N := 11) hx hb hts hinX3 hown hK hP 2 rfl rfl 7 (by decide) (v := .ref (raO 7)) (va_Nw.use rfl (hN _ (List.mem_of_getElem? (i := 27) rfl))) (fun _ h9 => h9) rfl dX11_mostAlikeAt_68 ?_
                refine lv_iload hx hb dX11_mostAlikeAt_71 (lv_at hl 6 rfl) ?_
                obtain ⟨hc5, hf⟩ := ck_e hf
                refine va_lald hx hb hK hP 6 2 rfl rfl hc5 dX11_mostAlikeAt_73 ?_
                refine lv_iload_n hx hb dX11_mostAlikeAt_74 rfl (lv_at hl 0 rfl) ?_
                refine ko_call (v := some (.int (f_X11_letterAt (O.2 7 x7_29.toNatClampNeg) x1_29))) (va_runS (As := [.long (O.2 7 x7_29.toNatClampNeg), .int x1_29]) (rest := [.int (f_X11_letterAt (O.2 7 x5_29.toNatClampNeg) x1_29)]) ⟨hx, hb, hml, hown, hts⟩ (c_X11_letterAt l dC dI cs ad (O.2 7 x7_29.toNatClampNeg) x1_29 _ rfl) (va_cwS 2 hts gX11_mostAlikeAt_X11_letterAt rfl rfl rfl (by decide +kernel) ⟨Nat.le_of_ble_eq_true rfl, Nat.le_of_ble_eq_true rfl⟩) ⟨fun a U g mk q => ⟨q.1, (fun _ _ _ _ => cPr_bl) a U g mk q.2⟩, fun U hU hW => ⟨rfl, ⟨by rw [hU]; exact (hP.sub (ws' := ([] : va_W)) [] rfl), va_K.moved hW.alike hK, kN_warm hW hN⟩⟩⟩ rfl rfl hl.1 rfl (lv_room (Nat.le_of_ble_eq_true rfl)) dX11_mostAlikeAt_75 ⟨Nat.le_refl _, Nat.le_refl _⟩) ?_
                refine lv_icmp_ne (tgt := 84) hx hb dX11_mostAlikeAt_78 (by decide) (fun hb7 => ?_) (fun hb7 => ?_)
                · have hf := (if_neg hb7).symm.trans hf
                  exact h_84 x1_29 x2_29 x4_29 x5_29 x6_29 x7_29 ls hl hf
                · have hf := (if_pos hb7).symm.trans hf
                  obtain ⟨v6, ev6, hf⟩ := bd1_e hf
                  refine lv_iinc (k := 5) (x := x6_29) (v := v6) (nL := 8) (lv' := [(6, .int v6), (1, .int x1_29), (2, .int x2_29), (3, .ref (raO 0)), (4, .int x4_29), (5, .int x5_29), (7, .int x7_29)]) hx hb dX11_mostAlikeAt_81 hl rfl (kt_inc (w := 1) (by decide) ev6) (by decide) rfl (fun ls hl => ?_)
                  exact h_84 x1_29 x2_29 x4_29 x5_29 v6 x7_29 ls (lv_sub hl [1, 2, 3, 4, 5, 0, 6] rfl) hf) 2000
      refine lv_iload hx hb dX11_mostAlikeAt_14 (lv_at hl 4 rfl) ?_
      refine lv_aload_n hx hb dX11_mostAlikeAt_16 rfl (lv_at hl 2 rfl) ?_
      refine va_getN (D := (dC, dI)) (ci := 4) (C := RX3) (T := TX3) (N := 11) hx hb hts hinX3 hown hK hP 2 rfl rfl 2 (by decide) (v := .int (O.1 0 2)) (va_Nw.use rfl (hN _ (List.mem_of_getElem? (i := 18) rfl))) (fun _ h9 => h9) rfl dX11_mostAlikeAt_17 ?_
      refine lv_icmp_ge (tgt := 105) hx hb dX11_mostAlikeAt_20 (by decide) (fun hb11 => ?_) (fun hb11 => ?_)
      · have hf := (if_pos hb11).symm.trans hf
        refine lv_iload hx hb dX11_mostAlikeAt_105 (lv_at hl 3 rfl) ?_
        have hf := Option.some.inj hf
        subst hf
        exact W.iret (v := x4_14) hx hb hr (fun t ht hW => ⟨rfl, ht⟩) (fun _ h => nomatch h) dX11_mostAlikeAt_107
      · have hf := (if_neg hb11).symm.trans hf
        refine lv_iconst (v := 0) hx hb dX11_mostAlikeAt_23 (by decide) ?_
        refine lv_istore (nL := 8) (lv' := [(6, .int (0 : Int32)), (1, .int x1_14), (2, .int x2_14), (3, .ref (raO 0)), (4, .int x4_14), (5, .int x5_14)]) hx hb dX11_mostAlikeAt_24 hl (by decide) rfl (fun ls hl => ?_)
        refine lv_iconst (v := 0) hx hb dX11_mostAlikeAt_26 (by decide) ?_
        refine lv_istore (nL := 8) (lv' := [(7, .int (0 : Int32)), (6, .int (0 : Int32)), (1, .int x1_14), (2, .int x2_14), (3, .ref (raO 0)), (4, .int x4_14), (5, .int x5_14)]) hx hb dX11_mostAlikeAt_27 hl (by decide) rfl (fun ls hl => ?_)
        exact h_29 x1_14 x2_14 x4_14 x5_14 (0 : Int32) (0 : Int32) ls (lv_sub hl [2, 3, 4, 5, 6, 1, 0] rfl) hf) 2000
  refine lv_aload_n hx hb dX11_mostAlikeAt_0 rfl (lv_at hl 0 rfl) ?_
  refine va_get (D := (dC, dI)) (ci := 11) (C := RX11) (T := TX11) (N := 19) hx hb hts hinX11 hown hK hP 0 rfl rfl 3 (by decide) (v := .ref (raC 0)) k_fieldLink_RX11_23__KeyLetters___scene___LKeyLetters_Scene__ (fun _ h9 => h9) rfl dX11_mostAlikeAt_1 ?_
  refine va_getN (D := (dC, dI)) (ci := 8) (C := RX7) (T := TX7) (N := 3) hx hb hts hinX7 hown hK hP 1 rfl rfl 0 (by decide) (v := .ref (raO 0)) (va_Nw.use rfl (hN _ (List.mem_of_getElem? (i := 50) rfl))) (fun _ h9 => h9) rfl dX11_mostAlikeAt_4 ?_
  refine lv_astore_n (nL := 8) (lv' := [(3, .ref (raO 0)), (0, .ref (raK 0)), (1, .int a0), (2, .int a1)]) hx hb dX11_mostAlikeAt_7 rfl hl (by decide) rfl (fun ls hl => ?_)
  refine lv_iconst (v := 0) hx hb dX11_mostAlikeAt_8 (by decide) ?_
  refine lv_istore (nL := 8) (lv' := [(4, .int (0 : Int32)), (3, .ref (raO 0)), (0, .ref (raK 0)), (1, .int a0), (2, .int a1)]) hx hb dX11_mostAlikeAt_9 hl (by decide) rfl (fun ls hl => ?_)
  refine lv_iconst (v := 0) hx hb dX11_mostAlikeAt_11 (by decide) ?_
  refine lv_istore (nL := 8) (lv' := [(5, .int (0 : Int32)), (4, .int (0 : Int32)), (3, .ref (raO 0)), (0, .ref (raK 0)), (1, .int a0), (2, .int a1)]) hx hb dX11_mostAlikeAt_12 hl (by decide) rfl (fun ls hl => ?_)
  exact h_14 a0 a1 (0 : Int32) (0 : Int32) ls (lv_sub hl [4, 5, 2, 1, 0] rfl) hf

def ww_X11_placeToLook (cs : Nat → ClassId) (ad : Nat → Nat) (raK : Nat → Nat) (raC : Nat → Nat) (raO : Nat → Nat) (raS : Nat → Nat) (raN : Nat → Nat) (xK0 : Nat) (xK2 : Nat) (xK4 : Nat) (xK5 : Nat) (xK6 : Nat) (xK7 : Nat) (xK8 : Nat) (xK9 : Nat) (xK10 : Nat) (xK11 : Nat) (xK12 : Nat) (xK13 : Nat) (xK14 : Nat) (xK18 : Nat) (K : kD) (C : kD) (O : kD) (S : kD) (N : kD) : va_W := (wX11 cs ad raK xK0 xK2 (raC 0) xK4 xK5 xK6 xK7 xK8 xK9 xK10 xK11 xK12 xK13 xK14 xK18 K ++ (wX7 cs ad raC (raO 0) (raS 0) (raN 0) C ++ (wX3 cs ad raO O ++ (wX9 cs ad raS S ++ (wX8 cs ad raN N)))))
abbrev rm_X11_placeToLook : Room := { frames := 2, cells := 0, slots := 0, locals := 67 }
set_option maxHeartbeats 4000000 in
set_option maxRecDepth 100000 in
theorem c_X11_placeToLook (l : Launch) (dC : Nat → ClassId) (dI : Nat → Nat → Nat) (cs : Nat → ClassId) (ad : Nat → Nat) (raK : Nat → Nat) (raC : Nat → Nat) (raO : Nat → Nat) (raS : Nat → Nat) (raN : Nat → Nat) (xK0 : Nat) (xK2 : Nat) (xK4 : Nat) (xK5 : Nat) (xK6 : Nat) (xK7 : Nat) (xK8 : Nat) (xK9 : Nat) (xK10 : Nat) (xK11 : Nat) (xK12 : Nat) (xK13 : Nat) (xK14 : Nat) (xK18 : Nat) (K : kD) (C : kD) (O : kD) (S : kD) (N : kD) (a0 : Int32) (a1 : Int32) (r : Int32) (hf : f_X11_placeToLook a0 a1 K C O S N = some r) : Met l yX11_placeToLook wsX11_placeToLook rm_X11_placeToLook (va_Pc [.ref (raK 0), .int a0, .int a1] (cPr dC dI cs (ww_X11_placeToLook cs ad raK raC raO raS raN xK0 xK2 xK4 xK5 xK6 xK7 xK8 xK9 xK10 xK11 xK12 xK13 xK14 xK18 K C O S N))) (kQ (some (.int r))) 0 0 (kF) := by
  refine Met.ofW (cc := cX11_placeToLook) (maxL := 7) (ret := (some .int)) (by decide) rfl ?_
  intro p e s m args below meth c s₁ B hml hv
  obtain ⟨hav, hP, hK, hN⟩ := hv
  have hx := B.exec
  have hb := B.bytes
  have hr := B.returns
  have hts := atoms_spec (ws := wsX11_placeToLook) B.pre
  have hown : s.vm.findClass RX11 = some m.cls := findClass_of_methodNamed B.named
  have hlocks := B.notSynchronized
  have hl := lv_entry ([.ref (raK 0), .int a0, .int a1]) (n := 7) (Nat.le_of_ble_eq_true rfl)
  rw [show entryFrame m args 7 = entryFrame m ([.ref (raK 0), .int a0, .int a1] : List Value).toArray 7 from by rw [hav], lg_entry_eq]
  generalize (lg_sl ([.ref (raK 0), .int a0, .int a1]) ++ List.replicate (7 - (lg_sl ([.ref (raK 0), .int a0, .int a1])).length) Slot.unset).toArray = ls at hl ⊢
  have hl : lv_has ls 7 [(0, .ref (raK 0)), (1, .int a0), (2, .int a1)] := hl
  unfold f_X11_placeToLook at hf
  have h_9 := lp_ind (z := (fun _ _ _ _ _ => none)) (b := (g_X11_placeToLook_9 K C O S N)) (fun (rc_9 : Int32 → Int32 → Int32 → Int32 → Int32 → Option Int32) => ∀ (x1_9 : Int32) (x2_9 : Int32) (x3_9 : Int32) (x4_9 : Int32) (x5_9 : Int32) (ls : Array Slot), lv_has ls 7 [(0, .ref (raK 0)), (1, .int x1_9), (2, .int x2_9), (3, .int x3_9), (4, .int x4_9), (5, .int x5_9)] → rc_9 x1_9 x2_9 x3_9 x4_9 x5_9 = some r → W p l e (headSpec wsX11_placeToLook rm_X11_placeToLook).room s m args below meth c s.heap [] 0 0 (MQ below (kQ (some (.int r))) args s 0 0 (kF)) (F0 m 9 ls [])) (by
      intro x1_9 x2_9 x3_9 x4_9 x5_9 ls hl hf
      cases hf) (by
      intro rc_9 ih_9 x1_9 x2_9 x3_9 x4_9 x5_9 ls hl hf
      unfold g_X11_placeToLook_9 at hf
      have h_38 : ∀ (x1_38 : Int32) (x2_38 : Int32) (x3_38 : Int32) (x4_38 : Int32) (x5_38 : Int32) (ls : Array Slot), lv_has ls 7 [(0, .ref (raK 0)), (1, .int x1_38), (2, .int x2_38), (3, .int x3_38), (4, .int x4_38), (5, .int x5_38)] → g_X11_placeToLook_38 rc_9 K C O S N x1_38 x2_38 x3_38 x4_38 x5_38 = some r → W p l e (headSpec wsX11_placeToLook rm_X11_placeToLook).room s m args below meth c s.heap [] 0 0 (MQ below (kQ (some (.int r))) args s 0 0 (kF)) (F0 m 38 ls []) := by
        intro x1_38 x2_38 x3_38 x4_38 x5_38 ls hl hf
        unfold g_X11_placeToLook_38 at hf
        obtain ⟨v1, ev1, hf⟩ := bd1_e hf
        refine lv_iinc (k := 5) (x := x5_38) (v := v1) (nL := 7) (lv' := [(5, .int v1), (0, .ref (raK 0)), (1, .int x1_38), (2, .int x2_38), (3, .int x3_38), (4, .int x4_38)]) hx hb dX11_placeToLook_38 hl rfl (kt_inc (w := 1) (by decide) ev1) (by decide) rfl (fun ls hl => ?_)
        refine lv_goto (tgt := 9) hx hb dX11_placeToLook_41 (by decide) ?_
        exact ih_9 x1_38 x2_38 x3_38 x4_38 v1 ls (lv_sub hl [1, 2, 3, 4, 5, 0] rfl) hf
      refine lv_iload hx hb dX11_placeToLook_9 (lv_at hl 5 rfl) ?_
      refine lv_iload_n hx hb dX11_placeToLook_11 rfl (lv_at hl 2 rfl) ?_
      refine lv_icmp_ge (tgt := 44) hx hb dX11_placeToLook_12 (by decide) (fun hb5 => ?_) (fun hb5 => ?_)
      · have hf := (if_pos hb5).symm.trans hf
        refine lv_iload_n hx hb dX11_placeToLook_44 rfl (lv_at hl 3 rfl) ?_
        have hf := Option.some.inj hf
        subst hf
        exact W.iret (v := x3_9) hx hb hr (fun t ht hW => ⟨rfl, ht⟩) (fun _ h => nomatch h) dX11_placeToLook_45
      · have hf := (if_neg hb5).symm.trans hf
        refine lv_aload_n hx hb dX11_placeToLook_15 rfl (lv_at hl 0 rfl) ?_
        refine lv_iload hx hb dX11_placeToLook_16 (lv_at hl 5 rfl) ?_
        refine lv_iload_n hx hb dX11_placeToLook_18 rfl (lv_at hl 1 rfl) ?_
        obtain ⟨v3, hq2, hf⟩ := bo_e hf
        refine ko_call (v := some (.int v3)) (va_runV (As := [.int x5_9, .int x1_9]) (rest := []) ⟨hx, hb, hml, hown, hts⟩ (c_X11_mostAlikeAt l dC dI cs ad raK raC raO raS raN xK0 xK2 xK4 xK5 xK6 xK7 xK8 xK9 xK10 xK11 xK12 xK13 xK14 xK18 K C O S N x5_9 x1_9 v3 hq2) (cwV 2 hts gX11_placeToLook_X11_mostAlikeAt rfl rfl rfl (by decide +kernel) ⟨Nat.le_of_ble_eq_true rfl, Nat.le_of_ble_eq_true rfl⟩) ⟨fun a U g mk q => ⟨q.1, (fun _ _ _ _ => cPr_bl) a U g mk q.2⟩, va_recv hK hP (ci := 11) (q0 := 0) rfl rfl, fun U hU hW => ⟨rfl, ⟨by rw [hU]; exact (hP.sub (ws' := (ww_X11_mostAlikeAt cs ad raK raC raO raS raN xK0 xK2 xK4 xK5 xK6 xK7 xK8 xK9 xK10 xK11 xK12 xK13 xK14 xK18 K C O S N)) [0, 1, 2, 3, 4, 5, 6, 7, 8, 9, 10, 11, 12, 13, 14, 15, 16, 17, 18, 19] rfl), va_K.moved hW.alike hK, kN_warm hW hN⟩⟩⟩ rfl rfl hl.1 rfl (lv_room (Nat.le_of_ble_eq_true rfl)) dX11_placeToLook_19 ⟨Nat.le_refl _, Nat.le_refl _⟩) ?_
        refine lv_istore (nL := 7) (lv' := [(6, .int v3), (0, .ref (raK 0)), (1, .int x1_9), (2, .int x2_9), (3, .int x3_9), (4, .int x4_9), (5, .int x5_9)]) hx hb dX11_placeToLook_22 hl (by decide) rfl (fun ls hl => ?_)
        refine lv_iload hx hb dX11_placeToLook_24 (lv_at hl 0 rfl) ?_
        refine lv_iload hx hb dX11_placeToLook_26 (lv_at hl 5 rfl) ?_
        refine lv_icmp_ge (tgt := 38) hx hb dX11_placeToLook_28 (by decide) (fun hb4 => ?_) (fun hb4 => ?_)
        · have hf := (if_pos hb4).symm.trans hf
          exact h_38 x1_9 x2_9 x3_9 x4_9 x5_9 ls (lv_sub hl [1, 2, 3, 4, 5, 6] rfl) hf
        · have hf := (if_neg hb4).symm.trans hf
          refine lv_iload hx hb dX11_placeToLook_31 (lv_at hl 6 rfl) ?_
          refine lv_istore_n (nL := 7) (lv' := [(3, .int x5_9), (6, .int v3), (0, .ref (raK 0)), (1, .int x1_9), (2, .int x2_9), (4, .int x4_9), (5, .int x5_9)]) hx hb dX11_placeToLook_33 rfl hl (by decide) rfl (fun ls hl => ?_)
          refine lv_iload hx hb dX11_placeToLook_34 (lv_at hl 1 rfl) ?_
          refine lv_istore (nL := 7) (lv' := [(4, .int v3), (3, .int x5_9), (6, .int v3), (0, .ref (raK 0)), (1, .int x1_9), (2, .int x2_9), (5, .int x5_9)]) hx hb dX11_placeToLook_36 hl (by decide) rfl (fun ls hl => ?_)
          exact h_38 x1_9 x2_9 x5_9 v3 x5_9 ls (lv_sub hl [3, 4, 5, 1, 0, 6] rfl) hf) 2000
  refine lv_iconst (v := 0) hx hb dX11_placeToLook_0 (by decide) ?_
  refine lv_istore_n (nL := 7) (lv' := [(3, .int (0 : Int32)), (0, .ref (raK 0)), (1, .int a0), (2, .int a1)]) hx hb dX11_placeToLook_1 rfl hl (by decide) rfl (fun ls hl => ?_)
  refine lv_bipush (v := 9) hx hb dX11_placeToLook_2 (by decide) ?_
  refine lv_istore (nL := 7) (lv' := [(4, .int (9 : Int32)), (3, .int (0 : Int32)), (0, .ref (raK 0)), (1, .int a0), (2, .int a1)]) hx hb dX11_placeToLook_4 hl (by decide) rfl (fun ls hl => ?_)
  refine lv_iconst (v := 0) hx hb dX11_placeToLook_6 (by decide) ?_
  refine lv_istore (nL := 7) (lv' := [(5, .int (0 : Int32)), (4, .int (9 : Int32)), (3, .int (0 : Int32)), (0, .ref (raK 0)), (1, .int a0), (2, .int a1)]) hx hb dX11_placeToLook_7 hl (by decide) rfl (fun ls hl => ?_)
  exact h_9 a0 a1 (0 : Int32) (9 : Int32) (0 : Int32) ls (lv_sub hl [3, 4, 5, 2, 1, 0] rfl) hf

def ww_X11_faint (cs : Nat → ClassId) (ad : Nat → Nat) (raK : Nat → Nat) (raT : Nat) (raC : Nat → Nat) (raO : Nat → Nat) (raS : Nat → Nat) (raN : Nat → Nat) (xK2 : Nat) (xK4 : Nat) (xK5 : Nat) (xK6 : Nat) (xK7 : Nat) (xK8 : Nat) (xK9 : Nat) (xK10 : Nat) (xK11 : Nat) (xK12 : Nat) (xK13 : Nat) (xK14 : Nat) (xK18 : Nat) (K : kD) (T : Nat → Int32) (C : kD) (O : kD) (S : kD) (N : kD) : va_W := (wX11 cs ad raK raT xK2 (raC 0) xK4 xK5 xK6 xK7 xK8 xK9 xK10 xK11 xK12 xK13 xK14 xK18 K ++ ([(raT, .inl (cs 1, 940, .inl T))] ++ (wX7 cs ad raC (raO 0) (raS 0) (raN 0) C ++ (wX3 cs ad raO O ++ (wX9 cs ad raS S ++ (wX8 cs ad raN N))))))
abbrev rm_X11_faint : Room := { frames := 3, cells := 0, slots := 0, locals := 93 }
set_option maxHeartbeats 4000000 in
set_option maxRecDepth 100000 in
theorem c_X11_faint (l : Launch) (dC : Nat → ClassId) (dI : Nat → Nat → Nat) (cs : Nat → ClassId) (ad : Nat → Nat) (raK : Nat → Nat) (raT : Nat) (raC : Nat → Nat) (raO : Nat → Nat) (raS : Nat → Nat) (raN : Nat → Nat) (xK2 : Nat) (xK4 : Nat) (xK5 : Nat) (xK6 : Nat) (xK7 : Nat) (xK8 : Nat) (xK9 : Nat) (xK10 : Nat) (xK11 : Nat) (xK12 : Nat) (xK13 : Nat) (xK14 : Nat) (xK18 : Nat) (sz : Nat) (K : kD) (T : Nat → Int32) (C : kD) (O : kD) (S : kD) (N : kD) (r : Int32 × kD) (hf : f_X11_faint K T C O S N = some r) : Met l yX11_faint wsX11_faint rm_X11_faint (va_Pc [.ref (raK 0)] (cPw dC dI cs sz (ww_X11_faint cs ad raK raT raC raO raS raN xK2 xK4 xK5 xK6 xK7 xK8 xK9 xK10 xK11 xK12 xK13 xK14 xK18 K T C O S N))) (cQi dC dI cs (va_A (ww_X11_faint cs ad raK raT raC raO raS raN xK2 xK4 xK5 xK6 xK7 xK8 xK9 xK10 xK11 xK12 xK13 xK14 xK18 zD (fun _ => 0) zD zD zD zD) sz) r.1 (ww_X11_faint cs ad raK raT raC raO raS raN xK2 xK4 xK5 xK6 xK7 xK8 xK9 xK10 xK11 xK12 xK13 xK14 xK18 r.2 T C O S N)) 0 0 (va_A (ww_X11_faint cs ad raK raT raC raO raS raN xK2 xK4 xK5 xK6 xK7 xK8 xK9 xK10 xK11 xK12 xK13 xK14 xK18 zD (fun _ => 0) zD zD zD zD) sz) := by
  refine Met.ofW (cc := cX11_faint) (maxL := 5) (ret := (some .int)) (by decide) rfl ?_
  intro p e s m args below meth c s₁ B hml hv
  obtain ⟨hav, hsz, hP, hK, hD0, hN⟩ := hv
  have hx := B.exec
  have hb := B.bytes
  have hr := B.returns
  have hts := atoms_spec (ws := wsX11_faint) B.pre
  have hown : s.vm.findClass RX11 = some m.cls := findClass_of_methodNamed B.named
  have hlocks := B.notSynchronized
  subst hsz
  have hA : ∀ q, s.heap.size ≤ q → va_A (ww_X11_faint cs ad raK raT raC raO raS raN xK2 xK4 xK5 xK6 xK7 xK8 xK9 xK10 xK11 xK12 xK13 xK14 xK18 zD (fun _ => 0) zD zD zD zD) s.heap.size q := fun q h => Or.inr h
  have hD : va_D (va_A (ww_X11_faint cs ad raK raT raC raO raS raN xK2 xK4 xK5 xK6 xK7 xK8 xK9 xK10 xK11 xK12 xK13 xK14 xK18 zD (fun _ => 0) zD zD zD zD) s.heap.size) (ww_X11_faint cs ad raK raT raC raO raS raN xK2 xK4 xK5 xK6 xK7 xK8 xK9 xK10 xK11 xK12 xK13 xK14 xK18 K T C O S N) := hD0.weaken (fun k q h _ => cA_in (ws := (ww_X11_faint cs ad raK raT raC raO raS raN xK2 xK4 xK5 xK6 xK7 xK8 xK9 xK10 xK11 xK12 xK13 xK14 xK18 K T C O S N)) (ws' := (ww_X11_faint cs ad raK raT raC raO raS raN xK2 xK4 xK5 xK6 xK7 xK8 xK9 xK10 xK11 xK12 xK13 xK14 xK18 zD (fun _ => 0) zD zD zD zD)) rfl h)
  have hS : va_S (va_A (ww_X11_faint cs ad raK raT raC raO raS raN xK2 xK4 xK5 xK6 xK7 xK8 xK9 xK10 xK11 xK12 xK13 xK14 xK18 zD (fun _ => 0) zD zD zD zD) s.heap.size) s.heap s.heap [] := va_S.rf
  have hinX11 := (show ∀ w ∈ wsX110, w ∈ wsX11_faint from fun w h => List.mem_cons_of_mem _ (List.mem_append_left _ (List.mem_append_left _ (List.mem_append_right _ h))))
  have hinX3 := (show ∀ w ∈ wsX30, w ∈ wsX11_faint from fun w h => List.mem_cons_of_mem _ (List.mem_append_right _ h))
  have hinX7 := (show ∀ w ∈ wsX70, w ∈ wsX11_faint from fun w h => List.mem_cons_of_mem _ (List.mem_append_left _ (List.mem_append_right _ h)))
  have k_fieldLink_RX11_23__KeyLetters___scene___LKeyLetters_Scene__ := hts (.fieldLink RX11 23 "KeyLetters" "scene" "LKeyLetters$Scene;") (List.mem_of_getElem? (i := 1) rfl)
  have k_fieldLink_RX11_94__KeyLetters___lookPlace___I_ := hts (.fieldLink RX11 94 "KeyLetters" "lookPlace" "I") (List.mem_of_getElem? (i := 2) rfl)
  have hl := lv_entry ([.ref (raK 0)]) (n := 5) (Nat.le_of_ble_eq_true rfl)
  rw [show entryFrame m args 5 = entryFrame m ([.ref (raK 0)] : List Value).toArray 5 from by rw [hav], lg_entry_eq]
  generalize (lg_sl ([.ref (raK 0)]) ++ List.replicate (5 - (lg_sl ([.ref (raK 0)])).length) Slot.unset).toArray = ls at hl ⊢
  have hl : lv_has ls 5 [(0, .ref (raK 0))] := hl
  unfold f_X11_faint at hf
  have h_65 : ∀ (x1_65 : Int32) (x3_65 : Int32) (K_65 : kD) (ls : Array Slot) (H : Heap) (locs : List Loc), lv_has ls 5 [(0, .ref (raK 0)), (1, .int x1_65), (3, .int x3_65)] → va_P (dC, dI) vwCl (ww_X11_faint cs ad raK raT raC raO raS raN xK2 xK4 xK5 xK6 xK7 xK8 xK9 xK10 xK11 xK12 xK13 xK14 xK18 K_65 T C O S N) H → va_D (va_A (ww_X11_faint cs ad raK raT raC raO raS raN xK2 xK4 xK5 xK6 xK7 xK8 xK9 xK10 xK11 xK12 xK13 xK14 xK18 zD (fun _ => 0) zD zD zD zD) s.heap.size) (ww_X11_faint cs ad raK raT raC raO raS raN xK2 xK4 xK5 xK6 xK7 xK8 xK9 xK10 xK11 xK12 xK13 xK14 xK18 K_65 T C O S N) → va_S (va_A (ww_X11_faint cs ad raK raT raC raO raS raN xK2 xK4 xK5 xK6 xK7 xK8 xK9 xK10 xK11 xK12 xK13 xK14 xK18 zD (fun _ => 0) zD zD zD zD) s.heap.size) s.heap H locs → g_X11_faint_65 T C O S N x1_65 x3_65 K_65 = some r → W p l e (headSpec wsX11_faint rm_X11_faint).room s m args below meth c H locs 0 0 (MQ below (cQi dC dI cs (va_A (ww_X11_faint cs ad raK raT raC raO raS raN xK2 xK4 xK5 xK6 xK7 xK8 xK9 xK10 xK11 xK12 xK13 xK14 xK18 zD (fun _ => 0) zD zD zD zD) s.heap.size) r.1 (ww_X11_faint cs ad raK raT raC raO raS raN xK2 xK4 xK5 xK6 xK7 xK8 xK9 xK10 xK11 xK12 xK13 xK14 xK18 r.2 T C O S N)) args s 0 0 (va_A (ww_X11_faint cs ad raK raT raC raO raS raN xK2 xK4 xK5 xK6 xK7 xK8 xK9 xK10 xK11 xK12 xK13 xK14 xK18 zD (fun _ => 0) zD zD zD zD) s.heap.size)) (F0 m 65 ls []) := by
    intro x1_65 x3_65 K_65 ls H locs hl hP hD hS hf
    unfold g_X11_faint_65 at hf
    refine lv_iload_n hx hb dX11_faint_65 rfl (lv_at hl 2 rfl) ?_
    refine lv_if_le (tgt := 79) hx hb dX11_faint_66 (by decide) (fun hb4 => ?_) (fun hb4 => ?_)
    · have hf := (if_pos hb4).symm.trans hf
      refine lv_iload_n hx hb dX11_faint_79 rfl (lv_at hl 2 rfl) ?_
      have hf := Option.some.inj hf
      subst hf
      exact c_iret (v := x3_65) hx hb hr hlocks hP hK hD hS dX11_faint_80
    · have hf := (if_neg hb4).symm.trans hf
      refine lv_aload_n hx hb dX11_faint_69 rfl (lv_at hl 0 rfl) ?_
      refine lv_aload_n hx hb dX11_faint_70 rfl (lv_at hl 0 rfl) ?_
      refine lv_iload_n hx hb dX11_faint_71 rfl (lv_at hl 2 rfl) ?_
      refine lv_iload_n hx hb dX11_faint_72 rfl (lv_at hl 1 rfl) ?_
      obtain ⟨v2, hq1, hf⟩ := bo_e hf
      refine ko_call (v := some (.int v2)) (va_runV (As := [.int x3_65, .int x1_65]) (rest := [.ref (raK 0)]) ⟨hx, hb, hml, hown, hts⟩ (c_X11_placeToLook l dC dI cs ad raK raC raO raS raN raT xK2 xK4 xK5 xK6 xK7 xK8 xK9 xK10 xK11 xK12 xK13 xK14 xK18 K_65 C O S N x3_65 x1_65 v2 hq1) (cwV 2 hts gX11_faint_X11_placeToLook rfl rfl rfl (by decide +kernel) ⟨Nat.le_of_ble_eq_true rfl, Nat.le_of_ble_eq_true rfl⟩) ⟨fun a U g mk q => ⟨q.1, (fun _ _ _ _ => cPr_bl) a U g mk q.2⟩, va_recv hK hP (ci := 11) (q0 := 0) rfl rfl, fun U hU hW => ⟨rfl, ⟨by rw [hU]; exact (hP.sub (ws' := (ww_X11_placeToLook cs ad raK raC raO raS raN raT xK2 xK4 xK5 xK6 xK7 xK8 xK9 xK10 xK11 xK12 xK13 xK14 xK18 K_65 C O S N)) [0, 2, 3, 4, 5, 6, 7, 8, 9, 10, 11, 12, 13, 14, 15, 16, 17, 18, 19, 20] rfl), va_K.moved hW.alike hK, kN_warm hW hN⟩⟩⟩ rfl rfl hl.1 rfl (lv_room (Nat.le_of_ble_eq_true rfl)) dX11_faint_73 ⟨Nat.le_refl _, Nat.le_refl _⟩) ?_
      obtain ⟨Kv3, eKv3, hf⟩ := bd1_e hf
      refine g_put (D := (dC, dI)) (ci := 11) (C := RX11) (T := TX11) (N := 19) hx hb hts hinX11 tyX11 tyX11_ok nmX11 hown hK hP hD hS 0 rfl rfl 17 (by decide) k_fieldLink_RX11_94__KeyLetters___lookPlace___I_ (fun _ h9 => h9) rfl (ty := .int) (v := .int v2) (by decide +kernel) rfl rfl (Nat.le_of_ble_eq_true rfl) (ws' := (ww_X11_faint cs ad raK raT raC raO raS raN xK2 xK4 xK5 xK6 xK7 xK8 xK9 xK10 xK11 xK12 xK13 xK14 xK18 Kv3 T C O S N)) (by rw [eKv3]; rfl) dX11_faint_76 (fun H locs hP hD hS => ?_)
      refine lv_iload_n hx hb dX11_faint_79 rfl (lv_at hl 2 rfl) ?_
      have hf := Option.some.inj hf
      subst hf
      exact c_iret (v := x3_65) hx hb hr hlocks hP hK hD hS dX11_faint_80
  have h_28 := lp_ind (z := (fun _ _ _ _ => none)) (b := (g_X11_faint_28 T C O S N)) (fun (rc_28 : Int32 → Int32 → Int32 → kD → Option (Int32 × kD)) => ∀ (x1_28 : Int32) (x3_28 : Int32) (x4_28 : Int32) (K_28 : kD) (ls : Array Slot) (H : Heap) (locs : List Loc), lv_has ls 5 [(0, .ref (raK 0)), (1, .int x1_28), (2, .ref (raO 0)), (3, .int x3_28), (4, .int x4_28)] → va_P (dC, dI) vwCl (ww_X11_faint cs ad raK raT raC raO raS raN xK2 xK4 xK5 xK6 xK7 xK8 xK9 xK10 xK11 xK12 xK13 xK14 xK18 K_28 T C O S N) H → va_D (va_A (ww_X11_faint cs ad raK raT raC raO raS raN xK2 xK4 xK5 xK6 xK7 xK8 xK9 xK10 xK11 xK12 xK13 xK14 xK18 zD (fun _ => 0) zD zD zD zD) s.heap.size) (ww_X11_faint cs ad raK raT raC raO raS raN xK2 xK4 xK5 xK6 xK7 xK8 xK9 xK10 xK11 xK12 xK13 xK14 xK18 K_28 T C O S N) → va_S (va_A (ww_X11_faint cs ad raK raT raC raO raS raN xK2 xK4 xK5 xK6 xK7 xK8 xK9 xK10 xK11 xK12 xK13 xK14 xK18 zD (fun _ => 0) zD zD zD zD) s.heap.size) s.heap H locs → rc_28 x1_28 x3_28 x4_28 K_28 = some r → W p l e (headSpec wsX11_faint rm_X11_faint).room s m args below meth c H locs 0 0 (MQ below (cQi dC dI cs (va_A (ww_X11_faint cs ad raK raT raC raO raS raN xK2 xK4 xK5 xK6 xK7 xK8 xK9 xK10 xK11 xK12 xK13 xK14 xK18 zD (fun _ => 0) zD zD zD zD) s.heap.size) r.1 (ww_X11_faint cs ad raK raT raC raO raS raN xK2 xK4 xK5 xK6 xK7 xK8 xK9 xK10 xK11 xK12 xK13 xK14 xK18 r.2 T C O S N)) args s 0 0 (va_A (ww_X11_faint cs ad raK raT raC raO raS raN xK2 xK4 xK5 xK6 xK7 xK8 xK9 xK10 xK11 xK12 xK13 xK14 xK18 zD (fun _ => 0) zD zD zD zD) s.heap.size)) (F0 m 28 ls [])) (by
      intro x1_28 x3_28 x4_28 K_28 ls H locs hl hP hD hS hf
      cases hf) (by
      intro rc_28 ih_28 x1_28 x3_28 x4_28 K_28 ls H locs hl hP hD hS hf
      unfold g_X11_faint_28 at hf
      have h_59 : ∀ (x1_59 : Int32) (x3_59 : Int32) (x4_59 : Int32) (K_59 : kD) (ls : Array Slot) (H : Heap) (locs : List Loc), lv_has ls 5 [(0, .ref (raK 0)), (1, .int x1_59), (2, .ref (raO 0)), (3, .int x3_59), (4, .int x4_59)] → va_P (dC, dI) vwCl (ww_X11_faint cs ad raK raT raC raO raS raN xK2 xK4 xK5 xK6 xK7 xK8 xK9 xK10 xK11 xK12 xK13 xK14 xK18 K_59 T C O S N) H → va_D (va_A (ww_X11_faint cs ad raK raT raC raO raS raN xK2 xK4 xK5 xK6 xK7 xK8 xK9 xK10 xK11 xK12 xK13 xK14 xK18 zD (fun _ => 0) zD zD zD zD) s.heap.size) (ww_X11_faint cs ad raK raT raC raO raS raN xK2 xK4 xK5 xK6 xK7 xK8 xK9 xK10 xK11 xK12 xK13 xK14 xK18 K_59 T C O S N) → va_S (va_A (ww_X11_faint cs ad raK raT raC raO raS raN xK2 xK4 xK5 xK6 xK7 xK8 xK9 xK10 xK11 xK12 xK13 xK14 xK18 zD (fun _ => 0) zD zD zD zD) s.heap.size) s.heap H locs → g_X11_faint_59 rc_28 T C O S N x1_59 x3_59 x4_59 K_59 = some r → W p l e (headSpec wsX11_faint rm_X11_faint).room s m args below meth c H locs 0 0 (MQ below (cQi dC dI cs (va_A (ww_X11_faint cs ad raK raT raC raO raS raN xK2 xK4 xK5 xK6 xK7 xK8 xK9 xK10 xK11 xK12 xK13 xK14 xK18 zD (fun _ => 0) zD zD zD zD) s.heap.size) r.1 (ww_X11_faint cs ad raK raT raC raO raS raN xK2 xK4 xK5 xK6 xK7 xK8 xK9 xK10 xK11 xK12 xK13 xK14 xK18 r.2 T C O S N)) args s 0 0 (va_A (ww_X11_faint cs ad raK raT raC raO raS raN xK2 xK4 xK5 xK6 xK7 xK8 xK9 xK10 xK11 xK12 xK13 xK14 xK18 zD (fun _ => 0) zD zD zD zD) s.heap.size)) (F0 m 59 ls []) := by
        intro x1_59 x3_59 x4_59 K_59 ls H locs hl hP hD hS hf
        unfold g_X11_faint_59 at hf
        obtain ⟨v5, ev5, hf⟩ := bd1_e hf
        refine lv_iinc (k := 4) (x := x4_59) (v := v5) (nL := 5) (lv' := [(4, .int v5), (0, .ref (raK 0)), (1, .int x1_59), (2, .ref (raO 0)), (3, .int x3_59)]) hx hb dX11_faint_59 hl rfl (kt_inc (w := 1) (by decide) ev5) (by decide) rfl (fun ls hl => ?_)
        refine lv_goto (tgt := 28) hx hb dX11_faint_62 (by decide) ?_
        exact ih_28 x1_59 x3_59 v5 K_59 ls _ _ (lv_sub hl [1, 2, 3, 4, 0] rfl) hP hD hS hf
      refine lv_iload hx hb dX11_faint_28 (lv_at hl 4 rfl) ?_
      refine lv_aload_n hx hb dX11_faint_30 rfl (lv_at hl 2 rfl) ?_
      refine va_getN (D := (dC, dI)) (ci := 4) (C := RX3) (T := TX3) (N := 11) hx hb hts hinX3 hown hK hP 3 rfl rfl 2 (by decide) (v := .int (O.1 0 2)) (va_Nw.use rfl (hN _ (List.mem_of_getElem? (i := 18) rfl))) (fun _ h9 => h9) rfl dX11_faint_31 ?_
      refine lv_icmp_ge (tgt := 65) hx hb dX11_faint_34 (by decide) (fun hb11 => ?_) (fun hb11 => ?_)
      · have hf := (if_pos hb11).symm.trans hf
        exact h_65 x1_28 x3_28 K_28 ls _ _ (lv_sub hl [0, 1, 3] rfl) hP hD hS hf
      · have hf := (if_neg hb11).symm.trans hf
        refine lv_aload_n hx hb dX11_faint_37 rfl (lv_at hl 0 rfl) ?_
        refine lv_aload_n hx hb dX11_faint_38 rfl (lv_at hl 2 rfl) ?_
        refine va_getN (D := (dC, dI)) (ci := 4) (C := RX3) (T := TX3) (N := 11) hx hb hts hinX3 hown hK hP 3 rfl rfl 7 (by decide) (v := .ref (raO 7)) (va_Nw.use rfl (hN _ (List.mem_of_getElem? (i := 27) rfl))) (fun _ h9 => h9) rfl dX11_faint_39 ?_
        refine lv_iload hx hb dX11_faint_42 (lv_at hl 4 rfl) ?_
        obtain ⟨hc6, hf⟩ := ck_e hf
        refine va_lald hx hb hK hP 7 2 rfl rfl hc6 dX11_faint_44 ?_
        refine lv_iload_n hx hb dX11_faint_45 rfl (lv_at hl 1 rfl) ?_
        obtain ⟨v8, hq7, hf⟩ := bo_e hf
        refine ko_call (v := some (.int v8)) (va_runV (As := [.long (O.2 7 x4_28.toNatClampNeg), .int x1_28]) (rest := []) ⟨hx, hb, hml, hown, hts⟩ (c_X11_fits l dC dI cs ad raK raT xK2 (raC 0) xK4 xK5 xK6 xK7 xK8 xK9 xK10 xK11 xK12 xK13 xK14 xK18 K_28 T (O.2 7 x4_28.toNatClampNeg) x1_28 v8 hq7) (cwV 2 hts gX11_faint_X11_fits rfl rfl rfl (by decide +kernel) ⟨Nat.le_of_ble_eq_true rfl, Nat.le_of_ble_eq_true rfl⟩) ⟨fun a U g mk q => ⟨q.1, (fun _ _ _ _ => cPr_bl) a U g mk q.2⟩, va_recv hK hP (ci := 11) (q0 := 0) rfl rfl, fun U hU hW => ⟨rfl, ⟨by rw [hU]; exact (hP.sub (ws' := (ww_X11_fits cs ad raK raT xK2 (raC 0) xK4 xK5 xK6 xK7 xK8 xK9 xK10 xK11 xK12 xK13 xK14 xK18 K_28 T)) [0, 1] rfl), va_K.moved hW.alike hK, kN_warm hW hN⟩⟩⟩ rfl rfl hl.1 rfl (lv_room (Nat.le_of_ble_eq_true rfl)) dX11_faint_46 ⟨Nat.le_refl _, Nat.le_refl _⟩) ?_
        refine lv_if_eq (tgt := 59) hx hb dX11_faint_49 (by decide) (fun hb10 => ?_) (fun hb10 => ?_)
        · have hf := (if_pos hb10).symm.trans hf
          exact h_59 x1_28 x3_28 x4_28 K_28 ls _ _ hl hP hD hS hf
        · have hf := (if_neg hb10).symm.trans hf
          refine lv_iload_n hx hb dX11_faint_52 rfl (lv_at hl 3 rfl) ?_
          refine lv_iconst (v := 1) hx hb dX11_faint_53 (by decide) ?_
          refine lv_iload hx hb dX11_faint_54 (lv_at hl 4 rfl) ?_
          refine lv_ishl hx hb dX11_faint_56 ?_
          refine lv_ior hx hb dX11_faint_57 ?_
          obtain ⟨v9, ev9, hf⟩ := bd1_e hf
          refine kt_i ev9 ?_
          refine lv_istore_n (nL := 5) (lv' := [(3, .int v9), (0, .ref (raK 0)), (1, .int x1_28), (2, .ref (raO 0)), (4, .int x4_28)]) hx hb dX11_faint_58 rfl hl (by decide) rfl (fun ls hl => ?_)
          exact h_59 x1_28 v9 x4_28 K_28 ls _ _ (lv_sub hl [1, 2, 3, 0, 4] rfl) hP hD hS hf) 2000
  refine lv_aload_n hx hb dX11_faint_0 rfl (lv_at hl 0 rfl) ?_
  obtain ⟨v13, Kv14, hq12, hf⟩ := bo2_e hf
  refine g_callw (isC := [0]) (isR := [1, 2, 3, 4, 5, 6, 7, 8, 9, 10, 11, 12, 13, 14, 15, 16, 17, 18, 19, 20]) (wc := (ww_X11_takeTape cs ad raK raT xK2 (raC 0) xK4 xK5 xK6 xK7 xK8 xK9 xK10 xK11 xK12 xK13 xK14 xK18 K)) (wz := (ww_X11_takeTape cs ad raK raT xK2 (raC 0) xK4 xK5 xK6 xK7 xK8 xK9 xK10 xK11 xK12 xK13 xK14 xK18 zD)) (w1 := (ww_X11_takeTape cs ad raK raT xK2 (raC 0) xK4 xK5 xK6 xK7 xK8 xK9 xK10 xK11 xK12 xK13 xK14 xK18 Kv14)) (ws' := (ww_X11_faint cs ad raK raT raC raO raS raN xK2 xK4 xK5 xK6 xK7 xK8 xK9 xK10 xK11 xK12 xK13 xK14 xK18 Kv14 T C O S N)) (v := v13) (va_runV (As := []) (rest := []) ⟨hx, hb, hml, hown, hts⟩ (c_X11_takeTape l dC dI cs ad raK raT xK2 (raC 0) xK4 xK5 xK6 xK7 xK8 xK9 xK10 xK11 xK12 xK13 xK14 xK18 _ K (v13, Kv14) hq12) (cwV 0 hts gX11_faint_X11_takeTape rfl rfl rfl (by decide +kernel) ⟨Nat.le_of_ble_eq_true rfl, Nat.le_of_ble_eq_true rfl⟩) ⟨fun a U g mk q => ⟨q.1, (fun _ _ _ _ => cPw_bl) a U g mk q.2⟩, va_recv hK hP (ci := 11) (q0 := 0) rfl rfl, fun U hU hW => ⟨rfl, ⟨by rw [hU], by rw [hU]; exact (hP.sub (ws' := (ww_X11_takeTape cs ad raK raT xK2 (raC 0) xK4 xK5 xK6 xK7 xK8 xK9 xK10 xK11 xK12 xK13 xK14 xK18 K)) [0] rfl), va_K.moved hW.alike hK, (hD.sub (ws' := (ww_X11_takeTape cs ad raK raT xK2 (raC 0) xK4 xK5 xK6 xK7 xK8 xK9 xK10 xK11 xK12 xK13 xK14 xK18 K)) [0] (by decide) rfl).weaken (fun _ _ _ _ => trivial), kN_warm hW hN⟩⟩⟩ rfl rfl hl.1 rfl (lv_room (Nat.le_of_ble_eq_true rfl)) dX11_faint_1 ⟨Nat.le_refl _, Nat.le_refl _⟩) hP hD hS hA rfl rfl (wr := (([(raT, .inl (cs 1, 940, .inl T))]) ++ ((wX7 cs ad raC (raO 0) (raS 0) (raN 0) C) ++ ((wX3 cs ad raO O) ++ ((wX9 cs ad raS S) ++ ((wX8 cs ad raN N))))))) rfl rfl rfl (nw := 21) rfl (by decide +kernel) rfl (fun H locs hP hD hS => ?_)
  refine lv_istore_n (nL := 5) (lv' := [(1, .int v13), (0, .ref (raK 0))]) hx hb dX11_faint_4 rfl hl (by decide) rfl (fun ls hl => ?_)
  refine lv_aload_n hx hb dX11_faint_5 rfl (lv_at hl 1 rfl) ?_
  refine lv_iload_n hx hb dX11_faint_6 rfl (lv_at hl 0 rfl) ?_
  obtain ⟨v16, hq15, hf⟩ := bo_e hf
  refine ko_call (v := some (.int v16)) (va_runV (As := [.int v13]) (rest := []) ⟨hx, hb, hml, hown, hts⟩ (c_X11_tellsFaintLetters l dC dI cs ad raK raT xK2 (raC 0) xK4 xK5 xK6 xK7 xK8 xK9 xK10 xK11 xK12 xK13 xK14 xK18 Kv14 T v13 v16 hq15) (cwV 1 hts gX11_faint_X11_tellsFaintLetters rfl rfl rfl (by decide +kernel) ⟨Nat.le_of_ble_eq_true rfl, Nat.le_of_ble_eq_true rfl⟩) ⟨fun a U g mk q => ⟨q.1, (fun _ _ _ _ => cPr_bl) a U g mk q.2⟩, va_recv hK hP (ci := 11) (q0 := 0) rfl rfl, fun U hU hW => ⟨rfl, ⟨by rw [hU]; exact (hP.sub (ws' := (ww_X11_tellsFaintLetters cs ad raK raT xK2 (raC 0) xK4 xK5 xK6 xK7 xK8 xK9 xK10 xK11 xK12 xK13 xK14 xK18 Kv14 T)) [0, 1] rfl), va_K.moved hW.alike hK, kN_warm hW hN⟩⟩⟩ rfl rfl hl.1 rfl (lv_room (Nat.le_of_ble_eq_true rfl)) dX11_faint_7 ⟨Nat.le_refl _, Nat.le_refl _⟩) ?_
  refine lv_if_ne (tgt := 15) hx hb dX11_faint_10 (by decide) (fun hb17 => ?_) (fun hb17 => ?_)
  · have hf := (if_neg hb17).symm.trans hf
    refine lv_aload_n hx hb dX11_faint_15 rfl (lv_at hl 1 rfl) ?_
    refine va_get (D := (dC, dI)) (ci := 11) (C := RX11) (T := TX11) (N := 19) hx hb hts hinX11 hown hK hP 0 rfl rfl 3 (by decide) (v := .ref (raC 0)) k_fieldLink_RX11_23__KeyLetters___scene___LKeyLetters_Scene__ (fun _ h9 => h9) rfl dX11_faint_16 ?_
    refine va_getN (D := (dC, dI)) (ci := 8) (C := RX7) (T := TX7) (N := 3) hx hb hts hinX7 hown hK hP 2 rfl rfl 0 (by decide) (v := .ref (raO 0)) (va_Nw.use rfl (hN _ (List.mem_of_getElem? (i := 50) rfl))) (fun _ h9 => h9) rfl dX11_faint_19 ?_
    refine lv_astore_n (nL := 5) (lv' := [(2, .ref (raO 0)), (1, .int v13), (0, .ref (raK 0))]) hx hb dX11_faint_22 rfl hl (by decide) rfl (fun ls hl => ?_)
    refine lv_iconst (v := 0) hx hb dX11_faint_23 (by decide) ?_
    refine lv_istore_n (nL := 5) (lv' := [(3, .int (0 : Int32)), (2, .ref (raO 0)), (1, .int v13), (0, .ref (raK 0))]) hx hb dX11_faint_24 rfl hl (by decide) rfl (fun ls hl => ?_)
    refine lv_iconst (v := 0) hx hb dX11_faint_25 (by decide) ?_
    refine lv_istore (nL := 5) (lv' := [(4, .int (0 : Int32)), (3, .int (0 : Int32)), (2, .ref (raO 0)), (1, .int v13), (0, .ref (raK 0))]) hx hb dX11_faint_26 hl (by decide) rfl (fun ls hl => ?_)
    exact h_28 v13 (0 : Int32) (0 : Int32) Kv14 ls _ _ (lv_sub hl [4, 3, 2, 1, 0] rfl) hP hD hS hf
  · have hf := (if_pos hb17).symm.trans hf
    refine lv_iconst (v := -1) hx hb dX11_faint_13 (by decide) ?_
    have hf := Option.some.inj hf
    subst hf
    exact c_iret (v := (-1 : Int32)) hx hb hr hlocks hP hK hD hS dX11_faint_14

def ww_X11_look (cs : Nat → ClassId) (ad : Nat → Nat) (raK : Nat → Nat) (xK0 : Nat) (xK2 : Nat) (xK3 : Nat) (xK4 : Nat) (xK5 : Nat) (xK6 : Nat) (xK7 : Nat) (xK8 : Nat) (xK9 : Nat) (xK10 : Nat) (xK11 : Nat) (xK12 : Nat) (xK13 : Nat) (xK14 : Nat) (xK18 : Nat) (K : kD) : va_W := (wX11 cs ad raK xK0 xK2 xK3 xK4 xK5 xK6 xK7 xK8 xK9 xK10 xK11 xK12 xK13 xK14 xK18 K)
abbrev rm_X11_look : Room := { frames := 0, cells := 0, slots := 0, locals := 0 }
set_option maxHeartbeats 4000000 in
set_option maxRecDepth 100000 in
theorem c_X11_look (l : Launch) (dC : Nat → ClassId) (dI : Nat → Nat → Nat) (cs : Nat → ClassId) (ad : Nat → Nat) (raK : Nat → Nat) (xK0 : Nat) (xK2 : Nat) (xK3 : Nat) (xK4 : Nat) (xK5 : Nat) (xK6 : Nat) (xK7 : Nat) (xK8 : Nat) (xK9 : Nat) (xK10 : Nat) (xK11 : Nat) (xK12 : Nat) (xK13 : Nat) (xK14 : Nat) (xK18 : Nat) (K : kD) (r : Int32) (hf : f_X11_look K = r) : Met l yX11_look wsX11_look rm_X11_look (va_Pc [.ref (raK 0)] (cPr dC dI cs (ww_X11_look cs ad raK xK0 xK2 xK3 xK4 xK5 xK6 xK7 xK8 xK9 xK10 xK11 xK12 xK13 xK14 xK18 K))) (kQ (some (.int r))) 0 0 (kF) := by
  refine Met.ofW (cc := cX11_look) (maxL := 1) (ret := (some .int)) (by decide) rfl ?_
  intro p e s m args below meth c s₁ B hml hv
  obtain ⟨hav, hP, hK, hN⟩ := hv
  have hx := B.exec
  have hb := B.bytes
  have hr := B.returns
  have hts := atoms_spec (ws := wsX11_look) B.pre
  have hown : s.vm.findClass RX11 = some m.cls := findClass_of_methodNamed B.named
  have hlocks := B.notSynchronized
  have hinX11 := (show ∀ w ∈ wsX110, w ∈ wsX11_look from fun w h => List.mem_cons_of_mem _ (List.mem_append_right _ h))
  have k_fieldLink_RX11_94__KeyLetters___lookPlace___I_ := hts (.fieldLink RX11 94 "KeyLetters" "lookPlace" "I") (List.mem_of_getElem? (i := 1) rfl)
  have hl := lv_entry ([.ref (raK 0)]) (n := 1) (Nat.le_of_ble_eq_true rfl)
  rw [show entryFrame m args 1 = entryFrame m ([.ref (raK 0)] : List Value).toArray 1 from by rw [hav], lg_entry_eq]
  generalize (lg_sl ([.ref (raK 0)]) ++ List.replicate (1 - (lg_sl ([.ref (raK 0)])).length) Slot.unset).toArray = ls at hl ⊢
  have hl : lv_has ls 1 [(0, .ref (raK 0))] := hl
  unfold f_X11_look at hf
  refine lv_aload_n hx hb dX11_look_0 rfl (lv_at hl 0 rfl) ?_
  refine va_get (D := (dC, dI)) (ci := 11) (C := RX11) (T := TX11) (N := 19) hx hb hts hinX11 hown hK hP 0 rfl rfl 17 (by decide) (v := .int (K.1 0 17)) k_fieldLink_RX11_94__KeyLetters___lookPlace___I_ (fun _ h9 => h9) rfl dX11_look_1 ?_
  subst hf
  exact W.iret (v := (K.1 0 17)) hx hb hr (fun t ht hW => ⟨rfl, ht⟩) (fun _ h => nomatch h) dX11_look_4

abbrev rm_X11_commonDivisor : Room := { frames := 1, cells := 0, slots := 0, locals := 40 }
set_option maxHeartbeats 4000000 in
set_option maxRecDepth 100000 in
theorem c_X11_commonDivisor (l : Launch) (dC : Nat → ClassId) (dI : Nat → Nat → Nat) (cs : Nat → ClassId) (ad : Nat → Nat) (a0 : Int32) (a1 : Int32) (r : Int32) (hf : f_X11_commonDivisor a0 a1 = some r) : Met l yX11_commonDivisor wsX11_commonDivisor rm_X11_commonDivisor (va_Pc [.int a0, .int a1] (cPr dC dI cs ([] : va_W))) (kQ (some (.int r))) 0 0 (kF) := by
  refine Met.ofW (cc := cX11_commonDivisor) (maxL := 6) (ret := (some .int)) (by decide) rfl ?_
  intro p e s m args below meth c s₁ B hml hv
  obtain ⟨hav, hP, hK, hN⟩ := hv
  have hx := B.exec
  have hb := B.bytes
  have hr := B.returns
  have hts := atoms_spec (ws := wsX11_commonDivisor) B.pre
  have hown : s.vm.findClass RX11 = some m.cls := findClass_of_methodNamed B.named
  have hlocks := B.notSynchronized
  have k_code_Lib_Math_max_name_Lib_Math_max_code_2__some__int_ := hts (.code Lib.Math.max.name Lib.Math.max.code 2 (some .int)) (List.mem_of_getElem? (i := 4) rfl)
  have k_initialized__java_lang_Math_ := hts (.initialized "java/lang/Math") (List.mem_of_getElem? (i := 3) rfl)
  have k_methodLink_RX11_426_Lib_Math_max_name := hts (.methodLink RX11 426 Lib.Math.max.name) (List.mem_of_getElem? (i := 1) rfl)
  have k_static_Lib_Math_max_name := hts (.static Lib.Math.max.name) (List.mem_of_getElem? (i := 2) rfl)
  have hl := lv_entry ([.int a0, .int a1]) (n := 6) (Nat.le_of_ble_eq_true rfl)
  rw [show entryFrame m args 6 = entryFrame m ([.int a0, .int a1] : List Value).toArray 6 from by rw [hav], lg_entry_eq]
  generalize (lg_sl ([.int a0, .int a1]) ++ List.replicate (6 - (lg_sl ([.int a0, .int a1])).length) Slot.unset).toArray = ls at hl ⊢
  have hl : lv_has ls 6 [(0, .int a0), (1, .int a1)] := hl
  unfold f_X11_commonDivisor at hf
  have h_34 : ∀ (x2_34 : Int32) (ls : Array Slot), lv_has ls 6 [(2, .int x2_34)] → g_X11_commonDivisor_34 x2_34 = some r → W p l e (headSpec wsX11_commonDivisor rm_X11_commonDivisor).room s m args below meth c s.heap [] 0 0 (MQ below (kQ (some (.int r))) args s 0 0 (kF)) (F0 m 34 ls []) := by
    intro x2_34 ls hl hf
    unfold g_X11_commonDivisor_34 at hf
    refine lv_iconst (v := 1) hx hb dX11_commonDivisor_34 (by decide) ?_
    refine lv_iload_n hx hb dX11_commonDivisor_35 rfl (lv_at hl 0 rfl) ?_
    refine va_mmax hx hb (hml.trans hl.1.symm) hown k_methodLink_RX11_426_Lib_Math_max_name k_static_Lib_Math_max_name k_initialized__java_lang_Math_ k_code_Lib_Math_max_name_Lib_Math_max_code_2__some__int_ (Nat.le_of_ble_eq_true rfl) (Nat.le_of_ble_eq_true rfl) (Nat.zero_le _) (Nat.zero_le _) dX11_commonDivisor_36 ?_
    have hf := Option.some.inj hf
    subst hf
    exact W.iret (v := (kMax (1 : Int32) x2_34)) hx hb hr (fun t ht hW => ⟨rfl, ht⟩) (fun _ h => nomatch h) dX11_commonDivisor_39
  have h_7 := lp_ind (z := (fun _ _ _ => none)) (b := (g_X11_commonDivisor_7)) (fun (rc_7 : Int32 → Int32 → Int32 → Option Int32) => ∀ (x2_7 : Int32) (x3_7 : Int32) (x4_7 : Int32) (ls : Array Slot), lv_has ls 6 [(2, .int x2_7), (3, .int x3_7), (4, .int x4_7)] → rc_7 x2_7 x3_7 x4_7 = some r → W p l e (headSpec wsX11_commonDivisor rm_X11_commonDivisor).room s m args below meth c s.heap [] 0 0 (MQ below (kQ (some (.int r))) args s 0 0 (kF)) (F0 m 7 ls [])) (by
      intro x2_7 x3_7 x4_7 ls hl hf
      cases hf) (by
      intro rc_7 ih_7 x2_7 x3_7 x4_7 ls hl hf
      unfold g_X11_commonDivisor_7 at hf
      refine lv_iload hx hb dX11_commonDivisor_7 (lv_at hl 2 rfl) ?_
      refine lv_bipush (v := 100) hx hb dX11_commonDivisor_9 (by decide) ?_
      refine lv_icmp_ge (tgt := 34) hx hb dX11_commonDivisor_11 (by decide) (fun hb5 => ?_) (fun hb5 => ?_)
      · have hf := (if_pos hb5).symm.trans hf
        exact h_34 x2_7 ls (lv_sub hl [0] rfl) hf
      · have hf := (if_neg hb5).symm.trans hf
        refine lv_iload_n hx hb dX11_commonDivisor_14 rfl (lv_at hl 1 rfl) ?_
        refine lv_if_eq (tgt := 34) hx hb dX11_commonDivisor_15 (by decide) (fun hb4 => ?_) (fun hb4 => ?_)
        · have hf := (if_pos hb4).symm.trans hf
          exact h_34 x2_7 ls (lv_sub hl [0] rfl) hf
        · have hf := (if_neg hb4).symm.trans hf
          refine lv_iload_n hx hb dX11_commonDivisor_18 rfl (lv_at hl 0 rfl) ?_
          refine lv_iload_n hx hb dX11_commonDivisor_19 rfl (lv_at hl 1 rfl) ?_
          obtain ⟨hc1, hf⟩ := ck_e hf
          refine lv_irem hx hb dX11_commonDivisor_20 hc1 ?_
          obtain ⟨v2, ev2, hf⟩ := bd1_e hf
          refine kt_i ev2 ?_
          refine lv_istore (nL := 6) (lv' := [(5, .int v2), (2, .int x2_7), (3, .int x3_7), (4, .int x4_7)]) hx hb dX11_commonDivisor_21 hl (by decide) rfl (fun ls hl => ?_)
          refine lv_iload_n hx hb dX11_commonDivisor_23 rfl (lv_at hl 2 rfl) ?_
          refine lv_istore_n (nL := 6) (lv' := [(2, .int x3_7), (5, .int v2), (3, .int x3_7), (4, .int x4_7)]) hx hb dX11_commonDivisor_24 rfl hl (by decide) rfl (fun ls hl => ?_)
          refine lv_iload hx hb dX11_commonDivisor_25 (lv_at hl 1 rfl) ?_
          refine lv_istore_n (nL := 6) (lv' := [(3, .int v2), (2, .int x3_7), (5, .int v2), (4, .int x4_7)]) hx hb dX11_commonDivisor_27 rfl hl (by decide) rfl (fun ls hl => ?_)
          obtain ⟨v3, ev3, hf⟩ := bd1_e hf
          refine lv_iinc (k := 3) (x := x4_7) (v := v3) (nL := 6) (lv' := [(4, .int v3), (3, .int v2), (2, .int x3_7), (5, .int v2)]) hx hb dX11_commonDivisor_28 hl rfl (kt_inc (w := 1) (by decide) ev3) (by decide) rfl (fun ls hl => ?_)
          refine lv_goto (tgt := 7) hx hb dX11_commonDivisor_31 (by decide) ?_
          exact ih_7 x3_7 v2 v3 ls (lv_sub hl [2, 1, 0] rfl) hf) 2000
  refine lv_iload_n hx hb dX11_commonDivisor_0 rfl (lv_at hl 0 rfl) ?_
  refine lv_istore_n (nL := 6) (lv' := [(2, .int a0), (0, .int a0), (1, .int a1)]) hx hb dX11_commonDivisor_1 rfl hl (by decide) rfl (fun ls hl => ?_)
  refine lv_iload_n hx hb dX11_commonDivisor_2 rfl (lv_at hl 2 rfl) ?_
  refine lv_istore_n (nL := 6) (lv' := [(3, .int a1), (2, .int a0), (0, .int a0), (1, .int a1)]) hx hb dX11_commonDivisor_3 rfl hl (by decide) rfl (fun ls hl => ?_)
  refine lv_iconst (v := 0) hx hb dX11_commonDivisor_4 (by decide) ?_
  refine lv_istore (nL := 6) (lv' := [(4, .int (0 : Int32)), (3, .int a1), (2, .int a0), (0, .int a0), (1, .int a1)]) hx hb dX11_commonDivisor_5 hl (by decide) rfl (fun ls hl => ?_)
  exact h_7 a0 a1 (0 : Int32) ls (lv_sub hl [2, 1, 0] rfl) hf

def ww_X11_ship (cs : Nat → ClassId) (ad : Nat → Nat) (raK : Nat → Nat) (raT : Nat) (xK2 : Nat) (xK3 : Nat) (xK4 : Nat) (xK5 : Nat) (xK6 : Nat) (xK7 : Nat) (xK8 : Nat) (xK9 : Nat) (xK10 : Nat) (xK11 : Nat) (xK12 : Nat) (xK13 : Nat) (xK14 : Nat) (xK18 : Nat) (K : kD) (T : Nat → Int32) : va_W := (wX11 cs ad raK raT xK2 xK3 xK4 xK5 xK6 xK7 xK8 xK9 xK10 xK11 xK12 xK13 xK14 xK18 K ++ ([(raT, .inl (cs 1, 940, .inl T))]))
abbrev rm_X11_ship : Room := { frames := 2, cells := 0, slots := 0, locals := 65 }
set_option maxHeartbeats 4000000 in
set_option maxRecDepth 100000 in
theorem c_X11_ship (l : Launch) (dC : Nat → ClassId) (dI : Nat → Nat → Nat) (cs : Nat → ClassId) (ad : Nat → Nat) (raK : Nat → Nat) (raT : Nat) (xK2 : Nat) (xK3 : Nat) (xK4 : Nat) (xK5 : Nat) (xK6 : Nat) (xK7 : Nat) (xK8 : Nat) (xK9 : Nat) (xK10 : Nat) (xK11 : Nat) (xK12 : Nat) (xK13 : Nat) (xK14 : Nat) (xK18 : Nat) (sz : Nat) (K : kD) (T : Nat → Int32) (r : Int32 × kD) (hf : f_X11_ship K T = some r) : Met l yX11_ship wsX11_ship rm_X11_ship (va_Pc [.ref (raK 0)] (cPw dC dI cs sz (ww_X11_ship cs ad raK raT xK2 xK3 xK4 xK5 xK6 xK7 xK8 xK9 xK10 xK11 xK12 xK13 xK14 xK18 K T))) (cQi dC dI cs (va_A (ww_X11_ship cs ad raK raT xK2 xK3 xK4 xK5 xK6 xK7 xK8 xK9 xK10 xK11 xK12 xK13 xK14 xK18 zD (fun _ => 0)) sz) r.1 (ww_X11_ship cs ad raK raT xK2 xK3 xK4 xK5 xK6 xK7 xK8 xK9 xK10 xK11 xK12 xK13 xK14 xK18 r.2 T)) 0 0 (va_A (ww_X11_ship cs ad raK raT xK2 xK3 xK4 xK5 xK6 xK7 xK8 xK9 xK10 xK11 xK12 xK13 xK14 xK18 zD (fun _ => 0)) sz) := by
  refine Met.ofW (cc := cX11_ship) (maxL := 6) (ret := (some .int)) (by decide) rfl ?_
  intro p e s m args below meth c s₁ B hml hv
  obtain ⟨hav, hsz, hP, hK, hD0, hN⟩ := hv
  have hx := B.exec
  have hb := B.bytes
  have hr := B.returns
  have hts := atoms_spec (ws := wsX11_ship) B.pre
  have hown : s.vm.findClass RX11 = some m.cls := findClass_of_methodNamed B.named
  have hlocks := B.notSynchronized
  subst hsz
  have hA : ∀ q, s.heap.size ≤ q → va_A (ww_X11_ship cs ad raK raT xK2 xK3 xK4 xK5 xK6 xK7 xK8 xK9 xK10 xK11 xK12 xK13 xK14 xK18 zD (fun _ => 0)) s.heap.size q := fun q h => Or.inr h
  have hD : va_D (va_A (ww_X11_ship cs ad raK raT xK2 xK3 xK4 xK5 xK6 xK7 xK8 xK9 xK10 xK11 xK12 xK13 xK14 xK18 zD (fun _ => 0)) s.heap.size) (ww_X11_ship cs ad raK raT xK2 xK3 xK4 xK5 xK6 xK7 xK8 xK9 xK10 xK11 xK12 xK13 xK14 xK18 K T) := hD0.weaken (fun k q h _ => cA_in (ws := (ww_X11_ship cs ad raK raT xK2 xK3 xK4 xK5 xK6 xK7 xK8 xK9 xK10 xK11 xK12 xK13 xK14 xK18 K T)) (ws' := (ww_X11_ship cs ad raK raT xK2 xK3 xK4 xK5 xK6 xK7 xK8 xK9 xK10 xK11 xK12 xK13 xK14 xK18 zD (fun _ => 0))) rfl h)
  have hS : va_S (va_A (ww_X11_ship cs ad raK raT xK2 xK3 xK4 xK5 xK6 xK7 xK8 xK9 xK10 xK11 xK12 xK13 xK14 xK18 zD (fun _ => 0)) s.heap.size) s.heap s.heap [] := va_S.rf
  have hinX11 := (show ∀ w ∈ wsX110, w ∈ wsX11_ship from fun w h => List.mem_cons_of_mem _ (List.mem_append_right _ h))
  have k_constantLong_RX11_315_99999999 := hts (.constantLong RX11 315 99999999) (by decide +kernel)
  have k_fieldLink_RX11_9__KeyLetters___tape____I_ := hts (.fieldLink RX11 9 "KeyLetters" "tape" "[I") (List.mem_of_getElem? (i := 1) rfl)
  have hl := lv_entry ([.ref (raK 0)]) (n := 6) (Nat.le_of_ble_eq_true rfl)
  rw [show entryFrame m args 6 = entryFrame m ([.ref (raK 0)] : List Value).toArray 6 from by rw [hav], lg_entry_eq]
  generalize (lg_sl ([.ref (raK 0)]) ++ List.replicate (6 - (lg_sl ([.ref (raK 0)])).length) Slot.unset).toArray = ls at hl ⊢
  have hl : lv_has ls 6 [(0, .ref (raK 0))] := hl
  unfold f_X11_ship at hf
  have h_77 : ∀ (x2_77 : Int64) (K_77 : kD) (ls : Array Slot) (H : Heap) (locs : List Loc), lv_has ls 6 [(2, .long x2_77)] → va_P (dC, dI) vwCl (ww_X11_ship cs ad raK raT xK2 xK3 xK4 xK5 xK6 xK7 xK8 xK9 xK10 xK11 xK12 xK13 xK14 xK18 K_77 T) H → va_D (va_A (ww_X11_ship cs ad raK raT xK2 xK3 xK4 xK5 xK6 xK7 xK8 xK9 xK10 xK11 xK12 xK13 xK14 xK18 zD (fun _ => 0)) s.heap.size) (ww_X11_ship cs ad raK raT xK2 xK3 xK4 xK5 xK6 xK7 xK8 xK9 xK10 xK11 xK12 xK13 xK14 xK18 K_77 T) → va_S (va_A (ww_X11_ship cs ad raK raT xK2 xK3 xK4 xK5 xK6 xK7 xK8 xK9 xK10 xK11 xK12 xK13 xK14 xK18 zD (fun _ => 0)) s.heap.size) s.heap H locs → g_X11_ship_77 T x2_77 K_77 = some r → W p l e (headSpec wsX11_ship rm_X11_ship).room s m args below meth c H locs 0 0 (MQ below (cQi dC dI cs (va_A (ww_X11_ship cs ad raK raT xK2 xK3 xK4 xK5 xK6 xK7 xK8 xK9 xK10 xK11 xK12 xK13 xK14 xK18 zD (fun _ => 0)) s.heap.size) r.1 (ww_X11_ship cs ad raK raT xK2 xK3 xK4 xK5 xK6 xK7 xK8 xK9 xK10 xK11 xK12 xK13 xK14 xK18 r.2 T)) args s 0 0 (va_A (ww_X11_ship cs ad raK raT xK2 xK3 xK4 xK5 xK6 xK7 xK8 xK9 xK10 xK11 xK12 xK13 xK14 xK18 zD (fun _ => 0)) s.heap.size)) (F0 m 77 ls []) := by
    intro x2_77 K_77 ls H locs hl hP hD hS hf
    unfold g_X11_ship_77 at hf
    refine lv_lload_n hx hb dX11_ship_77 rfl (lv_at hl 0 rfl) ?_
    refine lv_ldc2 (v := 99999999) hx hb hown k_constantLong_RX11_315_99999999 dX11_ship_78 ?_
    refine W.lcmp hx hb dX11_ship_81 ?_
    refine lv_if_le (tgt := 89) hx hb dX11_ship_82 (by decide) (fun hb1 => ?_) (fun hb1 => ?_)
    · have hf := (if_pos hb1).symm.trans hf
      refine lv_lload_n hx hb dX11_ship_89 rfl (lv_at hl 0 rfl) ?_
      refine lv_l2i (v := x2_77.toInt32) hx hb dX11_ship_90 rfl ?_
      have hf := Option.some.inj hf
      subst hf
      exact c_iret (v := x2_77.toInt32) hx hb hr hlocks hP hK hD hS dX11_ship_91
    · have hf := (if_neg hb1).symm.trans hf
      refine lv_iconst (v := -1) hx hb dX11_ship_85 (by decide) ?_
      refine lv_goto (tgt := 91) hx hb dX11_ship_86 (by decide) ?_
      have hf := Option.some.inj hf
      subst hf
      exact c_iret (v := (-1 : Int32)) hx hb hr hlocks hP hK hD hS dX11_ship_91
  have h_23 := lp_ind (z := (fun _ _ _ _ => none)) (b := (g_X11_ship_23 T)) (fun (rc_23 : Int32 → Int64 → Int32 → kD → Option (Int32 × kD)) => ∀ (x1_23 : Int32) (x2_23 : Int64) (x4_23 : Int32) (K_23 : kD) (ls : Array Slot) (H : Heap) (locs : List Loc), lv_has ls 6 [(0, .ref (raK 0)), (1, .int x1_23), (2, .long x2_23), (4, .int x4_23)] → va_P (dC, dI) vwCl (ww_X11_ship cs ad raK raT xK2 xK3 xK4 xK5 xK6 xK7 xK8 xK9 xK10 xK11 xK12 xK13 xK14 xK18 K_23 T) H → va_D (va_A (ww_X11_ship cs ad raK raT xK2 xK3 xK4 xK5 xK6 xK7 xK8 xK9 xK10 xK11 xK12 xK13 xK14 xK18 zD (fun _ => 0)) s.heap.size) (ww_X11_ship cs ad raK raT xK2 xK3 xK4 xK5 xK6 xK7 xK8 xK9 xK10 xK11 xK12 xK13 xK14 xK18 K_23 T) → va_S (va_A (ww_X11_ship cs ad raK raT xK2 xK3 xK4 xK5 xK6 xK7 xK8 xK9 xK10 xK11 xK12 xK13 xK14 xK18 zD (fun _ => 0)) s.heap.size) s.heap H locs → rc_23 x1_23 x2_23 x4_23 K_23 = some r → W p l e (headSpec wsX11_ship rm_X11_ship).room s m args below meth c H locs 0 0 (MQ below (cQi dC dI cs (va_A (ww_X11_ship cs ad raK raT xK2 xK3 xK4 xK5 xK6 xK7 xK8 xK9 xK10 xK11 xK12 xK13 xK14 xK18 zD (fun _ => 0)) s.heap.size) r.1 (ww_X11_ship cs ad raK raT xK2 xK3 xK4 xK5 xK6 xK7 xK8 xK9 xK10 xK11 xK12 xK13 xK14 xK18 r.2 T)) args s 0 0 (va_A (ww_X11_ship cs ad raK raT xK2 xK3 xK4 xK5 xK6 xK7 xK8 xK9 xK10 xK11 xK12 xK13 xK14 xK18 zD (fun _ => 0)) s.heap.size)) (F0 m 23 ls [])) (by
      intro x1_23 x2_23 x4_23 K_23 ls H locs hl hP hD hS hf
      cases hf) (by
      intro rc_23 ih_23 x1_23 x2_23 x4_23 K_23 ls H locs hl hP hD hS hf
      unfold g_X11_ship_23 at hf
      refine lv_iload hx hb dX11_ship_23 (lv_at hl 3 rfl) ?_
      refine lv_iload_n hx hb dX11_ship_25 rfl (lv_at hl 1 rfl) ?_
      refine lv_icmp_ge (tgt := 77) hx hb dX11_ship_26 (by decide) (fun hb12 => ?_) (fun hb12 => ?_)
      · have hf := (if_pos hb12).symm.trans hf
        exact h_77 x2_23 K_23 ls _ _ (lv_sub hl [2] rfl) hP hD hS hf
      · have hf := (if_neg hb12).symm.trans hf
        refine lv_aload_n hx hb dX11_ship_29 rfl (lv_at hl 0 rfl) ?_
        refine va_get (D := (dC, dI)) (ci := 11) (C := RX11) (T := TX11) (N := 19) hx hb hts hinX11 hown hK hP 0 rfl rfl 0 (by decide) (v := .ref raT) k_fieldLink_RX11_9__KeyLetters___tape____I_ (fun _ h9 => h9) rfl dX11_ship_30 ?_
        refine lv_iload hx hb dX11_ship_33 (lv_at hl 3 rfl) ?_
        obtain ⟨hc2, hf⟩ := ck_e hf
        refine va_iald hx hb hK hP 1 1 rfl rfl hc2 dX11_ship_35 ?_
        obtain ⟨v3, ev3, hf⟩ := bd1_e hf
        refine kt_i ev3 ?_
        refine lv_istore (nL := 6) (lv' := [(5, .int v3), (0, .ref (raK 0)), (1, .int x1_23), (2, .long x2_23), (4, .int x4_23)]) hx hb dX11_ship_36 hl (by decide) rfl (fun ls hl => ?_)
        refine lv_iload hx hb dX11_ship_38 (lv_at hl 0 rfl) ?_
        refine lv_iconst (v := 1) hx hb dX11_ship_40 (by decide) ?_
        refine lv_icmp_lt (tgt := 51) hx hb dX11_ship_41 (by decide) (fun hb11 => ?_) (fun hb11 => ?_)
        · have hf := (if_pos hb11).symm.trans hf
          refine lv_iconst (v := -1) hx hb dX11_ship_51 (by decide) ?_
          have hf := Option.some.inj hf
          subst hf
          exact c_iret (v := (-1 : Int32)) hx hb hr hlocks hP hK hD hS dX11_ship_52
        · have hf := (if_neg hb11).symm.trans hf
          refine lv_iload hx hb dX11_ship_44 (lv_at hl 0 rfl) ?_
          refine lv_bipush (v := 60) hx hb dX11_ship_46 (by decide) ?_
          refine lv_icmp_le (tgt := 53) hx hb dX11_ship_48 (by decide) (fun hb10 => ?_) (fun hb10 => ?_)
          · have hf := (if_pos hb10).symm.trans hf
            refine lv_lload_n hx hb dX11_ship_53 rfl (lv_at hl 3 rfl) ?_
            refine lv_iload hx hb dX11_ship_54 (lv_at hl 0 rfl) ?_
            refine lv_lload_n hx hb dX11_ship_56 rfl (lv_at hl 3 rfl) ?_
            refine lv_iload hx hb dX11_ship_57 (lv_at hl 0 rfl) ?_
            refine lv_i2l (v := v3.toInt64) hx hb dX11_ship_59 rfl ?_
            obtain ⟨hc4, hf⟩ := ck_e hf
            refine lv_lrem hx hb dX11_ship_60 hc4 ?_
            refine lv_l2i (v := ((kRemL x2_23 v3.toInt64).toInt32)) hx hb dX11_ship_61 rfl ?_
            refine lv_iload hx hb dX11_ship_62 (lv_at hl 0 rfl) ?_
            obtain ⟨v6, hq5, hf⟩ := bo_e hf
            refine ko_call (v := some (.int v6)) (va_runS (As := [.int ((kRemL x2_23 v3.toInt64).toInt32), .int v3]) (rest := [.int v3, .long x2_23]) ⟨hx, hb, hml, hown, hts⟩ (c_X11_commonDivisor l dC dI cs ad ((kRemL x2_23 v3.toInt64).toInt32) v3 v6 hq5) (va_cwS 2 hts gX11_ship_X11_commonDivisor rfl rfl rfl (by decide +kernel) ⟨Nat.le_of_ble_eq_true rfl, Nat.le_of_ble_eq_true rfl⟩) ⟨fun a U g mk q => ⟨q.1, (fun _ _ _ _ => cPr_bl) a U g mk q.2⟩, fun U hU hW => ⟨rfl, ⟨by rw [hU]; exact (hP.sub (ws' := ([] : va_W)) [] rfl), va_K.moved hW.alike hK, kN_warm hW hN⟩⟩⟩ rfl rfl hl.1 rfl (lv_room (Nat.le_of_ble_eq_true rfl)) dX11_ship_64 ⟨Nat.le_refl _, Nat.le_refl _⟩) ?_
            obtain ⟨hc7, hf⟩ := ck_e hf
            refine lv_idiv hx hb dX11_ship_67 hc7 ?_
            refine lv_i2l (v := ((v3 / v6).toInt64)) hx hb dX11_ship_68 rfl ?_
            refine lv_lmul hx hb dX11_ship_69 ?_
            obtain ⟨v8, ev8, hf⟩ := bd1_e hf
            refine kt_j ev8 ?_
            refine lv_lstore_n (nL := 6) (lv' := [(2, .long v8), (5, .int v3), (0, .ref (raK 0)), (1, .int x1_23), (4, .int x4_23)]) hx hb dX11_ship_70 rfl hl (by decide) rfl (fun ls hl => ?_)
            obtain ⟨v9, ev9, hf⟩ := bd1_e hf
            refine lv_iinc (k := 4) (x := x4_23) (v := v9) (nL := 6) (lv' := [(4, .int v9), (2, .long v8), (5, .int v3), (0, .ref (raK 0)), (1, .int x1_23)]) hx hb dX11_ship_71 hl rfl (kt_inc (w := 1) (by decide) ev9) (by decide) rfl (fun ls hl => ?_)
            refine lv_goto (tgt := 23) hx hb dX11_ship_74 (by decide) ?_
            exact ih_23 x1_23 v8 v9 K_23 ls _ _ (lv_sub hl [3, 4, 1, 0] rfl) hP hD hS hf
          · have hf := (if_neg hb10).symm.trans hf
            refine lv_iconst (v := -1) hx hb dX11_ship_51 (by decide) ?_
            have hf := Option.some.inj hf
            subst hf
            exact c_iret (v := (-1 : Int32)) hx hb hr hlocks hP hK hD hS dX11_ship_52) 2000
  refine lv_aload_n hx hb dX11_ship_0 rfl (lv_at hl 0 rfl) ?_
  obtain ⟨v14, Kv15, hq13, hf⟩ := bo2_e hf
  refine g_callw (isC := [0]) (isR := [1]) (wc := (ww_X11_takeTape cs ad raK raT xK2 xK3 xK4 xK5 xK6 xK7 xK8 xK9 xK10 xK11 xK12 xK13 xK14 xK18 K)) (wz := (ww_X11_takeTape cs ad raK raT xK2 xK3 xK4 xK5 xK6 xK7 xK8 xK9 xK10 xK11 xK12 xK13 xK14 xK18 zD)) (w1 := (ww_X11_takeTape cs ad raK raT xK2 xK3 xK4 xK5 xK6 xK7 xK8 xK9 xK10 xK11 xK12 xK13 xK14 xK18 Kv15)) (ws' := (ww_X11_ship cs ad raK raT xK2 xK3 xK4 xK5 xK6 xK7 xK8 xK9 xK10 xK11 xK12 xK13 xK14 xK18 Kv15 T)) (v := v14) (va_runV (As := []) (rest := []) ⟨hx, hb, hml, hown, hts⟩ (c_X11_takeTape l dC dI cs ad raK raT xK2 xK3 xK4 xK5 xK6 xK7 xK8 xK9 xK10 xK11 xK12 xK13 xK14 xK18 _ K (v14, Kv15) hq13) (cwV 0 hts gX11_ship_X11_takeTape rfl rfl rfl (by decide +kernel) ⟨Nat.le_of_ble_eq_true rfl, Nat.le_of_ble_eq_true rfl⟩) ⟨fun a U g mk q => ⟨q.1, (fun _ _ _ _ => cPw_bl) a U g mk q.2⟩, va_recv hK hP (ci := 11) (q0 := 0) rfl rfl, fun U hU hW => ⟨rfl, ⟨by rw [hU], by rw [hU]; exact (hP.sub (ws' := (ww_X11_takeTape cs ad raK raT xK2 xK3 xK4 xK5 xK6 xK7 xK8 xK9 xK10 xK11 xK12 xK13 xK14 xK18 K)) [0] rfl), va_K.moved hW.alike hK, (hD.sub (ws' := (ww_X11_takeTape cs ad raK raT xK2 xK3 xK4 xK5 xK6 xK7 xK8 xK9 xK10 xK11 xK12 xK13 xK14 xK18 K)) [0] (by decide) rfl).weaken (fun _ _ _ _ => trivial), kN_warm hW hN⟩⟩⟩ rfl rfl hl.1 rfl (lv_room (Nat.le_of_ble_eq_true rfl)) dX11_ship_1 ⟨Nat.le_refl _, Nat.le_refl _⟩) hP hD hS hA rfl rfl (wr := (([(raT, .inl (cs 1, 940, .inl T))]))) rfl rfl rfl (nw := 2) rfl (by decide +kernel) rfl (fun H locs hP hD hS => ?_)
  refine lv_istore_n (nL := 6) (lv' := [(1, .int v14), (0, .ref (raK 0))]) hx hb dX11_ship_4 rfl hl (by decide) rfl (fun ls hl => ?_)
  refine lv_iload_n hx hb dX11_ship_5 rfl (lv_at hl 0 rfl) ?_
  refine lv_iconst (v := 1) hx hb dX11_ship_6 (by decide) ?_
  refine lv_icmp_lt (tgt := 16) hx hb dX11_ship_7 (by decide) (fun hb17 => ?_) (fun hb17 => ?_)
  · have hf := (if_pos hb17).symm.trans hf
    refine lv_iconst (v := -1) hx hb dX11_ship_16 (by decide) ?_
    have hf := Option.some.inj hf
    subst hf
    exact c_iret (v := (-1 : Int32)) hx hb hr hlocks hP hK hD hS dX11_ship_17
  · have hf := (if_neg hb17).symm.trans hf
    refine lv_iload_n hx hb dX11_ship_10 rfl (lv_at hl 0 rfl) ?_
    refine lv_bipush (v := 6) hx hb dX11_ship_11 (by decide) ?_
    refine lv_icmp_le (tgt := 18) hx hb dX11_ship_13 (by decide) (fun hb16 => ?_) (fun hb16 => ?_)
    · have hf := (if_pos hb16).symm.trans hf
      refine lv_lconst (v := 1) hx hb dX11_ship_18 (by decide) ?_
      refine lv_lstore_n (nL := 6) (lv' := [(2, .long (1 : Int64)), (1, .int v14), (0, .ref (raK 0))]) hx hb dX11_ship_19 rfl hl (by decide) rfl (fun ls hl => ?_)
      refine lv_iconst (v := 0) hx hb dX11_ship_20 (by decide) ?_
      refine lv_istore (nL := 6) (lv' := [(4, .int (0 : Int32)), (2, .long (1 : Int64)), (1, .int v14), (0, .ref (raK 0))]) hx hb dX11_ship_21 hl (by decide) rfl (fun ls hl => ?_)
      exact h_23 v14 (1 : Int64) (0 : Int32) Kv15 ls _ _ (lv_sub hl [3, 2, 1, 0] rfl) hP hD hS hf
    · have hf := (if_neg hb16).symm.trans hf
      refine lv_iconst (v := -1) hx hb dX11_ship_16 (by decide) ?_
      have hf := Option.some.inj hf
      subst hf
      exact c_iret (v := (-1 : Int32)) hx hb hr hlocks hP hK hD hS dX11_ship_17

