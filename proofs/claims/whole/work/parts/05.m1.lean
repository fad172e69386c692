abbrev rm_X12_thrown : Room := { frames := 0, cells := 0, slots := 0, locals := 0 }
set_option maxHeartbeats 4000000 in
set_option maxRecDepth 100000 in
theorem c_X12_thrown (l : Launch) (dC : Nat → ClassId) (dI : Nat → Nat → Nat) (cB cI cJ cZ : ClassId) (ra : Nat → Nat) (M : kD)  (r : Int32) (hf : f_X12_thrown  M = r) : Met l yX12_thrown wsX12_thrown rm_X12_thrown (va_Pc [.ref (ra 0)] (mPr dC dI cB cI cJ cZ ra M)) (kQ (some (.int r))) 0 0 (kF) := by
  refine Met.ofW (cc := cX12_thrown) (maxL := 1) (ret := (some .int)) (by decide) rfl ?_
  intro p e s m args below meth c s₁ B hml hv
  obtain ⟨hav, hP, hK⟩ := hv
  have hx := B.exec
  have hb := B.bytes
  have hr := B.returns
  have hts := atoms_spec (ws := wsX12_thrown) B.pre
  have hown : s.vm.findClass RX12 = some m.cls := findClass_of_methodNamed B.named
  have hlocks := B.notSynchronized
  have hin : ∀ w ∈ wsX120, w ∈ wsX12_thrown := fun w h => List.mem_cons_of_mem _ (List.mem_append_right _ h)
  have k_fieldLink_RX12_1__KeyLettersModel___thrown___I_ := hts (.fieldLink RX12 1 "KeyLettersModel" "thrown" "I") (by decide +kernel)
  have hl := lv_entry ([.ref (ra 0)]) (n := 1) (Nat.le_of_ble_eq_true rfl)
  rw [show entryFrame m args 1 = entryFrame m ([.ref (ra 0)] : List Value).toArray 1 from by rw [hav], lg_entry_eq]
  generalize (lg_sl ([.ref (ra 0)]) ++ List.replicate (1 - (lg_sl ([.ref (ra 0)])).length) Slot.unset).toArray = ls at hl ⊢
  have hl : lv_has ls 1 [(0, .ref (ra 0))] := hl
  unfold f_X12_thrown at hf
  refine lv_aload_n hx hb dX12_thrown_0 rfl (lv_at hl 0 rfl) ?_
  refine km_get hx hb hts hin hown hK hP 0 (by decide) (v := .int (M.1 0 0)) k_fieldLink_RX12_1__KeyLettersModel___thrown___I_ rfl dX12_thrown_1 ?_
  subst hf
  exact W.iret (v := (M.1 0 0)) hx hb hr (fun t ht hW => ⟨rfl, ht⟩) (fun _ h => nomatch h) dX12_thrown_4

abbrev rm_X12_throwsIf : Room := { frames := 0, cells := 0, slots := 0, locals := 0 }
set_option maxHeartbeats 4000000 in
set_option maxRecDepth 100000 in
theorem c_X12_throwsIf (l : Launch) (dC : Nat → ClassId) (dI : Nat → Nat → Nat) (cB cI cJ cZ : ClassId) (ra : Nat → Nat) (sz : Nat) (M : kD) (a0 : Int32) (r : (Int32 × kD)) (hf : f_X12_throwsIf a0 M = some r) : Met l yX12_throwsIf wsX12_throwsIf rm_X12_throwsIf (va_Pc [.ref (ra 0), .int a0] (mPw dC dI cB cI cJ cZ ra sz M)) (mQi dC dI cB cI cJ cZ ra sz r) 0 0 (mA ra sz) := by
  refine Met.ofW (cc := cX12_throwsIf) (maxL := 2) (ret := (some .boolean)) (by decide) rfl ?_
  intro p e s m args below meth c s₁ B hml hv
  obtain ⟨hav, hsz, hP, hK, hD0⟩ := hv
  have hx := B.exec
  have hb := B.bytes
  have hr := B.returns
  have hts := atoms_spec (ws := wsX12_throwsIf) B.pre
  have hown : s.vm.findClass RX12 = some m.cls := findClass_of_methodNamed B.named
  have hlocks := B.notSynchronized
  subst hsz
  have hA : ∀ q, s.heap.size ≤ q → mA ra s.heap.size q := fun q h => Or.inr h
  have hD : va_D (mA ra s.heap.size) (mw cB cI cJ cZ ra M) := hD0.weaken (fun k q h _ => mA_in h)
  have hS : va_S (mA ra s.heap.size) s.heap s.heap [] := va_S.rf
  have hin : ∀ w ∈ wsX120, w ∈ wsX12_throwsIf := fun w h => List.mem_cons_of_mem _ (List.mem_append_right _ h)
  have k_fieldLink_RX12_1__KeyLettersModel___thrown___I_ := hts (.fieldLink RX12 1 "KeyLettersModel" "thrown" "I") (by decide +kernel)
  have hl := lv_entry ([.ref (ra 0), .int a0]) (n := 2) (Nat.le_of_ble_eq_true rfl)
  rw [show entryFrame m args 2 = entryFrame m ([.ref (ra 0), .int a0] : List Value).toArray 2 from by rw [hav], lg_entry_eq]
  generalize (lg_sl ([.ref (ra 0), .int a0]) ++ List.replicate (2 - (lg_sl ([.ref (ra 0), .int a0])).length) Slot.unset).toArray = ls at hl ⊢
  have hl : lv_has ls 2 [(0, .ref (ra 0)), (1, .int a0)] := hl
  unfold f_X12_throwsIf at hf
  refine lv_aload_n hx hb dX12_throwsIf_0 rfl (lv_at hl 0 rfl) ?_
  refine lv_iload_n hx hb dX12_throwsIf_1 rfl (lv_at hl 1 rfl) ?_
  refine lv_if_eq (tgt := 9) hx hb dX12_throwsIf_2 (by decide) (fun hb5 => ?_) (fun hb5 => ?_)
  · have hf := (if_pos hb5).symm.trans hf
    refine lv_iconst (v := 0) hx hb dX12_throwsIf_9 (by decide) ?_
    obtain ⟨M1, eM1, hf⟩ := bd1_e hf
    refine km_put hx hb hts hin hown hK hP hD hS 0 (by decide) k_fieldLink_RX12_1__KeyLettersModel___thrown___I_ rfl (ty := .int) (v := .int (0 : Int32)) (by decide +kernel) rfl rfl (M1 := M1) (by rw [eM1]; exact mo_0 cB cI cJ cZ ra M (0 : Int32)) dX12_throwsIf_10 (fun H locs hP hD hS => ?_)
    refine lv_iload_n hx hb dX12_throwsIf_13 rfl (lv_at hl 1 rfl) ?_
    obtain ⟨hz2, hf⟩ := ck_e hf
    have hf := Option.some.inj hf
    subst hf
    exact m_zret hx hb hr (kt_z (Decidable.not_not.mp hz2)) hlocks hP hK hD hS dX12_throwsIf_14
  · have hf := (if_neg hb5).symm.trans hf
    refine lv_iconst (v := 1) hx hb dX12_throwsIf_5 (by decide) ?_
    refine lv_goto (tgt := 10) hx hb dX12_throwsIf_6 (by decide) ?_
    obtain ⟨M3, eM3, hf⟩ := bd1_e hf
    refine km_put hx hb hts hin hown hK hP hD hS 0 (by decide) k_fieldLink_RX12_1__KeyLettersModel___thrown___I_ rfl (ty := .int) (v := .int (1 : Int32)) (by decide +kernel) rfl rfl (M1 := M3) (by rw [eM3]; exact mo_0 cB cI cJ cZ ra M (1 : Int32)) dX12_throwsIf_10 (fun H locs hP hD hS => ?_)
    refine lv_iload_n hx hb dX12_throwsIf_13 rfl (lv_at hl 1 rfl) ?_
    obtain ⟨hz4, hf⟩ := ck_e hf
    have hf := Option.some.inj hf
    subst hf
    exact m_zret hx hb hr (kt_z (Decidable.not_not.mp hz4)) hlocks hP hK hD hS dX12_throwsIf_14

abbrev rm_X12_four : Room := { frames := 0, cells := 0, slots := 0, locals := 0 }
set_option maxHeartbeats 4000000 in
set_option maxRecDepth 100000 in
theorem c_X12_four (l : Launch) (dC : Nat → ClassId) (dI : Nat → Nat → Nat) (cB cI cJ cZ : ClassId) (ra : Nat → Nat) (sz : Nat) (M : kD) (a0 : Int32) (r : kD) (hf : f_X12_four a0 M = some r) : Met l yX12_four wsX12_four rm_X12_four (va_Pc [.ref (ra 0), .int a0] (mPw dC dI cB cI cJ cZ ra sz M)) (mQv dC dI cB cI cJ cZ ra sz r) 0 0 (mA ra sz) := by
  refine Met.ofW (cc := cX12_four) (maxL := 3) (ret := none) (by decide) rfl ?_
  intro p e s m args below meth c s₁ B hml hv
  obtain ⟨hav, hsz, hP, hK, hD0⟩ := hv
  have hx := B.exec
  have hb := B.bytes
  have hr := B.returns
  have hts := atoms_spec (ws := wsX12_four) B.pre
  have hown : s.vm.findClass RX12 = some m.cls := findClass_of_methodNamed B.named
  have hlocks := B.notSynchronized
  subst hsz
  have hA : ∀ q, s.heap.size ≤ q → mA ra s.heap.size q := fun q h => Or.inr h
  have hD : va_D (mA ra s.heap.size) (mw cB cI cJ cZ ra M) := hD0.weaken (fun k q h _ => mA_in h)
  have hS : va_S (mA ra s.heap.size) s.heap s.heap [] := va_S.rf
  have hin : ∀ w ∈ wsX120, w ∈ wsX12_four := fun w h => List.mem_cons_of_mem _ (List.mem_append_right _ h)
  have k_fieldLink_RX12_14__KeyLettersModel___tape____B_ := hts (.fieldLink RX12 14 "KeyLettersModel" "tape" "[B") (by decide +kernel)
  have k_fieldLink_RX12_7__KeyLettersModel___length___I_ := hts (.fieldLink RX12 7 "KeyLettersModel" "length" "I") (by decide +kernel)
  have hl := lv_entry ([.ref (ra 0), .int a0]) (n := 3) (Nat.le_of_ble_eq_true rfl)
  rw [show entryFrame m args 3 = entryFrame m ([.ref (ra 0), .int a0] : List Value).toArray 3 from by rw [hav], lg_entry_eq]
  generalize (lg_sl ([.ref (ra 0), .int a0]) ++ List.replicate (3 - (lg_sl ([.ref (ra 0), .int a0])).length) Slot.unset).toArray = ls at hl ⊢
  have hl : lv_has ls 3 [(0, .ref (ra 0)), (1, .int a0)] := hl
  unfold f_X12_four at hf
  have h_3 := lp_ind (z := (fun _ _ _ => none)) (b := (g_X12_four_3)) (fun (rc_3 : Int32 → Int32 → kD → Option kD) => ∀ (x1_3 : Int32) (x2_3 : Int32) (M_3 : kD) (ls : Array Slot) (H : Heap) (locs : List Loc), lv_has ls 3 [(0, .ref (ra 0)), (1, .int x1_3), (2, .int x2_3)] → va_P (dC, dI) vwCl (mw cB cI cJ cZ ra M_3) H → va_D (mA ra s.heap.size) (mw cB cI cJ cZ ra M_3) → va_S (mA ra s.heap.size) s.heap H locs → rc_3 x1_3 x2_3 M_3 = some r → W p l e (headSpec wsX12_four rm_X12_four).room s m args below meth c H locs 0 0 (MQ below (mQv dC dI cB cI cJ cZ ra s.heap.size r) args s 0 0 (mA ra s.heap.size)) (F0 m 3 ls [])) (by
      intro x1_3 x2_3 M_3 ls H locs hl hP hD hS hf
      cases hf) (by
      intro rc_3 ih_3 x1_3 x2_3 M_3 ls H locs hl hP hD hS hf
      unfold g_X12_four_3 at hf
      refine lv_iload_n hx hb dX12_four_3 rfl (lv_at hl 2 rfl) ?_
      refine lv_if_lt (tgt := 36) hx hb dX12_four_4 (by decide) (fun hb5 => ?_) (fun hb5 => ?_)
      · have hf := (if_pos hb5).symm.trans hf
        have hf := Option.some.inj hf
        subst hf
        exact m_vret hx hb hr hlocks hP hK hD hS dX12_four_36
      · have hf := (if_neg hb5).symm.trans hf
        refine lv_aload_n hx hb dX12_four_7 rfl (lv_at hl 0 rfl) ?_
        refine km_get hx hb hts hin hown hK hP 1 (by decide) (v := .ref (ra 1)) k_fieldLink_RX12_14__KeyLettersModel___tape____B_ rfl dX12_four_8 ?_
        refine lv_aload_n hx hb dX12_four_11 rfl (lv_at hl 0 rfl) ?_
        refine km_get hx hb hts hin hown hK hP 2 (by decide) (v := .int (M_3.1 0 2)) k_fieldLink_RX12_7__KeyLettersModel___length___I_ rfl dX12_four_12 ?_
        refine lv_iload_n hx hb dX12_four_15 rfl (lv_at hl 1 rfl) ?_
        refine lv_iload_n hx hb dX12_four_16 rfl (lv_at hl 2 rfl) ?_
        refine lv_ishr hx hb dX12_four_17 ?_
        refine lv_i2b (v := (kI2b (x1_3 >>> (x2_3 &&& 31)))) hx hb dX12_four_18 rfl ?_
        obtain ⟨hc1, hf⟩ := ck_e hf
        obtain ⟨M2, eM2, hf⟩ := bd1_e hf
        refine va_bast hx hb hK hP hD hS 1 0 rfl rfl hc1 dX12_four_19 (fun H locs hP hD hS => ?_)
        have hP : va_P (dC, dI) vwCl (mw cB cI cJ cZ ra M2) H := by rw [eM2, ← ma_1 cB cI cJ cZ ra M_3 (M_3.1 0 2).toNatClampNeg (vp_nar .byte (kI2b (x1_3 >>> (x2_3 &&& 31))))]; exact hP
        have hD : va_D (mA ra s.heap.size) (mw cB cI cJ cZ ra M2) := by rw [eM2, ← ma_1 cB cI cJ cZ ra M_3 (M_3.1 0 2).toNatClampNeg (vp_nar .byte (kI2b (x1_3 >>> (x2_3 &&& 31))))]; exact hD
        refine lv_aload_n hx hb dX12_four_20 rfl (lv_at hl 0 rfl) ?_
        refine lv_dup hx hb dX12_four_21 rfl ?_
        refine km_get hx hb hts hin hown hK hP 2 (by decide) (v := .int (M2.1 0 2)) k_fieldLink_RX12_7__KeyLettersModel___length___I_ rfl dX12_four_22 ?_
        refine lv_iconst (v := 1) hx hb dX12_four_25 (by decide) ?_
        refine lv_iadd hx hb dX12_four_26 ?_
        obtain ⟨M3, eM3, hf⟩ := bd1_e hf
        refine km_put hx hb hts hin hown hK hP hD hS 2 (by decide) k_fieldLink_RX12_7__KeyLettersModel___length___I_ rfl (ty := .int) (v := .int ((M2.1 0 2) + (1 : Int32))) (by decide +kernel) rfl rfl (M1 := M3) (by rw [eM3]; exact mo_2 cB cI cJ cZ ra M2 ((M2.1 0 2) + (1 : Int32))) dX12_four_27 (fun H locs hP hD hS => ?_)
        obtain ⟨v4, ev4, hf⟩ := bd1_e hf
        refine lv_iinc (k := 2) (x := x2_3) (v := v4) (nL := 3) (lv' := [(2, .int v4), (0, .ref (ra 0)), (1, .int x1_3)]) hx hb dX12_four_30 hl rfl (kt_inc (w := (-8)) (by decide) ev4) (by decide) rfl (fun ls hl => ?_)
        refine lv_goto (tgt := 3) hx hb dX12_four_33 (by decide) ?_
        exact ih_3 x1_3 v4 M3 ls _ _ (lv_sub hl [1, 2, 0] rfl) hP hD hS hf) 2000
  refine lv_bipush (v := 24) hx hb dX12_four_0 (by decide) ?_
  refine lv_istore_n (nL := 3) (lv' := [(2, .int (24 : Int32)), (0, .ref (ra 0)), (1, .int a0)]) hx hb dX12_four_2 rfl hl (by decide) rfl (fun ls hl => ?_)
  exact h_3 a0 (24 : Int32) M ls _ _ (lv_sub hl [1, 2, 0] rfl) hP hD hS hf

abbrev rm_X12_feed : Room := { frames := 1, cells := 0, slots := 0, locals := 22 }
set_option maxHeartbeats 4000000 in
set_option maxRecDepth 100000 in
theorem c_X12_feed (l : Launch) (dC : Nat → ClassId) (dI : Nat → Nat → Nat) (cB cI cJ cZ : ClassId) (ra : Nat → Nat) (sz : Nat) (M : kD) (a0 : Int32) (a1 : Int32) (a2 : Int32) (a3 : Int32) (a4 : Int32) (r : (Int32 × kD)) (hf : f_X12_feed a0 a1 a2 a3 a4 M = some r) : Met l yX12_feed wsX12_feed rm_X12_feed (va_Pc [.ref (ra 0), .int a0, .int a1, .int a2, .int a3, .int a4] (mPw dC dI cB cI cJ cZ ra sz M)) (mQi dC dI cB cI cJ cZ ra sz r) 0 0 (mA ra sz) := by
  refine Met.ofW (cc := cX12_feed) (maxL := 6) (ret := (some .int)) (by decide) rfl ?_
  intro p e s m args below meth c s₁ B hml hv
  obtain ⟨hav, hsz, hP, hK, hD0⟩ := hv
  have hx := B.exec
  have hb := B.bytes
  have hr := B.returns
  have hts := atoms_spec (ws := wsX12_feed) B.pre
  have hown : s.vm.findClass RX12 = some m.cls := findClass_of_methodNamed B.named
  have hlocks := B.notSynchronized
  subst hsz
  have hA : ∀ q, s.heap.size ≤ q → mA ra s.heap.size q := fun q h => Or.inr h
  have hD : va_D (mA ra s.heap.size) (mw cB cI cJ cZ ra M) := hD0.weaken (fun k q h _ => mA_in h)
  have hS : va_S (mA ra s.heap.size) s.heap s.heap [] := va_S.rf
  have hin : ∀ w ∈ wsX120, w ∈ wsX12_feed := fun w h => List.mem_cons_of_mem _ (List.mem_append_right _ h)
  have k_fieldLink_RX12_1__KeyLettersModel___thrown___I_ := hts (.fieldLink RX12 1 "KeyLettersModel" "thrown" "I") (by decide +kernel)
  have k_fieldLink_RX12_7__KeyLettersModel___length___I_ := hts (.fieldLink RX12 7 "KeyLettersModel" "length" "I") (by decide +kernel)
  have hl := lv_entry ([.ref (ra 0), .int a0, .int a1, .int a2, .int a3, .int a4]) (n := 6) (Nat.le_of_ble_eq_true rfl)
  rw [show entryFrame m args 6 = entryFrame m ([.ref (ra 0), .int a0, .int a1, .int a2, .int a3, .int a4] : List Value).toArray 6 from by rw [hav], lg_entry_eq]
  generalize (lg_sl ([.ref (ra 0), .int a0, .int a1, .int a2, .int a3, .int a4]) ++ List.replicate (6 - (lg_sl ([.ref (ra 0), .int a0, .int a1, .int a2, .int a3, .int a4])).length) Slot.unset).toArray = ls at hl ⊢
  have hl : lv_has ls 6 [(0, .ref (ra 0)), (1, .int a0), (2, .int a1), (3, .int a2), (4, .int a3), (5, .int a4)] := hl
  unfold f_X12_feed at hf
  refine lv_aload_n hx hb dX12_feed_0 rfl (lv_at hl 0 rfl) ?_
  refine lv_iconst (v := 0) hx hb dX12_feed_1 (by decide) ?_
  obtain ⟨M1, eM1, hf⟩ := bd1_e hf
  refine km_put hx hb hts hin hown hK hP hD hS 0 (by decide) k_fieldLink_RX12_1__KeyLettersModel___thrown___I_ rfl (ty := .int) (v := .int (0 : Int32)) (by decide +kernel) rfl rfl (M1 := M1) (by rw [eM1]; exact mo_0 cB cI cJ cZ ra M (0 : Int32)) dX12_feed_2 (fun H locs hP hD hS => ?_)
  refine lv_aload_n hx hb dX12_feed_5 rfl (lv_at hl 0 rfl) ?_
  refine km_get hx hb hts hin hown hK hP 2 (by decide) (v := .int (M1.1 0 2)) k_fieldLink_RX12_7__KeyLettersModel___length___I_ rfl dX12_feed_6 ?_
  refine lv_bipush (v := 20) hx hb dX12_feed_9 (by decide) ?_
  refine lv_iadd hx hb dX12_feed_11 ?_
  refine lv_sipush (v := 940) hx hb dX12_feed_12 (by decide) ?_
  refine lv_icmp_le (tgt := 20) hx hb dX12_feed_15 (by decide) (fun hb12 => ?_) (fun hb12 => ?_)
  · have hf := (if_pos hb12).symm.trans hf
    refine lv_aload_n hx hb dX12_feed_20 rfl (lv_at hl 0 rfl) ?_
    refine lv_iload_n hx hb dX12_feed_21 rfl (lv_at hl 1 rfl) ?_
    obtain ⟨M2, hq3, hf⟩ := bo_e hf
    refine km_callwv (M1 := M2) (km_run (As := [.int a0]) (rest := []) ⟨hx, hb, hml, hown, hts⟩ (c_X12_four l dC dI cB cI cJ cZ ra _ M1 a0 M2 hq3) (cwV 1 hts gX12_feed_X12_four rfl rfl rfl (by decide +kernel) ⟨Nat.le_of_ble_eq_true rfl, Nat.le_of_ble_eq_true rfl⟩) hK hP (fun _ _ _ _ => mPw_bl) (fun U hU hW => ⟨by rw [hU], by rw [hU]; exact hP, va_K.moved hW.alike hK, hD.weaken (fun _ _ _ _ => trivial)⟩) rfl rfl hl.1 rfl (lv_room (Nat.le_of_ble_eq_true rfl)) dX12_feed_22 ⟨Nat.le_refl _, Nat.le_refl _⟩) hD hS hA (fun H locs hP hD hS => ?_)
    refine lv_aload_n hx hb dX12_feed_25 rfl (lv_at hl 0 rfl) ?_
    refine lv_iload_n hx hb dX12_feed_26 rfl (lv_at hl 2 rfl) ?_
    obtain ⟨M4, hq5, hf⟩ := bo_e hf
    refine km_callwv (M1 := M4) (km_run (As := [.int a1]) (rest := []) ⟨hx, hb, hml, hown, hts⟩ (c_X12_four l dC dI cB cI cJ cZ ra _ M2 a1 M4 hq5) (cwV 1 hts gX12_feed_X12_four rfl rfl rfl (by decide +kernel) ⟨Nat.le_of_ble_eq_true rfl, Nat.le_of_ble_eq_true rfl⟩) hK hP (fun _ _ _ _ => mPw_bl) (fun U hU hW => ⟨by rw [hU], by rw [hU]; exact hP, va_K.moved hW.alike hK, hD.weaken (fun _ _ _ _ => trivial)⟩) rfl rfl hl.1 rfl (lv_room (Nat.le_of_ble_eq_true rfl)) dX12_feed_27 ⟨Nat.le_refl _, Nat.le_refl _⟩) hD hS hA (fun H locs hP hD hS => ?_)
    refine lv_aload_n hx hb dX12_feed_30 rfl (lv_at hl 0 rfl) ?_
    refine lv_iload_n hx hb dX12_feed_31 rfl (lv_at hl 3 rfl) ?_
    obtain ⟨M6, hq7, hf⟩ := bo_e hf
    refine km_callwv (M1 := M6) (km_run (As := [.int a2]) (rest := []) ⟨hx, hb, hml, hown, hts⟩ (c_X12_four l dC dI cB cI cJ cZ ra _ M4 a2 M6 hq7) (cwV 1 hts gX12_feed_X12_four rfl rfl rfl (by decide +kernel) ⟨Nat.le_of_ble_eq_true rfl, Nat.le_of_ble_eq_true rfl⟩) hK hP (fun _ _ _ _ => mPw_bl) (fun U hU hW => ⟨by rw [hU], by rw [hU]; exact hP, va_K.moved hW.alike hK, hD.weaken (fun _ _ _ _ => trivial)⟩) rfl rfl hl.1 rfl (lv_room (Nat.le_of_ble_eq_true rfl)) dX12_feed_32 ⟨Nat.le_refl _, Nat.le_refl _⟩) hD hS hA (fun H locs hP hD hS => ?_)
    refine lv_aload_n hx hb dX12_feed_35 rfl (lv_at hl 0 rfl) ?_
    refine lv_iload hx hb dX12_feed_36 (lv_at hl 4 rfl) ?_
    obtain ⟨M8, hq9, hf⟩ := bo_e hf
    refine km_callwv (M1 := M8) (km_run (As := [.int a3]) (rest := []) ⟨hx, hb, hml, hown, hts⟩ (c_X12_four l dC dI cB cI cJ cZ ra _ M6 a3 M8 hq9) (cwV 1 hts gX12_feed_X12_four rfl rfl rfl (by decide +kernel) ⟨Nat.le_of_ble_eq_true rfl, Nat.le_of_ble_eq_true rfl⟩) hK hP (fun _ _ _ _ => mPw_bl) (fun U hU hW => ⟨by rw [hU], by rw [hU]; exact hP, va_K.moved hW.alike hK, hD.weaken (fun _ _ _ _ => trivial)⟩) rfl rfl hl.1 rfl (lv_room (Nat.le_of_ble_eq_true rfl)) dX12_feed_38 ⟨Nat.le_refl _, Nat.le_refl _⟩) hD hS hA (fun H locs hP hD hS => ?_)
    refine lv_aload_n hx hb dX12_feed_41 rfl (lv_at hl 0 rfl) ?_
    refine lv_iload hx hb dX12_feed_42 (lv_at hl 5 rfl) ?_
    obtain ⟨M10, hq11, hf⟩ := bo_e hf
    refine km_callwv (M1 := M10) (km_run (As := [.int a4]) (rest := []) ⟨hx, hb, hml, hown, hts⟩ (c_X12_four l dC dI cB cI cJ cZ ra _ M8 a4 M10 hq11) (cwV 1 hts gX12_feed_X12_four rfl rfl rfl (by decide +kernel) ⟨Nat.le_of_ble_eq_true rfl, Nat.le_of_ble_eq_true rfl⟩) hK hP (fun _ _ _ _ => mPw_bl) (fun U hU hW => ⟨by rw [hU], by rw [hU]; exact hP, va_K.moved hW.alike hK, hD.weaken (fun _ _ _ _ => trivial)⟩) rfl rfl hl.1 rfl (lv_room (Nat.le_of_ble_eq_true rfl)) dX12_feed_44 ⟨Nat.le_refl _, Nat.le_refl _⟩) hD hS hA (fun H locs hP hD hS => ?_)
    refine lv_aload_n hx hb dX12_feed_47 rfl (lv_at hl 0 rfl) ?_
    refine km_get hx hb hts hin hown hK hP 2 (by decide) (v := .int (M10.1 0 2)) k_fieldLink_RX12_7__KeyLettersModel___length___I_ rfl dX12_feed_48 ?_
    have hf := Option.some.inj hf
    subst hf
    exact m_iret hx hb hr hlocks hP hK hD hS dX12_feed_51
  · have hf := (if_neg hb12).symm.trans hf
    refine lv_iconst (v := -1) hx hb dX12_feed_18 (by decide) ?_
    have hf := Option.some.inj hf
    subst hf
    exact m_iret hx hb hr hlocks hP hK hD hS dX12_feed_19

abbrev rm_X12_end : Room := { frames := 0, cells := 0, slots := 0, locals := 0 }
set_option maxHeartbeats 4000000 in
set_option maxRecDepth 100000 in
theorem c_X12_end (l : Launch) (dC : Nat → ClassId) (dI : Nat → Nat → Nat) (cB cI cJ cZ : ClassId) (ra : Nat → Nat) (sz : Nat) (M : kD) (a0 : Int32) (r : (Int32 × kD)) (hf : f_X12_end a0 M = some r) : Met l yX12_end wsX12_end rm_X12_end (va_Pc [.ref (ra 0), .int a0] (mPw dC dI cB cI cJ cZ ra sz M)) (mQi dC dI cB cI cJ cZ ra sz r) 0 0 (mA ra sz) := by
  refine Met.ofW (cc := cX12_end) (maxL := 2) (ret := (some .boolean)) (by decide) rfl ?_
  intro p e s m args below meth c s₁ B hml hv
  obtain ⟨hav, hsz, hP, hK, hD0⟩ := hv
  have hx := B.exec
  have hb := B.bytes
  have hr := B.returns
  have hts := atoms_spec (ws := wsX12_end) B.pre
  have hown : s.vm.findClass RX12 = some m.cls := findClass_of_methodNamed B.named
  have hlocks := B.notSynchronized
  subst hsz
  have hA : ∀ q, s.heap.size ≤ q → mA ra s.heap.size q := fun q h => Or.inr h
  have hD : va_D (mA ra s.heap.size) (mw cB cI cJ cZ ra M) := hD0.weaken (fun k q h _ => mA_in h)
  have hS : va_S (mA ra s.heap.size) s.heap s.heap [] := va_S.rf
  have hin : ∀ w ∈ wsX120, w ∈ wsX12_end := fun w h => List.mem_cons_of_mem _ (List.mem_append_right _ h)
  have k_fieldLink_RX12_1__KeyLettersModel___thrown___I_ := hts (.fieldLink RX12 1 "KeyLettersModel" "thrown" "I") (by decide +kernel)
  have k_fieldLink_RX12_7__KeyLettersModel___length___I_ := hts (.fieldLink RX12 7 "KeyLettersModel" "length" "I") (by decide +kernel)
  have hl := lv_entry ([.ref (ra 0), .int a0]) (n := 2) (Nat.le_of_ble_eq_true rfl)
  rw [show entryFrame m args 2 = entryFrame m ([.ref (ra 0), .int a0] : List Value).toArray 2 from by rw [hav], lg_entry_eq]
  generalize (lg_sl ([.ref (ra 0), .int a0]) ++ List.replicate (2 - (lg_sl ([.ref (ra 0), .int a0])).length) Slot.unset).toArray = ls at hl ⊢
  have hl : lv_has ls 2 [(0, .ref (ra 0)), (1, .int a0)] := hl
  unfold f_X12_end at hf
  refine lv_aload_n hx hb dX12_end_0 rfl (lv_at hl 0 rfl) ?_
  refine lv_iconst (v := 0) hx hb dX12_end_1 (by decide) ?_
  obtain ⟨M1, eM1, hf⟩ := bd1_e hf
  refine km_put hx hb hts hin hown hK hP hD hS 0 (by decide) k_fieldLink_RX12_1__KeyLettersModel___thrown___I_ rfl (ty := .int) (v := .int (0 : Int32)) (by decide +kernel) rfl rfl (M1 := M1) (by rw [eM1]; exact mo_0 cB cI cJ cZ ra M (0 : Int32)) dX12_end_2 (fun H locs hP hD hS => ?_)
  refine lv_iload_n hx hb dX12_end_5 rfl (lv_at hl 1 rfl) ?_
  refine lv_if_lt (tgt := 17) hx hb dX12_end_6 (by decide) (fun hb4 => ?_) (fun hb4 => ?_)
  · have hf := (if_pos hb4).symm.trans hf
    refine lv_iconst (v := 0) hx hb dX12_end_17 (by decide) ?_
    have hf := Option.some.inj hf
    subst hf
    exact m_zret hx hb hr rfl hlocks hP hK hD hS dX12_end_18
  · have hf := (if_neg hb4).symm.trans hf
    refine lv_iload_n hx hb dX12_end_9 rfl (lv_at hl 1 rfl) ?_
    refine lv_aload_n hx hb dX12_end_10 rfl (lv_at hl 0 rfl) ?_
    refine km_get hx hb hts hin hown hK hP 2 (by decide) (v := .int (M1.1 0 2)) k_fieldLink_RX12_7__KeyLettersModel___length___I_ rfl dX12_end_11 ?_
    refine lv_icmp_le (tgt := 19) hx hb dX12_end_14 (by decide) (fun hb3 => ?_) (fun hb3 => ?_)
    · have hf := (if_pos hb3).symm.trans hf
      refine lv_aload_n hx hb dX12_end_19 rfl (lv_at hl 0 rfl) ?_
      refine lv_iload_n hx hb dX12_end_20 rfl (lv_at hl 1 rfl) ?_
      obtain ⟨M2, eM2, hf⟩ := bd1_e hf
      refine km_put hx hb hts hin hown hK hP hD hS 2 (by decide) k_fieldLink_RX12_7__KeyLettersModel___length___I_ rfl (ty := .int) (v := .int a0) (by decide +kernel) rfl rfl (M1 := M2) (by rw [eM2]; exact mo_2 cB cI cJ cZ ra M1 a0) dX12_end_21 (fun H locs hP hD hS => ?_)
      refine lv_iconst (v := 1) hx hb dX12_end_24 (by decide) ?_
      have hf := Option.some.inj hf
      subst hf
      exact m_zret hx hb hr rfl hlocks hP hK hD hS dX12_end_25
    · have hf := (if_neg hb3).symm.trans hf
      refine lv_iconst (v := 0) hx hb dX12_end_17 (by decide) ?_
      have hf := Option.some.inj hf
      subst hf
      exact m_zret hx hb hr rfl hlocks hP hK hD hS dX12_end_18

abbrev rm_X12_taken : Room := { frames := 0, cells := 0, slots := 0, locals := 0 }
set_option maxHeartbeats 4000000 in
set_option maxRecDepth 100000 in
theorem c_X12_taken (l : Launch) (dC : Nat → ClassId) (dI : Nat → Nat → Nat) (cB cI cJ cZ : ClassId) (ra : Nat → Nat) (sz : Nat) (M : kD) (a0 : Int32) (r : kD) (hf : f_X12_taken a0 M = some r) : Met l yX12_taken wsX12_taken rm_X12_taken (va_Pc [.ref (ra 0), .int a0] (mPw dC dI cB cI cJ cZ ra sz M)) (mQv dC dI cB cI cJ cZ ra sz r) 0 0 (mA ra sz) := by
  refine Met.ofW (cc := cX12_taken) (maxL := 2) (ret := none) (by decide) rfl ?_
  intro p e s m args below meth c s₁ B hml hv
  obtain ⟨hav, hsz, hP, hK, hD0⟩ := hv
  have hx := B.exec
  have hb := B.bytes
  have hr := B.returns
  have hts := atoms_spec (ws := wsX12_taken) B.pre
  have hown : s.vm.findClass RX12 = some m.cls := findClass_of_methodNamed B.named
  have hlocks := B.notSynchronized
  subst hsz
  have hA : ∀ q, s.heap.size ≤ q → mA ra s.heap.size q := fun q h => Or.inr h
  have hD : va_D (mA ra s.heap.size) (mw cB cI cJ cZ ra M) := hD0.weaken (fun k q h _ => mA_in h)
  have hS : va_S (mA ra s.heap.size) s.heap s.heap [] := va_S.rf
  have hin : ∀ w ∈ wsX120, w ∈ wsX12_taken := fun w h => List.mem_cons_of_mem _ (List.mem_append_right _ h)
  have k_fieldLink_RX12_18__KeyLettersModel___size___I_ := hts (.fieldLink RX12 18 "KeyLettersModel" "size" "I") (by decide +kernel)
  have k_fieldLink_RX12_21__KeyLettersModel___p___I_ := hts (.fieldLink RX12 21 "KeyLettersModel" "p" "I") (by decide +kernel)
  have k_fieldLink_RX12_24__KeyLettersModel___limit___I_ := hts (.fieldLink RX12 24 "KeyLettersModel" "limit" "I") (by decide +kernel)
  have k_fieldLink_RX12_7__KeyLettersModel___length___I_ := hts (.fieldLink RX12 7 "KeyLettersModel" "length" "I") (by decide +kernel)
  have hl := lv_entry ([.ref (ra 0), .int a0]) (n := 2) (Nat.le_of_ble_eq_true rfl)
  rw [show entryFrame m args 2 = entryFrame m ([.ref (ra 0), .int a0] : List Value).toArray 2 from by rw [hav], lg_entry_eq]
  generalize (lg_sl ([.ref (ra 0), .int a0]) ++ List.replicate (2 - (lg_sl ([.ref (ra 0), .int a0])).length) Slot.unset).toArray = ls at hl ⊢
  have hl : lv_has ls 2 [(0, .ref (ra 0)), (1, .int a0)] := hl
  unfold f_X12_taken at hf
  refine lv_aload_n hx hb dX12_taken_0 rfl (lv_at hl 0 rfl) ?_
  refine lv_aload_n hx hb dX12_taken_1 rfl (lv_at hl 0 rfl) ?_
  refine km_get hx hb hts hin hown hK hP 2 (by decide) (v := .int (M.1 0 2)) k_fieldLink_RX12_7__KeyLettersModel___length___I_ rfl dX12_taken_2 ?_
  obtain ⟨M1, eM1, hf⟩ := bd1_e hf
  refine km_put hx hb hts hin hown hK hP hD hS 3 (by decide) k_fieldLink_RX12_18__KeyLettersModel___size___I_ rfl (ty := .int) (v := .int (M.1 0 2)) (by decide +kernel) rfl rfl (M1 := M1) (by rw [eM1]; exact mo_3 cB cI cJ cZ ra M (M.1 0 2)) dX12_taken_5 (fun H locs hP hD hS => ?_)
  refine lv_aload_n hx hb dX12_taken_8 rfl (lv_at hl 0 rfl) ?_
  refine lv_iconst (v := 0) hx hb dX12_taken_9 (by decide) ?_
  obtain ⟨M2, eM2, hf⟩ := bd1_e hf
  refine km_put hx hb hts hin hown hK hP hD hS 2 (by decide) k_fieldLink_RX12_7__KeyLettersModel___length___I_ rfl (ty := .int) (v := .int (0 : Int32)) (by decide +kernel) rfl rfl (M1 := M2) (by rw [eM2]; exact mo_2 cB cI cJ cZ ra M1 (0 : Int32)) dX12_taken_10 (fun H locs hP hD hS => ?_)
  refine lv_aload_n hx hb dX12_taken_13 rfl (lv_at hl 0 rfl) ?_
  refine lv_iconst (v := 0) hx hb dX12_taken_14 (by decide) ?_
  obtain ⟨M3, eM3, hf⟩ := bd1_e hf
  refine km_put hx hb hts hin hown hK hP hD hS 4 (by decide) k_fieldLink_RX12_21__KeyLettersModel___p___I_ rfl (ty := .int) (v := .int (0 : Int32)) (by decide +kernel) rfl rfl (M1 := M3) (by rw [eM3]; exact mo_4 cB cI cJ cZ ra M2 (0 : Int32)) dX12_taken_15 (fun H locs hP hD hS => ?_)
  refine lv_aload_n hx hb dX12_taken_18 rfl (lv_at hl 0 rfl) ?_
  refine lv_iload_n hx hb dX12_taken_19 rfl (lv_at hl 1 rfl) ?_
  obtain ⟨M4, eM4, hf⟩ := bd1_e hf
  refine km_put hx hb hts hin hown hK hP hD hS 5 (by decide) k_fieldLink_RX12_24__KeyLettersModel___limit___I_ rfl (ty := .int) (v := .int a0) (by decide +kernel) rfl rfl (M1 := M4) (by rw [eM4]; exact mo_5 cB cI cJ cZ ra M3 a0) dX12_taken_20 (fun H locs hP hD hS => ?_)
  have hf := Option.some.inj hf
  subst hf
  exact m_vret hx hb hr hlocks hP hK hD hS dX12_taken_23

abbrev rm_X12_isIn : Room := { frames := 0, cells := 0, slots := 0, locals := 0 }
set_option maxHeartbeats 4000000 in
set_option maxRecDepth 100000 in
theorem c_X12_isIn (l : Launch) (a0 : Int32) (a1 : Int32) (a2 : Int32) (r : Int32) (hf : f_X12_isIn a0 a1 a2 = r) : Met l yX12_isIn wsX12_isIn rm_X12_isIn (va_Pc [.int a0, .int a1, .int a2] (fun _ => True)) (kQ (some (.int r))) 0 0 (kF) := by
  refine Met.ofW (cc := cX12_isIn) (maxL := 3) (ret := (some .boolean)) (by decide) rfl ?_
  intro p e s m args below meth c s₁ B hml hv
  obtain ⟨hav, -⟩ := hv
  have hx := B.exec
  have hb := B.bytes
  have hr := B.returns
  have hts := atoms_spec (ws := wsX12_isIn) B.pre
  have hown : s.vm.findClass RX12 = some m.cls := findClass_of_methodNamed B.named
  have hlocks := B.notSynchronized
  have hl := lv_entry ([.int a0, .int a1, .int a2]) (n := 3) (Nat.le_of_ble_eq_true rfl)
  rw [show entryFrame m args 3 = entryFrame m ([.int a0, .int a1, .int a2] : List Value).toArray 3 from by rw [hav], lg_entry_eq]
  generalize (lg_sl ([.int a0, .int a1, .int a2]) ++ List.replicate (3 - (lg_sl ([.int a0, .int a1, .int a2])).length) Slot.unset).toArray = ls at hl ⊢
  have hl : lv_has ls 3 [(0, .int a0), (1, .int a1), (2, .int a2)] := hl
  unfold f_X12_isIn at hf
  refine lv_iload_n hx hb dX12_isIn_0 rfl (lv_at hl 0 rfl) ?_
  refine lv_iload_n hx hb dX12_isIn_1 rfl (lv_at hl 1 rfl) ?_
  refine lv_icmp_lt (tgt := 14) hx hb dX12_isIn_2 (by decide) (fun hb2 => ?_) (fun hb2 => ?_)
  · have hf := (if_pos hb2).symm.trans hf
    refine lv_iconst (v := 0) hx hb dX12_isIn_14 (by decide) ?_
    subst hf
    exact W.zret (v := (0 : Int32)) (ty := .boolean) hx hb hr rfl (fun t ht hW => ⟨rfl, ht⟩) (fun _ h => nomatch h) dX12_isIn_15
  · have hf := (if_neg hb2).symm.trans hf
    refine lv_iload_n hx hb dX12_isIn_5 rfl (lv_at hl 0 rfl) ?_
    refine lv_iload_n hx hb dX12_isIn_6 rfl (lv_at hl 2 rfl) ?_
    refine lv_icmp_gt (tgt := 14) hx hb dX12_isIn_7 (by decide) (fun hb1 => ?_) (fun hb1 => ?_)
    · have hf := (if_pos hb1).symm.trans hf
      refine lv_iconst (v := 0) hx hb dX12_isIn_14 (by decide) ?_
      subst hf
      exact W.zret (v := (0 : Int32)) (ty := .boolean) hx hb hr rfl (fun t ht hW => ⟨rfl, ht⟩) (fun _ h => nomatch h) dX12_isIn_15
    · have hf := (if_neg hb1).symm.trans hf
      refine lv_iconst (v := 1) hx hb dX12_isIn_10 (by decide) ?_
      refine lv_goto (tgt := 15) hx hb dX12_isIn_11 (by decide) ?_
      subst hf
      exact W.zret (v := (1 : Int32)) (ty := .boolean) hx hb hr rfl (fun t ht hW => ⟨rfl, ht⟩) (fun _ h => nomatch h) dX12_isIn_15
theorem z_X12_isIn (a0 : Int32) (a1 : Int32) (a2 : Int32) : f_X12_isIn a0 a1 a2 = 0 ∨ f_X12_isIn a0 a1 a2 = 1 := by
  unfold f_X12_isIn
  repeat' split
  all_goals first | exact Or.inl rfl | exact Or.inr rfl

abbrev rm_X12_bitOf : Room := { frames := 0, cells := 0, slots := 0, locals := 0 }
set_option maxHeartbeats 4000000 in
set_option maxRecDepth 100000 in
theorem c_X12_bitOf (l : Launch) (a0 : Int32) (a1 : Int32) (r : Int32) (hf : f_X12_bitOf a0 a1 = r) : Met l yX12_bitOf wsX12_bitOf rm_X12_bitOf (va_Pc [.int a0, .int a1] (fun _ => True)) (kQ (some (.int r))) 0 0 (kF) := by
  refine Met.ofW (cc := cX12_bitOf) (maxL := 2) (ret := (some .boolean)) (by decide) rfl ?_
  intro p e s m args below meth c s₁ B hml hv
  obtain ⟨hav, -⟩ := hv
  have hx := B.exec
  have hb := B.bytes
  have hr := B.returns
  have hts := atoms_spec (ws := wsX12_bitOf) B.pre
  have hown : s.vm.findClass RX12 = some m.cls := findClass_of_methodNamed B.named
  have hlocks := B.notSynchronized
  have hl := lv_entry ([.int a0, .int a1]) (n := 2) (Nat.le_of_ble_eq_true rfl)
  rw [show entryFrame m args 2 = entryFrame m ([.int a0, .int a1] : List Value).toArray 2 from by rw [hav], lg_entry_eq]
  generalize (lg_sl ([.int a0, .int a1]) ++ List.replicate (2 - (lg_sl ([.int a0, .int a1])).length) Slot.unset).toArray = ls at hl ⊢
  have hl : lv_has ls 2 [(0, .int a0), (1, .int a1)] := hl
  unfold f_X12_bitOf at hf
  refine lv_iload_n hx hb dX12_bitOf_0 rfl (lv_at hl 0 rfl) ?_
  refine lv_iload_n hx hb dX12_bitOf_1 rfl (lv_at hl 1 rfl) ?_
  refine lv_ishr hx hb dX12_bitOf_2 ?_
  refine lv_iconst (v := 1) hx hb dX12_bitOf_3 (by decide) ?_
  refine lv_iand hx hb dX12_bitOf_4 ?_
  refine lv_iconst (v := 1) hx hb dX12_bitOf_5 (by decide) ?_
  refine lv_icmp_ne (tgt := 13) hx hb dX12_bitOf_6 (by decide) (fun hb1 => ?_) (fun hb1 => ?_)
  · have hf := (if_neg hb1).symm.trans hf
    refine lv_iconst (v := 0) hx hb dX12_bitOf_13 (by decide) ?_
    subst hf
    exact W.zret (v := (0 : Int32)) (ty := .boolean) hx hb hr rfl (fun t ht hW => ⟨rfl, ht⟩) (fun _ h => nomatch h) dX12_bitOf_14
  · have hf := (if_pos hb1).symm.trans hf
    refine lv_iconst (v := 1) hx hb dX12_bitOf_9 (by decide) ?_
    refine lv_goto (tgt := 14) hx hb dX12_bitOf_10 (by decide) ?_
    subst hf
    exact W.zret (v := (1 : Int32)) (ty := .boolean) hx hb hr rfl (fun t ht hW => ⟨rfl, ht⟩) (fun _ h => nomatch h) dX12_bitOf_14
theorem z_X12_bitOf (a0 : Int32) (a1 : Int32) : f_X12_bitOf a0 a1 = 0 ∨ f_X12_bitOf a0 a1 = 1 := by
  unfold f_X12_bitOf
  repeat' split
  all_goals first | exact Or.inl rfl | exact Or.inr rfl

abbrev rm_X12_lesser : Room := { frames := 0, cells := 0, slots := 0, locals := 0 }
set_option maxHeartbeats 4000000 in
set_option maxRecDepth 100000 in
theorem c_X12_lesser (l : Launch) (a0 : Int32) (a1 : Int32) (r : Int32) (hf : f_X12_lesser a0 a1 = r) : Met l yX12_lesser wsX12_lesser rm_X12_lesser (va_Pc [.int a0, .int a1] (fun _ => True)) (kQ (some (.int r))) 0 0 (kF) := by
  refine Met.ofW (cc := cX12_lesser) (maxL := 2) (ret := (some .int)) (by decide) rfl ?_
  intro p e s m args below meth c s₁ B hml hv
  obtain ⟨hav, -⟩ := hv
  have hx := B.exec
  have hb := B.bytes
  have hr := B.returns
  have hts := atoms_spec (ws := wsX12_lesser) B.pre
  have hown : s.vm.findClass RX12 = some m.cls := findClass_of_methodNamed B.named
  have hlocks := B.notSynchronized
  have hl := lv_entry ([.int a0, .int a1]) (n := 2) (Nat.le_of_ble_eq_true rfl)
  rw [show entryFrame m args 2 = entryFrame m ([.int a0, .int a1] : List Value).toArray 2 from by rw [hav], lg_entry_eq]
  generalize (lg_sl ([.int a0, .int a1]) ++ List.replicate (2 - (lg_sl ([.int a0, .int a1])).length) Slot.unset).toArray = ls at hl ⊢
  have hl : lv_has ls 2 [(0, .int a0), (1, .int a1)] := hl
  unfold f_X12_lesser at hf
  refine lv_iload_n hx hb dX12_lesser_0 rfl (lv_at hl 0 rfl) ?_
  refine lv_iload_n hx hb dX12_lesser_1 rfl (lv_at hl 1 rfl) ?_
  refine lv_icmp_ge (tgt := 9) hx hb dX12_lesser_2 (by decide) (fun hb1 => ?_) (fun hb1 => ?_)
  · have hf := (if_pos hb1).symm.trans hf
    refine lv_iload_n hx hb dX12_lesser_9 rfl (lv_at hl 1 rfl) ?_
    subst hf
    exact W.iret (v := a1) hx hb hr (fun t ht hW => ⟨rfl, ht⟩) (fun _ h => nomatch h) dX12_lesser_10
  · have hf := (if_neg hb1).symm.trans hf
    refine lv_iload_n hx hb dX12_lesser_5 rfl (lv_at hl 0 rfl) ?_
    refine lv_goto (tgt := 10) hx hb dX12_lesser_6 (by decide) ?_
    subst hf
    exact W.iret (v := a0) hx hb hr (fun t ht hW => ⟨rfl, ht⟩) (fun _ h => nomatch h) dX12_lesser_10

abbrev rm_X12_greater : Room := { frames := 0, cells := 0, slots := 0, locals := 0 }
set_option maxHeartbeats 4000000 in
set_option maxRecDepth 100000 in
theorem c_X12_greater (l : Launch) (a0 : Int32) (a1 : Int32) (r : Int32) (hf : f_X12_greater a0 a1 = r) : Met l yX12_greater wsX12_greater rm_X12_greater (va_Pc [.int a0, .int a1] (fun _ => True)) (kQ (some (.int r))) 0 0 (kF) := by
  refine Met.ofW (cc := cX12_greater) (maxL := 2) (ret := (some .int)) (by decide) rfl ?_
  intro p e s m args below meth c s₁ B hml hv
  obtain ⟨hav, -⟩ := hv
  have hx := B.exec
  have hb := B.bytes
  have hr := B.returns
  have hts := atoms_spec (ws := wsX12_greater) B.pre
  have hown : s.vm.findClass RX12 = some m.cls := findClass_of_methodNamed B.named
  have hlocks := B.notSynchronized
  have hl := lv_entry ([.int a0, .int a1]) (n := 2) (Nat.le_of_ble_eq_true rfl)
  rw [show entryFrame m args 2 = entryFrame m ([.int a0, .int a1] : List Value).toArray 2 from by rw [hav], lg_entry_eq]
  generalize (lg_sl ([.int a0, .int a1]) ++ List.replicate (2 - (lg_sl ([.int a0, .int a1])).length) Slot.unset).toArray = ls at hl ⊢
  have hl : lv_has ls 2 [(0, .int a0), (1, .int a1)] := hl
  unfold f_X12_greater at hf
  refine lv_iload_n hx hb dX12_greater_0 rfl (lv_at hl 0 rfl) ?_
  refine lv_iload_n hx hb dX12_greater_1 rfl (lv_at hl 1 rfl) ?_
  refine lv_icmp_le (tgt := 9) hx hb dX12_greater_2 (by decide) (fun hb1 => ?_) (fun hb1 => ?_)
  · have hf := (if_pos hb1).symm.trans hf
    refine lv_iload_n hx hb dX12_greater_9 rfl (lv_at hl 1 rfl) ?_
    subst hf
    exact W.iret (v := a1) hx hb hr (fun t ht hW => ⟨rfl, ht⟩) (fun _ h => nomatch h) dX12_greater_10
  · have hf := (if_neg hb1).symm.trans hf
    refine lv_iload_n hx hb dX12_greater_5 rfl (lv_at hl 0 rfl) ?_
    refine lv_goto (tgt := 10) hx hb dX12_greater_6 (by decide) ?_
    subst hf
    exact W.iret (v := a0) hx hb hr (fun t ht hW => ⟨rfl, ht⟩) (fun _ h => nomatch h) dX12_greater_10

abbrev rm_X12_octet : Room := { frames := 0, cells := 0, slots := 0, locals := 0 }
set_option maxHeartbeats 4000000 in
set_option maxRecDepth 100000 in
theorem c_X12_octet (l : Launch) (dC : Nat → ClassId) (dI : Nat → Nat → Nat) (cB cI cJ cZ : ClassId) (ra : Nat → Nat) (M : kD) (a0 : Int32) (r : Int32) (hf : f_X12_octet a0 M = some r) : Met l yX12_octet wsX12_octet rm_X12_octet (va_Pc [.ref (ra 0), .int a0] (mPr dC dI cB cI cJ cZ ra M)) (kQ (some (.int r))) 0 0 (kF) := by
  refine Met.ofW (cc := cX12_octet) (maxL := 2) (ret := (some .int)) (by decide) rfl ?_
  intro p e s m args below meth c s₁ B hml hv
  obtain ⟨hav, hP, hK⟩ := hv
  have hx := B.exec
  have hb := B.bytes
  have hr := B.returns
  have hts := atoms_spec (ws := wsX12_octet) B.pre
  have hown : s.vm.findClass RX12 = some m.cls := findClass_of_methodNamed B.named
  have hlocks := B.notSynchronized
  have hin : ∀ w ∈ wsX120, w ∈ wsX12_octet := fun w h => List.mem_cons_of_mem _ (List.mem_append_right _ h)
  have k_fieldLink_RX12_14__KeyLettersModel___tape____B_ := hts (.fieldLink RX12 14 "KeyLettersModel" "tape" "[B") (by decide +kernel)
  have hl := lv_entry ([.ref (ra 0), .int a0]) (n := 2) (Nat.le_of_ble_eq_true rfl)
  rw [show entryFrame m args 2 = entryFrame m ([.ref (ra 0), .int a0] : List Value).toArray 2 from by rw [hav], lg_entry_eq]
  generalize (lg_sl ([.ref (ra 0), .int a0]) ++ List.replicate (2 - (lg_sl ([.ref (ra 0), .int a0])).length) Slot.unset).toArray = ls at hl ⊢
  have hl : lv_has ls 2 [(0, .ref (ra 0)), (1, .int a0)] := hl
  unfold f_X12_octet at hf
  refine lv_aload_n hx hb dX12_octet_0 rfl (lv_at hl 0 rfl) ?_
  refine km_get hx hb hts hin hown hK hP 1 (by decide) (v := .ref (ra 1)) k_fieldLink_RX12_14__KeyLettersModel___tape____B_ rfl dX12_octet_1 ?_
  refine lv_iload_n hx hb dX12_octet_4 rfl (lv_at hl 1 rfl) ?_
  obtain ⟨hc1, hf⟩ := ck_e hf
  refine va_bald hx hb hK hP 1 0 rfl rfl hc1 dX12_octet_5 ?_
  refine lv_sipush (v := 255) hx hb dX12_octet_6 (by decide) ?_
  refine lv_iand hx hb dX12_octet_9 ?_
  have hf := Option.some.inj hf
  subst hf
  exact W.iret (v := ((M.1 1 a0.toNatClampNeg) &&& (255 : Int32))) hx hb hr (fun t ht hW => ⟨rfl, ht⟩) (fun _ h => nomatch h) dX12_octet_10

abbrev rm_X12_clears : Room := { frames := 0, cells := 0, slots := 0, locals := 0 }
set_option maxHeartbeats 4000000 in
set_option maxRecDepth 100000 in
theorem c_X12_clears (l : Launch) (dC : Nat → ClassId) (dI : Nat → Nat → Nat) (cB cI cJ cZ : ClassId) (ra : Nat → Nat) (sz : Nat) (M : kD)  (r : kD) (hf : f_X12_clears  M = some r) : Met l yX12_clears wsX12_clears rm_X12_clears (va_Pc [.ref (ra 0)] (mPw dC dI cB cI cJ cZ ra sz M)) (mQv dC dI cB cI cJ cZ ra sz r) 0 0 (mA ra sz) := by
  refine Met.ofW (cc := cX12_clears) (maxL := 2) (ret := none) (by decide) rfl ?_
  intro p e s m args below meth c s₁ B hml hv
  obtain ⟨hav, hsz, hP, hK, hD0⟩ := hv
  have hx := B.exec
  have hb := B.bytes
  have hr := B.returns
  have hts := atoms_spec (ws := wsX12_clears) B.pre
  have hown : s.vm.findClass RX12 = some m.cls := findClass_of_methodNamed B.named
  have hlocks := B.notSynchronized
  subst hsz
  have hA : ∀ q, s.heap.size ≤ q → mA ra s.heap.size q := fun q h => Or.inr h
  have hD : va_D (mA ra s.heap.size) (mw cB cI cJ cZ ra M) := hD0.weaken (fun k q h _ => mA_in h)
  have hS : va_S (mA ra s.heap.size) s.heap s.heap [] := va_S.rf
  have hin : ∀ w ∈ wsX120, w ∈ wsX12_clears := fun w h => List.mem_cons_of_mem _ (List.mem_append_right _ h)
  have k_fieldLink_RX12_37__KeyLettersModel___h____I_ := hts (.fieldLink RX12 37 "KeyLettersModel" "h" "[I") (by decide +kernel)
  have hl := lv_entry ([.ref (ra 0)]) (n := 2) (Nat.le_of_ble_eq_true rfl)
  rw [show entryFrame m args 2 = entryFrame m ([.ref (ra 0)] : List Value).toArray 2 from by rw [hav], lg_entry_eq]
  generalize (lg_sl ([.ref (ra 0)]) ++ List.replicate (2 - (lg_sl ([.ref (ra 0)])).length) Slot.unset).toArray = ls at hl ⊢
  have hl : lv_has ls 2 [(0, .ref (ra 0))] := hl
  unfold f_X12_clears at hf
  have h_2 := lp_ind (z := (fun _ _ => none)) (b := (g_X12_clears_2)) (fun (rc_2 : Int32 → kD → Option kD) => ∀ (x1_2 : Int32) (M_2 : kD) (ls : Array Slot) (H : Heap) (locs : List Loc), lv_has ls 2 [(0, .ref (ra 0)), (1, .int x1_2)] → va_P (dC, dI) vwCl (mw cB cI cJ cZ ra M_2) H → va_D (mA ra s.heap.size) (mw cB cI cJ cZ ra M_2) → va_S (mA ra s.heap.size) s.heap H locs → rc_2 x1_2 M_2 = some r → W p l e (headSpec wsX12_clears rm_X12_clears).room s m args below meth c H locs 0 0 (MQ below (mQv dC dI cB cI cJ cZ ra s.heap.size r) args s 0 0 (mA ra s.heap.size)) (F0 m 2 ls [])) (by
      intro x1_2 M_2 ls H locs hl hP hD hS hf
      cases hf) (by
      intro rc_2 ih_2 x1_2 M_2 ls H locs hl hP hD hS hf
      unfold g_X12_clears_2 at hf
      refine lv_iload_n hx hb dX12_clears_2 rfl (lv_at hl 1 rfl) ?_
      refine lv_bipush (v := 39) hx hb dX12_clears_3 (by decide) ?_
      refine lv_icmp_ge (tgt := 21) hx hb dX12_clears_5 (by decide) (fun hb4 => ?_) (fun hb4 => ?_)
      · have hf := (if_pos hb4).symm.trans hf
        have hf := Option.some.inj hf
        subst hf
        exact m_vret hx hb hr hlocks hP hK hD hS dX12_clears_21
      · have hf := (if_neg hb4).symm.trans hf
        refine lv_aload_n hx hb dX12_clears_8 rfl (lv_at hl 0 rfl) ?_
        refine km_get hx hb hts hin hown hK hP 7 (by decide) (v := .ref (ra 7)) k_fieldLink_RX12_37__KeyLettersModel___h____I_ rfl dX12_clears_9 ?_
        refine lv_iload_n hx hb dX12_clears_12 rfl (lv_at hl 1 rfl) ?_
        refine lv_iconst (v := 0) hx hb dX12_clears_13 (by decide) ?_
        obtain ⟨hc1, hf⟩ := ck_e hf
        obtain ⟨M2, eM2, hf⟩ := bd1_e hf
        refine va_iast hx hb hK hP hD hS 3 1 rfl rfl hc1 dX12_clears_14 (fun H locs hP hD hS => ?_)
        have hP : va_P (dC, dI) vwCl (mw cB cI cJ cZ ra M2) H := by rw [eM2, ← ma_7 cB cI cJ cZ ra M_2 x1_2.toNatClampNeg (0 : Int32)]; exact hP
        have hD : va_D (mA ra s.heap.size) (mw cB cI cJ cZ ra M2) := by rw [eM2, ← ma_7 cB cI cJ cZ ra M_2 x1_2.toNatClampNeg (0 : Int32)]; exact hD
        obtain ⟨v3, ev3, hf⟩ := bd1_e hf
        refine lv_iinc (k := 1) (x := x1_2) (v := v3) (nL := 2) (lv' := [(1, .int v3), (0, .ref (ra 0))]) hx hb dX12_clears_15 hl rfl (kt_inc (w := 1) (by decide) ev3) (by decide) rfl (fun ls hl => ?_)
        refine lv_goto (tgt := 2) hx hb dX12_clears_18 (by decide) ?_
        exact ih_2 v3 M2 ls _ _ (lv_sub hl [1, 0] rfl) hP hD hS hf) 2000
  refine lv_iconst (v := 0) hx hb dX12_clears_0 (by decide) ?_
  refine lv_istore_n (nL := 2) (lv' := [(1, .int (0 : Int32)), (0, .ref (ra 0))]) hx hb dX12_clears_1 rfl hl (by decide) rfl (fun ls hl => ?_)
  exact h_2 (0 : Int32) M ls _ _ (lv_sub hl [1, 0] rfl) hP hD hS hf

abbrev rm_X12_peek : Room := { frames := 0, cells := 0, slots := 0, locals := 0 }
set_option maxHeartbeats 4000000 in
set_option maxRecDepth 100000 in
theorem c_X12_peek (l : Launch) (dC : Nat → ClassId) (dI : Nat → Nat → Nat) (cB cI cJ cZ : ClassId) (ra : Nat → Nat) (M : kD)  (r : Int32) (hf : f_X12_peek  M = some r) : Met l yX12_peek wsX12_peek rm_X12_peek (va_Pc [.ref (ra 0)] (mPr dC dI cB cI cJ cZ ra M)) (kQ (some (.int r))) 0 0 (kF) := by
  refine Met.ofW (cc := cX12_peek) (maxL := 1) (ret := (some .int)) (by decide) rfl ?_
  intro p e s m args below meth c s₁ B hml hv
  obtain ⟨hav, hP, hK⟩ := hv
  have hx := B.exec
  have hb := B.bytes
  have hr := B.returns
  have hts := atoms_spec (ws := wsX12_peek) B.pre
  have hown : s.vm.findClass RX12 = some m.cls := findClass_of_methodNamed B.named
  have hlocks := B.notSynchronized
  have hin : ∀ w ∈ wsX120, w ∈ wsX12_peek := fun w h => List.mem_cons_of_mem _ (List.mem_append_right _ h)
  have k_fieldLink_RX12_14__KeyLettersModel___tape____B_ := hts (.fieldLink RX12 14 "KeyLettersModel" "tape" "[B") (by decide +kernel)
  have k_fieldLink_RX12_18__KeyLettersModel___size___I_ := hts (.fieldLink RX12 18 "KeyLettersModel" "size" "I") (by decide +kernel)
  have k_fieldLink_RX12_21__KeyLettersModel___p___I_ := hts (.fieldLink RX12 21 "KeyLettersModel" "p" "I") (by decide +kernel)
  have hl := lv_entry ([.ref (ra 0)]) (n := 1) (Nat.le_of_ble_eq_true rfl)
  rw [show entryFrame m args 1 = entryFrame m ([.ref (ra 0)] : List Value).toArray 1 from by rw [hav], lg_entry_eq]
  generalize (lg_sl ([.ref (ra 0)]) ++ List.replicate (1 - (lg_sl ([.ref (ra 0)])).length) Slot.unset).toArray = ls at hl ⊢
  have hl : lv_has ls 1 [(0, .ref (ra 0))] := hl
  unfold f_X12_peek at hf
  refine lv_aload_n hx hb dX12_peek_0 rfl (lv_at hl 0 rfl) ?_
  refine km_get hx hb hts hin hown hK hP 4 (by decide) (v := .int (M.1 0 4)) k_fieldLink_RX12_21__KeyLettersModel___p___I_ rfl dX12_peek_1 ?_
  refine lv_aload_n hx hb dX12_peek_4 rfl (lv_at hl 0 rfl) ?_
  refine km_get hx hb hts hin hown hK hP 3 (by decide) (v := .int (M.1 0 3)) k_fieldLink_RX12_18__KeyLettersModel___size___I_ rfl dX12_peek_5 ?_
  refine lv_icmp_ge (tgt := 27) hx hb dX12_peek_8 (by decide) (fun hb3 => ?_) (fun hb3 => ?_)
  · have hf := (if_pos hb3).symm.trans hf
    refine lv_iconst (v := -1) hx hb dX12_peek_27 (by decide) ?_
    have hf := Option.some.inj hf
    subst hf
    exact W.iret (v := (-1 : Int32)) hx hb hr (fun t ht hW => ⟨rfl, ht⟩) (fun _ h => nomatch h) dX12_peek_28
  · have hf := (if_neg hb3).symm.trans hf
    refine lv_aload_n hx hb dX12_peek_11 rfl (lv_at hl 0 rfl) ?_
    refine km_get hx hb hts hin hown hK hP 1 (by decide) (v := .ref (ra 1)) k_fieldLink_RX12_14__KeyLettersModel___tape____B_ rfl dX12_peek_12 ?_
    refine lv_aload_n hx hb dX12_peek_15 rfl (lv_at hl 0 rfl) ?_
    refine km_get hx hb hts hin hown hK hP 4 (by decide) (v := .int (M.1 0 4)) k_fieldLink_RX12_21__KeyLettersModel___p___I_ rfl dX12_peek_16 ?_
    obtain ⟨v1, ev1, hf⟩ := bd1_e hf
    refine kt_i ev1 ?_
    obtain ⟨hc2, hf⟩ := ck_e hf
    refine va_bald hx hb hK hP 1 0 rfl rfl hc2 dX12_peek_19 ?_
    refine lv_sipush (v := 255) hx hb dX12_peek_20 (by decide) ?_
    refine lv_iand hx hb dX12_peek_23 ?_
    refine lv_goto (tgt := 28) hx hb dX12_peek_24 (by decide) ?_
    have hf := Option.some.inj hf
    subst hf
    exact W.iret (v := ((M.1 1 v1.toNatClampNeg) &&& (255 : Int32))) hx hb hr (fun t ht hW => ⟨rfl, ht⟩) (fun _ h => nomatch h) dX12_peek_28

abbrev rm_X12_isSmall : Room := { frames := 0, cells := 0, slots := 0, locals := 0 }
set_option maxHeartbeats 4000000 in
set_option maxRecDepth 100000 in
theorem c_X12_isSmall (l : Launch) (a0 : Int32) (r : Int32) (hf : f_X12_isSmall a0 = r) : Met l yX12_isSmall wsX12_isSmall rm_X12_isSmall (va_Pc [.int a0] (fun _ => True)) (kQ (some (.int r))) 0 0 (kF) := by
  refine Met.ofW (cc := cX12_isSmall) (maxL := 1) (ret := (some .boolean)) (by decide) rfl ?_
  intro p e s m args below meth c s₁ B hml hv
  obtain ⟨hav, -⟩ := hv
  have hx := B.exec
  have hb := B.bytes
  have hr := B.returns
  have hts := atoms_spec (ws := wsX12_isSmall) B.pre
  have hown : s.vm.findClass RX12 = some m.cls := findClass_of_methodNamed B.named
  have hlocks := B.notSynchronized
  have hl := lv_entry ([.int a0]) (n := 1) (Nat.le_of_ble_eq_true rfl)
  rw [show entryFrame m args 1 = entryFrame m ([.int a0] : List Value).toArray 1 from by rw [hav], lg_entry_eq]
  generalize (lg_sl ([.int a0]) ++ List.replicate (1 - (lg_sl ([.int a0])).length) Slot.unset).toArray = ls at hl ⊢
  have hl : lv_has ls 1 [(0, .int a0)] := hl
  unfold f_X12_isSmall at hf
  refine lv_iload_n hx hb dX12_isSmall_0 rfl (lv_at hl 0 rfl) ?_
  refine lv_bipush (v := 97) hx hb dX12_isSmall_1 (by decide) ?_
  refine lv_icmp_lt (tgt := 16) hx hb dX12_isSmall_3 (by decide) (fun hb2 => ?_) (fun hb2 => ?_)
  · have hf := (if_pos hb2).symm.trans hf
    refine lv_iconst (v := 0) hx hb dX12_isSmall_16 (by decide) ?_
    subst hf
    exact W.zret (v := (0 : Int32)) (ty := .boolean) hx hb hr rfl (fun t ht hW => ⟨rfl, ht⟩) (fun _ h => nomatch h) dX12_isSmall_17
  · have hf := (if_neg hb2).symm.trans hf
    refine lv_iload_n hx hb dX12_isSmall_6 rfl (lv_at hl 0 rfl) ?_
    refine lv_bipush (v := 122) hx hb dX12_isSmall_7 (by decide) ?_
    refine lv_icmp_gt (tgt := 16) hx hb dX12_isSmall_9 (by decide) (fun hb1 => ?_) (fun hb1 => ?_)
    · have hf := (if_pos hb1).symm.trans hf
      refine lv_iconst (v := 0) hx hb dX12_isSmall_16 (by decide) ?_
      subst hf
      exact W.zret (v := (0 : Int32)) (ty := .boolean) hx hb hr rfl (fun t ht hW => ⟨rfl, ht⟩) (fun _ h => nomatch h) dX12_isSmall_17
    · have hf := (if_neg hb1).symm.trans hf
      refine lv_iconst (v := 1) hx hb dX12_isSmall_12 (by decide) ?_
      refine lv_goto (tgt := 17) hx hb dX12_isSmall_13 (by decide) ?_
      subst hf
      exact W.zret (v := (1 : Int32)) (ty := .boolean) hx hb hr rfl (fun t ht hW => ⟨rfl, ht⟩) (fun _ h => nomatch h) dX12_isSmall_17
theorem z_X12_isSmall (a0 : Int32) : f_X12_isSmall a0 = 0 ∨ f_X12_isSmall a0 = 1 := by
  unfold f_X12_isSmall
  repeat' split
  all_goals first | exact Or.inl rfl | exact Or.inr rfl

abbrev rm_X12_isDigit : Room := { frames := 0, cells := 0, slots := 0, locals := 0 }
set_option maxHeartbeats 4000000 in
set_option maxRecDepth 100000 in
theorem c_X12_isDigit (l : Launch) (a0 : Int32) (r : Int32) (hf : f_X12_isDigit a0 = r) : Met l yX12_isDigit wsX12_isDigit rm_X12_isDigit (va_Pc [.int a0] (fun _ => True)) (kQ (some (.int r))) 0 0 (kF) := by
  refine Met.ofW (cc := cX12_isDigit) (maxL := 1) (ret := (some .boolean)) (by decide) rfl ?_
  intro p e s m args below meth c s₁ B hml hv
  obtain ⟨hav, -⟩ := hv
  have hx := B.exec
  have hb := B.bytes
  have hr := B.returns
  have hts := atoms_spec (ws := wsX12_isDigit) B.pre
  have hown : s.vm.findClass RX12 = some m.cls := findClass_of_methodNamed B.named
  have hlocks := B.notSynchronized
  have hl := lv_entry ([.int a0]) (n := 1) (Nat.le_of_ble_eq_true rfl)
  rw [show entryFrame m args 1 = entryFrame m ([.int a0] : List Value).toArray 1 from by rw [hav], lg_entry_eq]
  generalize (lg_sl ([.int a0]) ++ List.replicate (1 - (lg_sl ([.int a0])).length) Slot.unset).toArray = ls at hl ⊢
  have hl : lv_has ls 1 [(0, .int a0)] := hl
  unfold f_X12_isDigit at hf
  refine lv_iload_n hx hb dX12_isDigit_0 rfl (lv_at hl 0 rfl) ?_
  refine lv_bipush (v := 48) hx hb dX12_isDigit_1 (by decide) ?_
  refine lv_icmp_lt (tgt := 16) hx hb dX12_isDigit_3 (by decide) (fun hb2 => ?_) (fun hb2 => ?_)
  · have hf := (if_pos hb2).symm.trans hf
    refine lv_iconst (v := 0) hx hb dX12_isDigit_16 (by decide) ?_
    subst hf
    exact W.zret (v := (0 : Int32)) (ty := .boolean) hx hb hr rfl (fun t ht hW => ⟨rfl, ht⟩) (fun _ h => nomatch h) dX12_isDigit_17
  · have hf := (if_neg hb2).symm.trans hf
    refine lv_iload_n hx hb dX12_isDigit_6 rfl (lv_at hl 0 rfl) ?_
    refine lv_bipush (v := 57) hx hb dX12_isDigit_7 (by decide) ?_
    refine lv_icmp_gt (tgt := 16) hx hb dX12_isDigit_9 (by decide) (fun hb1 => ?_) (fun hb1 => ?_)
    · have hf := (if_pos hb1).symm.trans hf
      refine lv_iconst (v := 0) hx hb dX12_isDigit_16 (by decide) ?_
      subst hf
      exact W.zret (v := (0 : Int32)) (ty := .boolean) hx hb hr rfl (fun t ht hW => ⟨rfl, ht⟩) (fun _ h => nomatch h) dX12_isDigit_17
    · have hf := (if_neg hb1).symm.trans hf
      refine lv_iconst (v := 1) hx hb dX12_isDigit_12 (by decide) ?_
      refine lv_goto (tgt := 17) hx hb dX12_isDigit_13 (by decide) ?_
      subst hf
      exact W.zret (v := (1 : Int32)) (ty := .boolean) hx hb hr rfl (fun t ht hW => ⟨rfl, ht⟩) (fun _ h => nomatch h) dX12_isDigit_17
theorem z_X12_isDigit (a0 : Int32) : f_X12_isDigit a0 = 0 ∨ f_X12_isDigit a0 = 1 := by
  unfold f_X12_isDigit
  repeat' split
  all_goals first | exact Or.inl rfl | exact Or.inr rfl

abbrev rm_X12_next : Room := { frames := 1, cells := 0, slots := 0, locals := 20 }
set_option maxHeartbeats 4000000 in
set_option maxRecDepth 100000 in
theorem c_X12_next (l : Launch) (dC : Nat → ClassId) (dI : Nat → Nat → Nat) (cB cI cJ cZ : ClassId) (ra : Nat → Nat) (sz : Nat) (M : kD)  (r : kD) (hf : f_X12_next  M = some r) : Met l yX12_next wsX12_next rm_X12_next (va_Pc [.ref (ra 0)] (mPw dC dI cB cI cJ cZ ra sz M)) (mQv dC dI cB cI cJ cZ ra sz r) 0 0 (mA ra sz) := by
  refine Met.ofW (cc := cX12_next) (maxL := 4) (ret := none) (by decide) rfl ?_
  intro p e s m args below meth c s₁ B hml hv
  obtain ⟨hav, hsz, hP, hK, hD0⟩ := hv
  have hx := B.exec
  have hb := B.bytes
  have hr := B.returns
  have hts := atoms_spec (ws := wsX12_next) B.pre
  have hown : s.vm.findClass RX12 = some m.cls := findClass_of_methodNamed B.named
  have hlocks := B.notSynchronized
  subst hsz
  have hA : ∀ q, s.heap.size ≤ q → mA ra s.heap.size q := fun q h => Or.inr h
  have hD : va_D (mA ra s.heap.size) (mw cB cI cJ cZ ra M) := hD0.weaken (fun k q h _ => mA_in h)
  have hS : va_S (mA ra s.heap.size) s.heap s.heap [] := va_S.rf
  have hin : ∀ w ∈ wsX120, w ∈ wsX12_next := fun w h => List.mem_cons_of_mem _ (List.mem_append_right _ h)
  have k_fieldLink_RX12_148__KeyLettersModel___at___I_ := hts (.fieldLink RX12 148 "KeyLettersModel" "at" "I") (by decide +kernel)
  have k_fieldLink_RX12_151__KeyLettersModel___span___I_ := hts (.fieldLink RX12 151 "KeyLettersModel" "span" "I") (by decide +kernel)
  have k_fieldLink_RX12_154__KeyLettersModel___token___I_ := hts (.fieldLink RX12 154 "KeyLettersModel" "token" "I") (by decide +kernel)
  have k_fieldLink_RX12_164__KeyLettersModel___number___I_ := hts (.fieldLink RX12 164 "KeyLettersModel" "number" "I") (by decide +kernel)
  have k_fieldLink_RX12_167__KeyLettersModel___word___J_ := hts (.fieldLink RX12 167 "KeyLettersModel" "word" "J") (by decide +kernel)
  have k_fieldLink_RX12_18__KeyLettersModel___size___I_ := hts (.fieldLink RX12 18 "KeyLettersModel" "size" "I") (by decide +kernel)
  have k_fieldLink_RX12_21__KeyLettersModel___p___I_ := hts (.fieldLink RX12 21 "KeyLettersModel" "p" "I") (by decide +kernel)
  have k_fieldLink_RX12_24__KeyLettersModel___limit___I_ := hts (.fieldLink RX12 24 "KeyLettersModel" "limit" "I") (by decide +kernel)
  have hl := lv_entry ([.ref (ra 0)]) (n := 4) (Nat.le_of_ble_eq_true rfl)
  rw [show entryFrame m args 4 = entryFrame m ([.ref (ra 0)] : List Value).toArray 4 from by rw [hav], lg_entry_eq]
  generalize (lg_sl ([.ref (ra 0)]) ++ List.replicate (4 - (lg_sl ([.ref (ra 0)])).length) Slot.unset).toArray = ls at hl ⊢
  have hl : lv_has ls 4 [(0, .ref (ra 0))] := hl
  unfold f_X12_next at hf
  have h_31 : ∀ (M_31 : kD) (ls : Array Slot) (H : Heap) (locs : List Loc), lv_has ls 4 [(0, .ref (ra 0))] → va_P (dC, dI) vwCl (mw cB cI cJ cZ ra M_31) H → va_D (mA ra s.heap.size) (mw cB cI cJ cZ ra M_31) → va_S (mA ra s.heap.size) s.heap H locs → g_X12_next_31  M_31 = some r → W p l e (headSpec wsX12_next rm_X12_next).room s m args below meth c H locs 0 0 (MQ below (mQv dC dI cB cI cJ cZ ra s.heap.size r) args s 0 0 (mA ra s.heap.size)) (F0 m 31 ls []) := by
    intro  M_31 ls H locs hl hP hD hS hf
    unfold g_X12_next_31 at hf
    have h_80 : ∀ (M_80 : kD) (ls : Array Slot) (H : Heap) (locs : List Loc), lv_has ls 4 [(0, .ref (ra 0))] → va_P (dC, dI) vwCl (mw cB cI cJ cZ ra M_80) H → va_D (mA ra s.heap.size) (mw cB cI cJ cZ ra M_80) → va_S (mA ra s.heap.size) s.heap H locs → g_X12_next_80  M_80 = some r → W p l e (headSpec wsX12_next rm_X12_next).room s m args below meth c H locs 0 0 (MQ below (mQv dC dI cB cI cJ cZ ra s.heap.size r) args s 0 0 (mA ra s.heap.size)) (F0 m 80 ls []) := by
      intro  M_80 ls H locs hl hP hD hS hf
      unfold g_X12_next_80 at hf
      have h_164 : ∀ (x1_164 : Int32) (M_164 : kD) (ls : Array Slot) (H : Heap) (locs : List Loc), lv_has ls 4 [(0, .ref (ra 0)), (1, .int x1_164)] → va_P (dC, dI) vwCl (mw cB cI cJ cZ ra M_164) H → va_D (mA ra s.heap.size) (mw cB cI cJ cZ ra M_164) → va_S (mA ra s.heap.size) s.heap H locs → g_X12_next_164 x1_164 M_164 = some r → W p l e (headSpec wsX12_next rm_X12_next).room s m args below meth c H locs 0 0 (MQ below (mQv dC dI cB cI cJ cZ ra s.heap.size r) args s 0 0 (mA ra s.heap.size)) (F0 m 164 ls []) := by
        intro x1_164 M_164 ls H locs hl hP hD hS hf
        unfold g_X12_next_164 at hf
        have h_298 : ∀ (x2_298 : Int32) (x3_298 : Int32) (M_298 : kD) (ls : Array Slot) (H : Heap) (locs : List Loc), lv_has ls 4 [(0, .ref (ra 0)), (2, .int x2_298), (3, .int x3_298)] → va_P (dC, dI) vwCl (mw cB cI cJ cZ ra M_298) H → va_D (mA ra s.heap.size) (mw cB cI cJ cZ ra M_298) → va_S (mA ra s.heap.size) s.heap H locs → g_X12_next_298 x2_298 x3_298 M_298 = some r → W p l e (headSpec wsX12_next rm_X12_next).room s m args below meth c H locs 0 0 (MQ below (mQv dC dI cB cI cJ cZ ra s.heap.size r) args s 0 0 (mA ra s.heap.size)) (F0 m 298 ls []) := by
          intro x2_298 x3_298 M_298 ls H locs hl hP hD hS hf
          unfold g_X12_next_298 at hf
          have h_317 : ∀ (x2_317 : Int32) (t1_317 : Int32) (t2_317 : Int32) (M_317 : kD) (ls : Array Slot) (H : Heap) (locs : List Loc), lv_has ls 4 [(2, .int x2_317)] → va_P (dC, dI) vwCl (mw cB cI cJ cZ ra M_317) H → va_D (mA ra s.heap.size) (mw cB cI cJ cZ ra M_317) → va_S (mA ra s.heap.size) s.heap H locs → g_X12_next_317 x2_317 t1_317 t2_317 M_317 = some r → W p l e (headSpec wsX12_next rm_X12_next).room s m args below meth c H locs 0 0 (MQ below (mQv dC dI cB cI cJ cZ ra s.heap.size r) args s 0 0 (mA ra s.heap.size)) (F0 m 317 ls [.int t2_317, .int t1_317, .ref (ra 0)]) := by
            intro x2_317 t1_317 t2_317 M_317 ls H locs hl hP hD hS hf
            unfold g_X12_next_317 at hf
            refine lv_icmp_le (tgt := 324) hx hb dX12_next_317 (by decide) (fun hb5 => ?_) (fun hb5 => ?_)
            · have hf := (if_pos hb5).symm.trans hf
              refine lv_iload_n hx hb dX12_next_324 rfl (lv_at hl 0 rfl) ?_
              refine lv_if_eq (tgt := 332) hx hb dX12_next_325 (by decide) (fun hb3 => ?_) (fun hb3 => ?_)
              · have hf := (if_pos hb3).symm.trans hf
                refine lv_iconst (v := 2) hx hb dX12_next_332 (by decide) ?_
                obtain ⟨M1, eM1, hf⟩ := bd1_e hf
                refine km_put hx hb hts hin hown hK hP hD hS 11 (by decide) k_fieldLink_RX12_154__KeyLettersModel___token___I_ rfl (ty := .int) (v := .int (2 : Int32)) (by decide +kernel) rfl rfl (M1 := M1) (by rw [eM1]; exact mo_11 cB cI cJ cZ ra M_317 (2 : Int32)) dX12_next_333 (fun H locs hP hD hS => ?_)
                have hf := Option.some.inj hf
                subst hf
                exact m_vret hx hb hr hlocks hP hK hD hS dX12_next_336
              · have hf := (if_neg hb3).symm.trans hf
                refine lv_iconst (v := 1) hx hb dX12_next_328 (by decide) ?_
                refine lv_goto (tgt := 333) hx hb dX12_next_329 (by decide) ?_
                obtain ⟨M2, eM2, hf⟩ := bd1_e hf
                refine km_put hx hb hts hin hown hK hP hD hS 11 (by decide) k_fieldLink_RX12_154__KeyLettersModel___token___I_ rfl (ty := .int) (v := .int (1 : Int32)) (by decide +kernel) rfl rfl (M1 := M2) (by rw [eM2]; exact mo_11 cB cI cJ cZ ra M_317 (1 : Int32)) dX12_next_333 (fun H locs hP hD hS => ?_)
                have hf := Option.some.inj hf
                subst hf
                exact m_vret hx hb hr hlocks hP hK hD hS dX12_next_336
            · have hf := (if_neg hb5).symm.trans hf
              refine lv_iconst (v := 4) hx hb dX12_next_320 (by decide) ?_
              refine lv_goto (tgt := 333) hx hb dX12_next_321 (by decide) ?_
              obtain ⟨M4, eM4, hf⟩ := bd1_e hf
              refine km_put hx hb hts hin hown hK hP hD hS 11 (by decide) k_fieldLink_RX12_154__KeyLettersModel___token___I_ rfl (ty := .int) (v := .int (4 : Int32)) (by decide +kernel) rfl rfl (M1 := M4) (by rw [eM4]; exact mo_11 cB cI cJ cZ ra M_317 (4 : Int32)) dX12_next_333 (fun H locs hP hD hS => ?_)
              have hf := Option.some.inj hf
              subst hf
              exact m_vret hx hb hr hlocks hP hK hD hS dX12_next_336
          refine lv_aload_n hx hb dX12_next_298 rfl (lv_at hl 0 rfl) ?_
          refine lv_iload_n hx hb dX12_next_299 rfl (lv_at hl 2 rfl) ?_
          refine lv_if_eq (tgt := 320) hx hb dX12_next_300 (by decide) (fun hb8 => ?_) (fun hb8 => ?_)
          · have hf := (if_pos hb8).symm.trans hf
            refine lv_iconst (v := 4) hx hb dX12_next_320 (by decide) ?_
            refine lv_goto (tgt := 333) hx hb dX12_next_321 (by decide) ?_
            obtain ⟨M6, eM6, hf⟩ := bd1_e hf
            refine km_put hx hb hts hin hown hK hP hD hS 11 (by decide) k_fieldLink_RX12_154__KeyLettersModel___token___I_ rfl (ty := .int) (v := .int (4 : Int32)) (by decide +kernel) rfl rfl (M1 := M6) (by rw [eM6]; exact mo_11 cB cI cJ cZ ra M_298 (4 : Int32)) dX12_next_333 (fun H locs hP hD hS => ?_)
            have hf := Option.some.inj hf
            subst hf
            exact m_vret hx hb hr hlocks hP hK hD hS dX12_next_336
          · have hf := (if_neg hb8).symm.trans hf
            refine lv_aload_n hx hb dX12_next_303 rfl (lv_at hl 0 rfl) ?_
            refine km_get hx hb hts hin hown hK hP 13 (by decide) (v := .int (M_298.1 0 13)) k_fieldLink_RX12_151__KeyLettersModel___span___I_ rfl dX12_next_304 ?_
            refine lv_iload_n hx hb dX12_next_307 rfl (lv_at hl 1 rfl) ?_
            refine lv_if_eq (tgt := 316) hx hb dX12_next_308 (by decide) (fun hb7 => ?_) (fun hb7 => ?_)
            · have hf := (if_pos hb7).symm.trans hf
              refine lv_iconst (v := 3) hx hb dX12_next_316 (by decide) ?_
              exact h_317 x2_298 (M_298.1 0 13) (3 : Int32) M_298 ls _ _ (lv_sub hl [1] rfl) hP hD hS hf
            · have hf := (if_neg hb7).symm.trans hf
              refine lv_bipush (v := 7) hx hb dX12_next_311 (by decide) ?_
              refine lv_goto (tgt := 317) hx hb dX12_next_313 (by decide) ?_
              exact h_317 x2_298 (M_298.1 0 13) (7 : Int32) M_298 ls _ _ (lv_sub hl [1] rfl) hP hD hS hf
        have h_181 := lp_ind (z := (fun _ _ _ => none)) (b := (g_X12_next_181)) (fun (rc_181 : Int32 → Int32 → kD → Option kD) => ∀ (x2_181 : Int32) (x3_181 : Int32) (M_181 : kD) (ls : Array Slot) (H : Heap) (locs : List Loc), lv_has ls 4 [(0, .ref (ra 0)), (2, .int x2_181), (3, .int x3_181)] → va_P (dC, dI) vwCl (mw cB cI cJ cZ ra M_181) H → va_D (mA ra s.heap.size) (mw cB cI cJ cZ ra M_181) → va_S (mA ra s.heap.size) s.heap H locs → rc_181 x2_181 x3_181 M_181 = some r → W p l e (headSpec wsX12_next rm_X12_next).room s m args below meth c H locs 0 0 (MQ below (mQv dC dI cB cI cJ cZ ra s.heap.size r) args s 0 0 (mA ra s.heap.size)) (F0 m 181 ls [])) (by
            intro x2_181 x3_181 M_181 ls H locs hl hP hD hS hf
            cases hf) (by
            intro rc_181 ih_181 x2_181 x3_181 M_181 ls H locs hl hP hD hS hf
            unfold g_X12_next_181 at hf
            have h_201 : ∀ (x2_201 : Int32) (x3_201 : Int32) (M_201 : kD) (ls : Array Slot) (H : Heap) (locs : List Loc), lv_has ls 4 [(0, .ref (ra 0)), (2, .int x2_201), (3, .int x3_201)] → va_P (dC, dI) vwCl (mw cB cI cJ cZ ra M_201) H → va_D (mA ra s.heap.size) (mw cB cI cJ cZ ra M_201) → va_S (mA ra s.heap.size) s.heap H locs → g_X12_next_201 rc_181 x2_201 x3_201 M_201 = some r → W p l e (headSpec wsX12_next rm_X12_next).room s m args below meth c H locs 0 0 (MQ below (mQv dC dI cB cI cJ cZ ra s.heap.size r) args s 0 0 (mA ra s.heap.size)) (F0 m 201 ls []) := by
              intro x2_201 x3_201 M_201 ls H locs hl hP hD hS hf
              unfold g_X12_next_201 at hf
              have h_221 : ∀ (x2_221 : Int32) (t0_221 : Int32) (M_221 : kD) (ls : Array Slot) (H : Heap) (locs : List Loc), lv_has ls 4 [(0, .ref (ra 0)), (2, .int x2_221)] → va_P (dC, dI) vwCl (mw cB cI cJ cZ ra M_221) H → va_D (mA ra s.heap.size) (mw cB cI cJ cZ ra M_221) → va_S (mA ra s.heap.size) s.heap H locs → g_X12_next_221 rc_181 x2_221 t0_221 M_221 = some r → W p l e (headSpec wsX12_next rm_X12_next).room s m args below meth c H locs 0 0 (MQ below (mQv dC dI cB cI cJ cZ ra s.heap.size r) args s 0 0 (mA ra s.heap.size)) (F0 m 221 ls [.int t0_221]) := by
                intro x2_221 t0_221 M_221 ls H locs hl hP hD hS hf
                unfold g_X12_next_221 at hf
                have h_248 : ∀ (x2_248 : Int32) (x3_248 : Int32) (M_248 : kD) (ls : Array Slot) (H : Heap) (locs : List Loc), lv_has ls 4 [(0, .ref (ra 0)), (2, .int x2_248), (3, .int x3_248)] → va_P (dC, dI) vwCl (mw cB cI cJ cZ ra M_248) H → va_D (mA ra s.heap.size) (mw cB cI cJ cZ ra M_248) → va_S (mA ra s.heap.size) s.heap H locs → g_X12_next_248 rc_181 x2_248 x3_248 M_248 = some r → W p l e (headSpec wsX12_next rm_X12_next).room s m args below meth c H locs 0 0 (MQ below (mQv dC dI cB cI cJ cZ ra s.heap.size r) args s 0 0 (mA ra s.heap.size)) (F0 m 248 ls []) := by
                  intro x2_248 x3_248 M_248 ls H locs hl hP hD hS hf
                  unfold g_X12_next_248 at hf
                  have h_275 : ∀ (x2_275 : Int32) (x3_275 : Int32) (M_275 : kD) (ls : Array Slot) (H : Heap) (locs : List Loc), lv_has ls 4 [(0, .ref (ra 0)), (2, .int x2_275), (3, .int x3_275)] → va_P (dC, dI) vwCl (mw cB cI cJ cZ ra M_275) H → va_D (mA ra s.heap.size) (mw cB cI cJ cZ ra M_275) → va_S (mA ra s.heap.size) s.heap H locs → g_X12_next_275 rc_181 x2_275 x3_275 M_275 = some r → W p l e (headSpec wsX12_next rm_X12_next).room s m args below meth c H locs 0 0 (MQ below (mQv dC dI cB cI cJ cZ ra s.heap.size r) args s 0 0 (mA ra s.heap.size)) (F0 m 275 ls []) := by
                    intro x2_275 x3_275 M_275 ls H locs hl hP hD hS hf
                    unfold g_X12_next_275 at hf
                    refine lv_aload_n hx hb dX12_next_275 rfl (lv_at hl 0 rfl) ?_
                    refine lv_dup hx hb dX12_next_276 rfl ?_
                    refine km_get hx hb hts hin hown hK hP 13 (by decide) (v := .int (M_275.1 0 13)) k_fieldLink_RX12_151__KeyLettersModel___span___I_ rfl dX12_next_277 ?_
                    refine lv_iconst (v := 1) hx hb dX12_next_280 (by decide) ?_
                    refine lv_iadd hx hb dX12_next_281 ?_
                    obtain ⟨M9, eM9, hf⟩ := bd1_e hf
                    refine km_put hx hb hts hin hown hK hP hD hS 13 (by decide) k_fieldLink_RX12_151__KeyLettersModel___span___I_ rfl (ty := .int) (v := .int ((M_275.1 0 13) + (1 : Int32))) (by decide +kernel) rfl rfl (M1 := M9) (by rw [eM9]; exact mo_13 cB cI cJ cZ ra M_275 ((M_275.1 0 13) + (1 : Int32))) dX12_next_282 (fun H locs hP hD hS => ?_)
                    refine lv_aload_n hx hb dX12_next_285 rfl (lv_at hl 0 rfl) ?_
                    refine lv_dup hx hb dX12_next_286 rfl ?_
                    refine km_get hx hb hts hin hown hK hP 4 (by decide) (v := .int (M9.1 0 4)) k_fieldLink_RX12_21__KeyLettersModel___p___I_ rfl dX12_next_287 ?_
                    refine lv_iconst (v := 1) hx hb dX12_next_290 (by decide) ?_
                    refine lv_iadd hx hb dX12_next_291 ?_
                    obtain ⟨M10, eM10, hf⟩ := bd1_e hf
                    refine km_put hx hb hts hin hown hK hP hD hS 4 (by decide) k_fieldLink_RX12_21__KeyLettersModel___p___I_ rfl (ty := .int) (v := .int ((M9.1 0 4) + (1 : Int32))) (by decide +kernel) rfl rfl (M1 := M10) (by rw [eM10]; exact mo_4 cB cI cJ cZ ra M9 ((M9.1 0 4) + (1 : Int32))) dX12_next_292 (fun H locs hP hD hS => ?_)
                    refine lv_goto (tgt := 181) hx hb dX12_next_295 (by decide) ?_
                    exact ih_181 x2_275 x3_275 M10 ls _ _ hl hP hD hS hf
                  refine lv_aload_n hx hb dX12_next_248 rfl (lv_at hl 0 rfl) ?_
                  refine km_get hx hb hts hin hown hK hP 13 (by decide) (v := .int (M_248.1 0 13)) k_fieldLink_RX12_151__KeyLettersModel___span___I_ rfl dX12_next_249 ?_
                  refine lv_iconst (v := 3) hx hb dX12_next_252 (by decide) ?_
                  refine lv_icmp_ge (tgt := 275) hx hb dX12_next_253 (by decide) (fun hb14 => ?_) (fun hb14 => ?_)
                  · have hf := (if_pos hb14).symm.trans hf
                    exact h_275 x2_248 x3_248 M_248 ls _ _ hl hP hD hS hf
                  · have hf := (if_neg hb14).symm.trans hf
                    refine lv_aload_n hx hb dX12_next_256 rfl (lv_at hl 0 rfl) ?_
                    refine lv_bipush (v := 10) hx hb dX12_next_257 (by decide) ?_
                    refine lv_aload_n hx hb dX12_next_259 rfl (lv_at hl 0 rfl) ?_
                    refine km_get hx hb hts hin hown hK hP 14 (by decide) (v := .int (M_248.1 0 14)) k_fieldLink_RX12_164__KeyLettersModel___number___I_ rfl dX12_next_260 ?_
                    refine lv_imul hx hb dX12_next_263 ?_
                    refine lv_aload_n hx hb dX12_next_264 rfl (lv_at hl 0 rfl) ?_
                    obtain ⟨v11, hq12, hf⟩ := bo_e hf
                    refine ko_call (v := some (.int v11)) (km_run (As := []) (rest := [.int ((10 : Int32) * (M_248.1 0 14)), .ref (ra 0)]) ⟨hx, hb, hml, hown, hts⟩ (c_X12_peek l dC dI cB cI cJ cZ ra M_248  v11 hq12) (cwV 0 hts gX12_next_X12_peek rfl rfl rfl (by decide +kernel) ⟨Nat.le_of_ble_eq_true rfl, Nat.le_of_ble_eq_true rfl⟩) hK hP (fun _ _ _ _ => mPr_bl) (fun U hU hW => ⟨by rw [hU]; exact hP, va_K.moved hW.alike hK⟩) rfl rfl hl.1 rfl (lv_room (Nat.le_of_ble_eq_true rfl)) dX12_next_265 ⟨Nat.le_refl _, Nat.le_refl _⟩) ?_
                    refine lv_iadd hx hb dX12_next_268 ?_
                    refine lv_bipush (v := 48) hx hb dX12_next_269 (by decide) ?_
                    refine lv_isub hx hb dX12_next_271 ?_
                    obtain ⟨M13, eM13, hf⟩ := bd1_e hf
                    refine km_put hx hb hts hin hown hK hP hD hS 14 (by decide) k_fieldLink_RX12_164__KeyLettersModel___number___I_ rfl (ty := .int) (v := .int ((((10 : Int32) * (M_248.1 0 14)) + v11) - (48 : Int32))) (by decide +kernel) rfl rfl (M1 := M13) (by rw [eM13]; exact mo_14 cB cI cJ cZ ra M_248 ((((10 : Int32) * (M_248.1 0 14)) + v11) - (48 : Int32))) dX12_next_272 (fun H locs hP hD hS => ?_)
                    exact h_275 x2_248 x3_248 M13 ls _ _ hl hP hD hS hf
                refine lv_istore_n (nL := 4) (lv' := [(3, .int t0_221), (0, .ref (ra 0)), (2, .int x2_221)]) hx hb dX12_next_221 rfl hl (by decide) rfl (fun ls hl => ?_)
                refine lv_aload_n hx hb dX12_next_222 rfl (lv_at hl 1 rfl) ?_
                refine km_get hx hb hts hin hown hK hP 13 (by decide) (v := .int (M_221.1 0 13)) k_fieldLink_RX12_151__KeyLettersModel___span___I_ rfl dX12_next_223 ?_
                refine lv_bipush (v := 7) hx hb dX12_next_226 (by decide) ?_
                refine lv_icmp_ge (tgt := 248) hx hb dX12_next_228 (by decide) (fun hb18 => ?_) (fun hb18 => ?_)
                · have hf := (if_pos hb18).symm.trans hf
                  exact h_248 x2_221 t0_221 M_221 ls _ _ (lv_sub hl [1, 2, 0] rfl) hP hD hS hf
                · have hf := (if_neg hb18).symm.trans hf
                  refine lv_aload_n hx hb dX12_next_231 rfl (lv_at hl 1 rfl) ?_
                  refine lv_aload_n hx hb dX12_next_232 rfl (lv_at hl 1 rfl) ?_
                  refine km_get hx hb hts hin hown hK hP 17 (by decide) (v := .long (M_221.2 0 17)) k_fieldLink_RX12_167__KeyLettersModel___word___J_ rfl dX12_next_233 ?_
                  refine lv_bipush (v := 8) hx hb dX12_next_236 (by decide) ?_
                  refine lv_lshl (v := ((M_221.2 0 17) <<< ((8 : Int32).toInt64 &&& 63))) hx hb dX12_next_238 rfl ?_
                  refine lv_aload_n hx hb dX12_next_239 rfl (lv_at hl 1 rfl) ?_
                  obtain ⟨v15, hq16, hf⟩ := bo_e hf
                  refine ko_call (v := some (.int v15)) (km_run (As := []) (rest := [.long ((M_221.2 0 17) <<< ((8 : Int32).toInt64 &&& 63)), .ref (ra 0)]) ⟨hx, hb, hml, hown, hts⟩ (c_X12_peek l dC dI cB cI cJ cZ ra M_221  v15 hq16) (cwV 0 hts gX12_next_X12_peek rfl rfl rfl (by decide +kernel) ⟨Nat.le_of_ble_eq_true rfl, Nat.le_of_ble_eq_true rfl⟩) hK hP (fun _ _ _ _ => mPr_bl) (fun U hU hW => ⟨by rw [hU]; exact hP, va_K.moved hW.alike hK⟩) rfl rfl hl.1 rfl (lv_room (Nat.le_of_ble_eq_true rfl)) dX12_next_240 ⟨Nat.le_refl _, Nat.le_refl _⟩) ?_
                  refine lv_i2l (v := v15.toInt64) hx hb dX12_next_243 rfl ?_
                  refine lv_lor hx hb dX12_next_244 ?_
                  obtain ⟨M17, eM17, hf⟩ := bd1_e hf
                  refine km_put hx hb hts hin hown hK hP hD hS 17 (by decide) k_fieldLink_RX12_167__KeyLettersModel___word___J_ rfl (ty := .long) (v := .long (((M_221.2 0 17) <<< ((8 : Int32).toInt64 &&& 63)) ||| v15.toInt64)) (by decide +kernel) rfl rfl (M1 := M17) (by rw [eM17]; exact mo_17 cB cI cJ cZ ra M_221 (((M_221.2 0 17) <<< ((8 : Int32).toInt64 &&& 63)) ||| v15.toInt64)) dX12_next_245 (fun H locs hP hD hS => ?_)
                  exact h_248 x2_221 t0_221 M17 ls _ _ (lv_sub hl [1, 2, 0] rfl) hP hD hS hf
              have h_220 : ∀ (x2_220 : Int32) (M_220 : kD) (ls : Array Slot) (H : Heap) (locs : List Loc), lv_has ls 4 [(0, .ref (ra 0)), (2, .int x2_220)] → va_P (dC, dI) vwCl (mw cB cI cJ cZ ra M_220) H → va_D (mA ra s.heap.size) (mw cB cI cJ cZ ra M_220) → va_S (mA ra s.heap.size) s.heap H locs → g_X12_next_220 rc_181 x2_220 M_220 = some r → W p l e (headSpec wsX12_next rm_X12_next).room s m args below meth c H locs 0 0 (MQ below (mQv dC dI cB cI cJ cZ ra s.heap.size r) args s 0 0 (mA ra s.heap.size)) (F0 m 220 ls []) := by
                intro x2_220 M_220 ls H locs hl hP hD hS hf
                unfold g_X12_next_220 at hf
                refine lv_iconst (v := 0) hx hb dX12_next_220 (by decide) ?_
                exact h_221 x2_220 (0 : Int32) M_220 ls _ _ hl hP hD hS hf
              refine lv_iload_n hx hb dX12_next_201 rfl (lv_at hl 2 rfl) ?_
              refine lv_if_eq (tgt := 220) hx hb dX12_next_202 (by decide) (fun hb22 => ?_) (fun hb22 => ?_)
              · have hf := (if_pos hb22).symm.trans hf
                exact h_220 x2_201 M_201 ls _ _ (lv_sub hl [0, 1] rfl) hP hD hS hf
              · have hf := (if_neg hb22).symm.trans hf
                refine lv_aload_n hx hb dX12_next_205 rfl (lv_at hl 0 rfl) ?_
                obtain ⟨v19, hq20, hf⟩ := bo_e hf
                refine ko_call (v := some (.int v19)) (km_run (As := []) (rest := []) ⟨hx, hb, hml, hown, hts⟩ (c_X12_peek l dC dI cB cI cJ cZ ra M_201  v19 hq20) (cwV 0 hts gX12_next_X12_peek rfl rfl rfl (by decide +kernel) ⟨Nat.le_of_ble_eq_true rfl, Nat.le_of_ble_eq_true rfl⟩) hK hP (fun _ _ _ _ => mPr_bl) (fun U hU hW => ⟨by rw [hU]; exact hP, va_K.moved hW.alike hK⟩) rfl rfl hl.1 rfl (lv_room (Nat.le_of_ble_eq_true rfl)) dX12_next_206 ⟨Nat.le_refl _, Nat.le_refl _⟩) ?_
                refine ko_call (v := some (.int (f_X12_isSmall v19))) (va_runS (As := [.int v19]) (rest := []) ⟨hx, hb, hml, hown, hts⟩ (c_X12_isSmall l v19 _ rfl) (va_cwS 1 hts gX12_next_X12_isSmall rfl rfl rfl (by decide +kernel) ⟨Nat.le_of_ble_eq_true rfl, Nat.le_of_ble_eq_true rfl⟩) ⟨fun a U g mk q => q, fun U hU hW => ⟨rfl, trivial⟩⟩ rfl rfl hl.1 rfl (lv_room (Nat.le_of_ble_eq_true rfl)) dX12_next_209 ⟨Nat.le_refl _, Nat.le_refl _⟩) ?_
                refine lv_iload_n hx hb dX12_next_212 rfl (lv_at hl 1 rfl) ?_
                refine lv_icmp_ne (tgt := 220) hx hb dX12_next_213 (by decide) (fun hb21 => ?_) (fun hb21 => ?_)
                · have hf := (if_neg hb21).symm.trans hf
                  exact h_220 x2_201 M_201 ls _ _ (lv_sub hl [0, 1] rfl) hP hD hS hf
                · have hf := (if_pos hb21).symm.trans hf
                  refine lv_iconst (v := 1) hx hb dX12_next_216 (by decide) ?_
                  refine lv_goto (tgt := 221) hx hb dX12_next_217 (by decide) ?_
                  exact h_221 x2_201 (1 : Int32) M_201 ls _ _ (lv_sub hl [0, 1] rfl) hP hD hS hf
            refine lv_aload_n hx hb dX12_next_181 rfl (lv_at hl 0 rfl) ?_
            obtain ⟨v23, hq24, hf⟩ := bo_e hf
            refine ko_call (v := some (.int v23)) (km_run (As := []) (rest := []) ⟨hx, hb, hml, hown, hts⟩ (c_X12_peek l dC dI cB cI cJ cZ ra M_181  v23 hq24) (cwV 0 hts gX12_next_X12_peek rfl rfl rfl (by decide +kernel) ⟨Nat.le_of_ble_eq_true rfl, Nat.le_of_ble_eq_true rfl⟩) hK hP (fun _ _ _ _ => mPr_bl) (fun U hU hW => ⟨by rw [hU]; exact hP, va_K.moved hW.alike hK⟩) rfl rfl hl.1 rfl (lv_room (Nat.le_of_ble_eq_true rfl)) dX12_next_182 ⟨Nat.le_refl _, Nat.le_refl _⟩) ?_
            refine ko_call (v := some (.int (f_X12_isSmall v23))) (va_runS (As := [.int v23]) (rest := []) ⟨hx, hb, hml, hown, hts⟩ (c_X12_isSmall l v23 _ rfl) (va_cwS 1 hts gX12_next_X12_isSmall rfl rfl rfl (by decide +kernel) ⟨Nat.le_of_ble_eq_true rfl, Nat.le_of_ble_eq_true rfl⟩) ⟨fun a U g mk q => q, fun U hU hW => ⟨rfl, trivial⟩⟩ rfl rfl hl.1 rfl (lv_room (Nat.le_of_ble_eq_true rfl)) dX12_next_185 ⟨Nat.le_refl _, Nat.le_refl _⟩) ?_
            refine lv_if_ne (tgt := 201) hx hb dX12_next_188 (by decide) (fun hb28 => ?_) (fun hb28 => ?_)
            · have hf := (if_neg hb28).symm.trans hf
              exact h_201 x2_181 x3_181 M_181 ls _ _ hl hP hD hS hf
            · have hf := (if_pos hb28).symm.trans hf
              refine lv_aload_n hx hb dX12_next_191 rfl (lv_at hl 0 rfl) ?_
              obtain ⟨v25, hq26, hf⟩ := bo_e hf
              refine ko_call (v := some (.int v25)) (km_run (As := []) (rest := []) ⟨hx, hb, hml, hown, hts⟩ (c_X12_peek l dC dI cB cI cJ cZ ra M_181  v25 hq26) (cwV 0 hts gX12_next_X12_peek rfl rfl rfl (by decide +kernel) ⟨Nat.le_of_ble_eq_true rfl, Nat.le_of_ble_eq_true rfl⟩) hK hP (fun _ _ _ _ => mPr_bl) (fun U hU hW => ⟨by rw [hU]; exact hP, va_K.moved hW.alike hK⟩) rfl rfl hl.1 rfl (lv_room (Nat.le_of_ble_eq_true rfl)) dX12_next_192 ⟨Nat.le_refl _, Nat.le_refl _⟩) ?_
              refine ko_call (v := some (.int (f_X12_isDigit v25))) (va_runS (As := [.int v25]) (rest := []) ⟨hx, hb, hml, hown, hts⟩ (c_X12_isDigit l v25 _ rfl) (va_cwS 1 hts gX12_next_X12_isDigit rfl rfl rfl (by decide +kernel) ⟨Nat.le_of_ble_eq_true rfl, Nat.le_of_ble_eq_true rfl⟩) ⟨fun a U g mk q => q, fun U hU hW => ⟨rfl, trivial⟩⟩ rfl rfl hl.1 rfl (lv_room (Nat.le_of_ble_eq_true rfl)) dX12_next_195 ⟨Nat.le_refl _, Nat.le_refl _⟩) ?_
              refine lv_if_eq (tgt := 298) hx hb dX12_next_198 (by decide) (fun hb27 => ?_) (fun hb27 => ?_)
              · have hf := (if_pos hb27).symm.trans hf
                exact h_298 x2_181 x3_181 M_181 ls _ _ hl hP hD hS hf
              · have hf := (if_neg hb27).symm.trans hf
                exact h_201 x2_181 x3_181 M_181 ls _ _ hl hP hD hS hf) 2000
        refine lv_iload_n hx hb dX12_next_164 rfl (lv_at hl 1 rfl) ?_
        refine ko_call (v := some (.int (f_X12_isSmall x1_164))) (va_runS (As := [.int x1_164]) (rest := []) ⟨hx, hb, hml, hown, hts⟩ (c_X12_isSmall l x1_164 _ rfl) (va_cwS 1 hts gX12_next_X12_isSmall rfl rfl rfl (by decide +kernel) ⟨Nat.le_of_ble_eq_true rfl, Nat.le_of_ble_eq_true rfl⟩) ⟨fun a U g mk q => q, fun U hU hW => ⟨rfl, trivial⟩⟩ rfl rfl hl.1 rfl (lv_room (Nat.le_of_ble_eq_true rfl)) dX12_next_165 ⟨Nat.le_refl _, Nat.le_refl _⟩) ?_
        obtain ⟨v29, ev29, hf⟩ := bd1_e hf
        refine kt_i ev29 ?_
        refine lv_istore_n (nL := 4) (lv' := [(2, .int v29), (0, .ref (ra 0)), (1, .int x1_164)]) hx hb dX12_next_168 rfl hl (by decide) rfl (fun ls hl => ?_)
        refine lv_iconst (v := 1) hx hb dX12_next_169 (by decide) ?_
        refine lv_istore_n (nL := 4) (lv' := [(3, .int (1 : Int32)), (2, .int v29), (0, .ref (ra 0)), (1, .int x1_164)]) hx hb dX12_next_170 rfl hl (by decide) rfl (fun ls hl => ?_)
        refine lv_aload_n hx hb dX12_next_171 rfl (lv_at hl 2 rfl) ?_
        refine lv_lconst (v := 0) hx hb dX12_next_172 (by decide) ?_
        obtain ⟨M30, eM30, hf⟩ := bd1_e hf
        refine km_put hx hb hts hin hown hK hP hD hS 17 (by decide) k_fieldLink_RX12_167__KeyLettersModel___word___J_ rfl (ty := .long) (v := .long (0 : Int64)) (by decide +kernel) rfl rfl (M1 := M30) (by rw [eM30]; exact mo_17 cB cI cJ cZ ra M_164 (0 : Int64)) dX12_next_173 (fun H locs hP hD hS => ?_)
        refine lv_aload_n hx hb dX12_next_176 rfl (lv_at hl 2 rfl) ?_
        refine lv_iconst (v := 0) hx hb dX12_next_177 (by decide) ?_
        obtain ⟨M31, eM31, hf⟩ := bd1_e hf
        refine km_put hx hb hts hin hown hK hP hD hS 14 (by decide) k_fieldLink_RX12_164__KeyLettersModel___number___I_ rfl (ty := .int) (v := .int (0 : Int32)) (by decide +kernel) rfl rfl (M1 := M31) (by rw [eM31]; exact mo_14 cB cI cJ cZ ra M30 (0 : Int32)) dX12_next_178 (fun H locs hP hD hS => ?_)
        exact h_181 v29 (1 : Int32) M31 ls _ _ (lv_sub hl [2, 1, 0] rfl) hP hD hS hf
      have h_145 : ∀ (x1_145 : Int32) (t1_145 : Int32) (M_145 : kD) (ls : Array Slot) (H : Heap) (locs : List Loc), lv_has ls 4 [(0, .ref (ra 0)), (1, .int x1_145)] → va_P (dC, dI) vwCl (mw cB cI cJ cZ ra M_145) H → va_D (mA ra s.heap.size) (mw cB cI cJ cZ ra M_145) → va_S (mA ra s.heap.size) s.heap H locs → g_X12_next_145 x1_145 t1_145 M_145 = some r → W p l e (headSpec wsX12_next rm_X12_next).room s m args below meth c H locs 0 0 (MQ below (mQv dC dI cB cI cJ cZ ra s.heap.size r) args s 0 0 (mA ra s.heap.size)) (F0 m 145 ls [.int t1_145, .ref (ra 0)]) := by
        intro x1_145 t1_145 M_145 ls H locs hl hP hD hS hf
        unfold g_X12_next_145 at hf
        obtain ⟨M32, eM32, hf⟩ := bd1_e hf
        refine km_put hx hb hts hin hown hK hP hD hS 11 (by decide) k_fieldLink_RX12_154__KeyLettersModel___token___I_ rfl (ty := .int) (v := .int t1_145) (by decide +kernel) rfl rfl (M1 := M32) (by rw [eM32]; exact mo_11 cB cI cJ cZ ra M_145 t1_145) dX12_next_145 (fun H locs hP hD hS => ?_)
        refine lv_aload_n hx hb dX12_next_148 rfl (lv_at hl 0 rfl) ?_
        refine lv_iload_n hx hb dX12_next_149 rfl (lv_at hl 1 rfl) ?_
        obtain ⟨M33, eM33, hf⟩ := bd1_e hf
        refine km_put hx hb hts hin hown hK hP hD hS 14 (by decide) k_fieldLink_RX12_164__KeyLettersModel___number___I_ rfl (ty := .int) (v := .int x1_145) (by decide +kernel) rfl rfl (M1 := M33) (by rw [eM33]; exact mo_14 cB cI cJ cZ ra M32 x1_145) dX12_next_150 (fun H locs hP hD hS => ?_)
        refine lv_aload_n hx hb dX12_next_153 rfl (lv_at hl 0 rfl) ?_
        refine lv_dup hx hb dX12_next_154 rfl ?_
        refine km_get hx hb hts hin hown hK hP 4 (by decide) (v := .int (M33.1 0 4)) k_fieldLink_RX12_21__KeyLettersModel___p___I_ rfl dX12_next_155 ?_
        refine lv_iconst (v := 1) hx hb dX12_next_158 (by decide) ?_
        refine lv_iadd hx hb dX12_next_159 ?_
        obtain ⟨M34, eM34, hf⟩ := bd1_e hf
        refine km_put hx hb hts hin hown hK hP hD hS 4 (by decide) k_fieldLink_RX12_21__KeyLettersModel___p___I_ rfl (ty := .int) (v := .int ((M33.1 0 4) + (1 : Int32))) (by decide +kernel) rfl rfl (M1 := M34) (by rw [eM34]; exact mo_4 cB cI cJ cZ ra M33 ((M33.1 0 4) + (1 : Int32))) dX12_next_160 (fun H locs hP hD hS => ?_)
        have hf := Option.some.inj hf
        subst hf
        exact m_vret hx hb hr hlocks hP hK hD hS dX12_next_163
      have h_140 : ∀ (x1_140 : Int32) (M_140 : kD) (ls : Array Slot) (H : Heap) (locs : List Loc), lv_has ls 4 [(0, .ref (ra 0)), (1, .int x1_140)] → va_P (dC, dI) vwCl (mw cB cI cJ cZ ra M_140) H → va_D (mA ra s.heap.size) (mw cB cI cJ cZ ra M_140) → va_S (mA ra s.heap.size) s.heap H locs → g_X12_next_140 x1_140 M_140 = some r → W p l e (headSpec wsX12_next rm_X12_next).room s m args below meth c H locs 0 0 (MQ below (mQv dC dI cB cI cJ cZ ra s.heap.size r) args s 0 0 (mA ra s.heap.size)) (F0 m 140 ls [.ref (ra 0)]) := by
        intro x1_140 M_140 ls H locs hl hP hD hS hf
        unfold g_X12_next_140 at hf
        refine lv_iconst (v := 3) hx hb dX12_next_140 (by decide) ?_
        refine lv_goto (tgt := 145) hx hb dX12_next_141 (by decide) ?_
        exact h_145 x1_140 (3 : Int32) M_140 ls _ _ hl hP hD hS hf
      have h_144 : ∀ (x1_144 : Int32) (M_144 : kD) (ls : Array Slot) (H : Heap) (locs : List Loc), lv_has ls 4 [(0, .ref (ra 0)), (1, .int x1_144)] → va_P (dC, dI) vwCl (mw cB cI cJ cZ ra M_144) H → va_D (mA ra s.heap.size) (mw cB cI cJ cZ ra M_144) → va_S (mA ra s.heap.size) s.heap H locs → g_X12_next_144 x1_144 M_144 = some r → W p l e (headSpec wsX12_next rm_X12_next).room s m args below meth c H locs 0 0 (MQ below (mQv dC dI cB cI cJ cZ ra s.heap.size r) args s 0 0 (mA ra s.heap.size)) (F0 m 144 ls [.ref (ra 0)]) := by
        intro x1_144 M_144 ls H locs hl hP hD hS hf
        unfold g_X12_next_144 at hf
        refine lv_iconst (v := 4) hx hb dX12_next_144 (by decide) ?_
        exact h_145 x1_144 (4 : Int32) M_144 ls _ _ hl hP hD hS hf
      refine lv_aload_n hx hb dX12_next_80 rfl (lv_at hl 0 rfl) ?_
      obtain ⟨v35, hq36, hf⟩ := bo_e hf
      refine ko_call (v := some (.int v35)) (km_run (As := []) (rest := []) ⟨hx, hb, hml, hown, hts⟩ (c_X12_peek l dC dI cB cI cJ cZ ra M_80  v35 hq36) (cwV 0 hts gX12_next_X12_peek rfl rfl rfl (by decide +kernel) ⟨Nat.le_of_ble_eq_true rfl, Nat.le_of_ble_eq_true rfl⟩) hK hP (fun _ _ _ _ => mPr_bl) (fun U hU hW => ⟨by rw [hU]; exact hP, va_K.moved hW.alike hK⟩) rfl rfl hl.1 rfl (lv_room (Nat.le_of_ble_eq_true rfl)) dX12_next_81 ⟨Nat.le_refl _, Nat.le_refl _⟩) ?_
      refine lv_istore_n (nL := 4) (lv' := [(1, .int v35), (0, .ref (ra 0))]) hx hb dX12_next_84 rfl hl (by decide) rfl (fun ls hl => ?_)
      refine lv_iload_n hx hb dX12_next_85 rfl (lv_at hl 0 rfl) ?_
      refine lv_if_ge (tgt := 95) hx hb dX12_next_86 (by decide) (fun hb45 => ?_) (fun hb45 => ?_)
      · have hf := (if_pos hb45).symm.trans hf
        refine lv_iload_n hx hb dX12_next_95 rfl (lv_at hl 0 rfl) ?_
        refine ko_call (v := some (.int (f_X12_isSmall v35))) (va_runS (As := [.int v35]) (rest := []) ⟨hx, hb, hml, hown, hts⟩ (c_X12_isSmall l v35 _ rfl) (va_cwS 1 hts gX12_next_X12_isSmall rfl rfl rfl (by decide +kernel) ⟨Nat.le_of_ble_eq_true rfl, Nat.le_of_ble_eq_true rfl⟩) ⟨fun a U g mk q => q, fun U hU hW => ⟨rfl, trivial⟩⟩ rfl rfl hl.1 rfl (lv_room (Nat.le_of_ble_eq_true rfl)) dX12_next_96 ⟨Nat.le_refl _, Nat.le_refl _⟩) ?_
        refine lv_if_ne (tgt := 164) hx hb dX12_next_99 (by decide) (fun hb43 => ?_) (fun hb43 => ?_)
        · have hf := (if_neg hb43).symm.trans hf
          exact h_164 v35 M_80 ls _ _ (lv_sub hl [1, 0] rfl) hP hD hS hf
        · have hf := (if_pos hb43).symm.trans hf
          refine lv_iload_n hx hb dX12_next_102 rfl (lv_at hl 0 rfl) ?_
          refine ko_call (v := some (.int (f_X12_isDigit v35))) (va_runS (As := [.int v35]) (rest := []) ⟨hx, hb, hml, hown, hts⟩ (c_X12_isDigit l v35 _ rfl) (va_cwS 1 hts gX12_next_X12_isDigit rfl rfl rfl (by decide +kernel) ⟨Nat.le_of_ble_eq_true rfl, Nat.le_of_ble_eq_true rfl⟩) ⟨fun a U g mk q => q, fun U hU hW => ⟨rfl, trivial⟩⟩ rfl rfl hl.1 rfl (lv_room (Nat.le_of_ble_eq_true rfl)) dX12_next_103 ⟨Nat.le_refl _, Nat.le_refl _⟩) ?_
          refine lv_if_ne (tgt := 164) hx hb dX12_next_106 (by decide) (fun hb42 => ?_) (fun hb42 => ?_)
          · have hf := (if_neg hb42).symm.trans hf
            exact h_164 v35 M_80 ls _ _ (lv_sub hl [1, 0] rfl) hP hD hS hf
          · have hf := (if_pos hb42).symm.trans hf
            refine lv_aload_n hx hb dX12_next_109 rfl (lv_at hl 1 rfl) ?_
            refine lv_iload_n hx hb dX12_next_110 rfl (lv_at hl 0 rfl) ?_
            refine lv_bipush (v := 59) hx hb dX12_next_111 (by decide) ?_
            refine lv_icmp_eq (tgt := 140) hx hb dX12_next_113 (by decide) (fun hb41 => ?_) (fun hb41 => ?_)
            · have hf := (if_pos hb41).symm.trans hf
              exact h_140 v35 M_80 ls _ _ (lv_sub hl [1, 0] rfl) hP hD hS hf
            · have hf := (if_neg hb41).symm.trans hf
              refine lv_iload_n hx hb dX12_next_116 rfl (lv_at hl 0 rfl) ?_
              refine lv_bipush (v := 40) hx hb dX12_next_117 (by decide) ?_
              refine lv_icmp_eq (tgt := 140) hx hb dX12_next_119 (by decide) (fun hb40 => ?_) (fun hb40 => ?_)
              · have hf := (if_pos hb40).symm.trans hf
                exact h_140 v35 M_80 ls _ _ (lv_sub hl [1, 0] rfl) hP hD hS hf
              · have hf := (if_neg hb40).symm.trans hf
                refine lv_iload_n hx hb dX12_next_122 rfl (lv_at hl 0 rfl) ?_
                refine lv_bipush (v := 41) hx hb dX12_next_123 (by decide) ?_
                refine lv_icmp_eq (tgt := 140) hx hb dX12_next_125 (by decide) (fun hb39 => ?_) (fun hb39 => ?_)
                · have hf := (if_pos hb39).symm.trans hf
                  exact h_140 v35 M_80 ls _ _ (lv_sub hl [1, 0] rfl) hP hD hS hf
                · have hf := (if_neg hb39).symm.trans hf
                  refine lv_iload_n hx hb dX12_next_128 rfl (lv_at hl 0 rfl) ?_
                  refine lv_bipush (v := 60) hx hb dX12_next_129 (by decide) ?_
                  refine lv_icmp_lt (tgt := 144) hx hb dX12_next_131 (by decide) (fun hb38 => ?_) (fun hb38 => ?_)
                  · have hf := (if_pos hb38).symm.trans hf
                    exact h_144 v35 M_80 ls _ _ (lv_sub hl [1, 0] rfl) hP hD hS hf
                  · have hf := (if_neg hb38).symm.trans hf
                    refine lv_iload_n hx hb dX12_next_134 rfl (lv_at hl 0 rfl) ?_
                    refine lv_bipush (v := 62) hx hb dX12_next_135 (by decide) ?_
                    refine lv_icmp_gt (tgt := 144) hx hb dX12_next_137 (by decide) (fun hb37 => ?_) (fun hb37 => ?_)
                    · have hf := (if_pos hb37).symm.trans hf
                      exact h_144 v35 M_80 ls _ _ (lv_sub hl [1, 0] rfl) hP hD hS hf
                    · have hf := (if_neg hb37).symm.trans hf
                      exact h_140 v35 M_80 ls _ _ (lv_sub hl [1, 0] rfl) hP hD hS hf
      · have hf := (if_neg hb45).symm.trans hf
        refine lv_aload_n hx hb dX12_next_89 rfl (lv_at hl 1 rfl) ?_
        refine lv_iconst (v := 0) hx hb dX12_next_90 (by decide) ?_
        obtain ⟨M44, eM44, hf⟩ := bd1_e hf
        refine km_put hx hb hts hin hown hK hP hD hS 11 (by decide) k_fieldLink_RX12_154__KeyLettersModel___token___I_ rfl (ty := .int) (v := .int (0 : Int32)) (by decide +kernel) rfl rfl (M1 := M44) (by rw [eM44]; exact mo_11 cB cI cJ cZ ra M_80 (0 : Int32)) dX12_next_91 (fun H locs hP hD hS => ?_)
        have hf := Option.some.inj hf
        subst hf
        exact m_vret hx hb hr hlocks hP hK hD hS dX12_next_94
    refine lv_aload_n hx hb dX12_next_31 rfl (lv_at hl 0 rfl) ?_
    refine lv_aload_n hx hb dX12_next_32 rfl (lv_at hl 0 rfl) ?_
    refine km_get hx hb hts hin hown hK hP 4 (by decide) (v := .int (M_31.1 0 4)) k_fieldLink_RX12_21__KeyLettersModel___p___I_ rfl dX12_next_33 ?_
    obtain ⟨M46, eM46, hf⟩ := bd1_e hf
    refine km_put hx hb hts hin hown hK hP hD hS 12 (by decide) k_fieldLink_RX12_148__KeyLettersModel___at___I_ rfl (ty := .int) (v := .int (M_31.1 0 4)) (by decide +kernel) rfl rfl (M1 := M46) (by rw [eM46]; exact mo_12 cB cI cJ cZ ra M_31 (M_31.1 0 4)) dX12_next_36 (fun H locs hP hD hS => ?_)
    refine lv_aload_n hx hb dX12_next_39 rfl (lv_at hl 0 rfl) ?_
    refine lv_iconst (v := 0) hx hb dX12_next_40 (by decide) ?_
    obtain ⟨M47, eM47, hf⟩ := bd1_e hf
    refine km_put hx hb hts hin hown hK hP hD hS 13 (by decide) k_fieldLink_RX12_151__KeyLettersModel___span___I_ rfl (ty := .int) (v := .int (0 : Int32)) (by decide +kernel) rfl rfl (M1 := M47) (by rw [eM47]; exact mo_13 cB cI cJ cZ ra M46 (0 : Int32)) dX12_next_41 (fun H locs hP hD hS => ?_)
    refine lv_aload_n hx hb dX12_next_44 rfl (lv_at hl 0 rfl) ?_
    refine km_get hx hb hts hin hown hK hP 3 (by decide) (v := .int (M47.1 0 3)) k_fieldLink_RX12_18__KeyLettersModel___size___I_ rfl dX12_next_45 ?_
    refine lv_aload_n hx hb dX12_next_48 rfl (lv_at hl 0 rfl) ?_
    refine km_get hx hb hts hin hown hK hP 5 (by decide) (v := .int (M47.1 0 5)) k_fieldLink_RX12_24__KeyLettersModel___limit___I_ rfl dX12_next_49 ?_
    refine lv_icmp_le (tgt := 80) hx hb dX12_next_52 (by decide) (fun hb51 => ?_) (fun hb51 => ?_)
    · have hf := (if_pos hb51).symm.trans hf
      exact h_80  M47 ls _ _ hl hP hD hS hf
    · have hf := (if_neg hb51).symm.trans hf
      refine lv_aload_n hx hb dX12_next_55 rfl (lv_at hl 0 rfl) ?_
      refine km_get hx hb hts hin hown hK hP 4 (by decide) (v := .int (M47.1 0 4)) k_fieldLink_RX12_21__KeyLettersModel___p___I_ rfl dX12_next_56 ?_
      refine lv_aload_n hx hb dX12_next_59 rfl (lv_at hl 0 rfl) ?_
      refine km_get hx hb hts hin hown hK hP 5 (by decide) (v := .int (M47.1 0 5)) k_fieldLink_RX12_24__KeyLettersModel___limit___I_ rfl dX12_next_60 ?_
      refine lv_icmp_lt (tgt := 80) hx hb dX12_next_63 (by decide) (fun hb50 => ?_) (fun hb50 => ?_)
      · have hf := (if_pos hb50).symm.trans hf
        exact h_80  M47 ls _ _ hl hP hD hS hf
      · have hf := (if_neg hb50).symm.trans hf
        refine lv_aload_n hx hb dX12_next_66 rfl (lv_at hl 0 rfl) ?_
        refine lv_aload_n hx hb dX12_next_67 rfl (lv_at hl 0 rfl) ?_
        refine km_get hx hb hts hin hown hK hP 5 (by decide) (v := .int (M47.1 0 5)) k_fieldLink_RX12_24__KeyLettersModel___limit___I_ rfl dX12_next_68 ?_
        obtain ⟨M48, eM48, hf⟩ := bd1_e hf
        refine km_put hx hb hts hin hown hK hP hD hS 12 (by decide) k_fieldLink_RX12_148__KeyLettersModel___at___I_ rfl (ty := .int) (v := .int (M47.1 0 5)) (by decide +kernel) rfl rfl (M1 := M48) (by rw [eM48]; exact mo_12 cB cI cJ cZ ra M47 (M47.1 0 5)) dX12_next_71 (fun H locs hP hD hS => ?_)
        refine lv_aload_n hx hb dX12_next_74 rfl (lv_at hl 0 rfl) ?_
        refine lv_iconst (v := 4) hx hb dX12_next_75 (by decide) ?_
        obtain ⟨M49, eM49, hf⟩ := bd1_e hf
        refine km_put hx hb hts hin hown hK hP hD hS 11 (by decide) k_fieldLink_RX12_154__KeyLettersModel___token___I_ rfl (ty := .int) (v := .int (4 : Int32)) (by decide +kernel) rfl rfl (M1 := M49) (by rw [eM49]; exact mo_11 cB cI cJ cZ ra M48 (4 : Int32)) dX12_next_76 (fun H locs hP hD hS => ?_)
        have hf := Option.some.inj hf
        subst hf
        exact m_vret hx hb hr hlocks hP hK hD hS dX12_next_79
  have h_0 := lp_ind (z := (fun _ => none)) (b := (g_X12_next_0)) (fun (rc_0 : kD → Option kD) => ∀ (M_0 : kD) (ls : Array Slot) (H : Heap) (locs : List Loc), lv_has ls 4 [(0, .ref (ra 0))] → va_P (dC, dI) vwCl (mw cB cI cJ cZ ra M_0) H → va_D (mA ra s.heap.size) (mw cB cI cJ cZ ra M_0) → va_S (mA ra s.heap.size) s.heap H locs → rc_0  M_0 = some r → W p l e (headSpec wsX12_next rm_X12_next).room s m args below meth c H locs 0 0 (MQ below (mQv dC dI cB cI cJ cZ ra s.heap.size r) args s 0 0 (mA ra s.heap.size)) (F0 m 0 ls [])) (by
      intro  M_0 ls H locs hl hP hD hS hf
      cases hf) (by
      intro rc_0 ih_0  M_0 ls H locs hl hP hD hS hf
      unfold g_X12_next_0 at hf
      have h_18 : ∀ (M_18 : kD) (ls : Array Slot) (H : Heap) (locs : List Loc), lv_has ls 4 [(0, .ref (ra 0))] → va_P (dC, dI) vwCl (mw cB cI cJ cZ ra M_18) H → va_D (mA ra s.heap.size) (mw cB cI cJ cZ ra M_18) → va_S (mA ra s.heap.size) s.heap H locs → g_X12_next_18 rc_0  M_18 = some r → W p l e (headSpec wsX12_next rm_X12_next).room s m args below meth c H locs 0 0 (MQ below (mQv dC dI cB cI cJ cZ ra s.heap.size r) args s 0 0 (mA ra s.heap.size)) (F0 m 18 ls []) := by
        intro  M_18 ls H locs hl hP hD hS hf
        unfold g_X12_next_18 at hf
        refine lv_aload_n hx hb dX12_next_18 rfl (lv_at hl 0 rfl) ?_
        refine lv_dup hx hb dX12_next_19 rfl ?_
        refine km_get hx hb hts hin hown hK hP 4 (by decide) (v := .int (M_18.1 0 4)) k_fieldLink_RX12_21__KeyLettersModel___p___I_ rfl dX12_next_20 ?_
        refine lv_iconst (v := 1) hx hb dX12_next_23 (by decide) ?_
        refine lv_iadd hx hb dX12_next_24 ?_
        obtain ⟨M52, eM52, hf⟩ := bd1_e hf
        refine km_put hx hb hts hin hown hK hP hD hS 4 (by decide) k_fieldLink_RX12_21__KeyLettersModel___p___I_ rfl (ty := .int) (v := .int ((M_18.1 0 4) + (1 : Int32))) (by decide +kernel) rfl rfl (M1 := M52) (by rw [eM52]; exact mo_4 cB cI cJ cZ ra M_18 ((M_18.1 0 4) + (1 : Int32))) dX12_next_25 (fun H locs hP hD hS => ?_)
        refine lv_goto (tgt := 0) hx hb dX12_next_28 (by decide) ?_
        exact ih_0  M52 ls _ _ hl hP hD hS hf
      refine lv_aload_n hx hb dX12_next_0 rfl (lv_at hl 0 rfl) ?_
      obtain ⟨v53, hq54, hf⟩ := bo_e hf
      refine ko_call (v := some (.int v53)) (km_run (As := []) (rest := []) ⟨hx, hb, hml, hown, hts⟩ (c_X12_peek l dC dI cB cI cJ cZ ra M_0  v53 hq54) (cwV 0 hts gX12_next_X12_peek rfl rfl rfl (by decide +kernel) ⟨Nat.le_of_ble_eq_true rfl, Nat.le_of_ble_eq_true rfl⟩) hK hP (fun _ _ _ _ => mPr_bl) (fun U hU hW => ⟨by rw [hU]; exact hP, va_K.moved hW.alike hK⟩) rfl rfl hl.1 rfl (lv_room (Nat.le_of_ble_eq_true rfl)) dX12_next_1 ⟨Nat.le_refl _, Nat.le_refl _⟩) ?_
      refine lv_bipush (v := 32) hx hb dX12_next_4 (by decide) ?_
      refine lv_icmp_eq (tgt := 18) hx hb dX12_next_6 (by decide) (fun hb58 => ?_) (fun hb58 => ?_)
      · have hf := (if_pos hb58).symm.trans hf
        exact h_18  M_0 ls _ _ hl hP hD hS hf
      · have hf := (if_neg hb58).symm.trans hf
        refine lv_aload_n hx hb dX12_next_9 rfl (lv_at hl 0 rfl) ?_
        obtain ⟨v55, hq56, hf⟩ := bo_e hf
        refine ko_call (v := some (.int v55)) (km_run (As := []) (rest := []) ⟨hx, hb, hml, hown, hts⟩ (c_X12_peek l dC dI cB cI cJ cZ ra M_0  v55 hq56) (cwV 0 hts gX12_next_X12_peek rfl rfl rfl (by decide +kernel) ⟨Nat.le_of_ble_eq_true rfl, Nat.le_of_ble_eq_true rfl⟩) hK hP (fun _ _ _ _ => mPr_bl) (fun U hU hW => ⟨by rw [hU]; exact hP, va_K.moved hW.alike hK⟩) rfl rfl hl.1 rfl (lv_room (Nat.le_of_ble_eq_true rfl)) dX12_next_10 ⟨Nat.le_refl _, Nat.le_refl _⟩) ?_
        refine lv_bipush (v := 10) hx hb dX12_next_13 (by decide) ?_
        refine lv_icmp_ne (tgt := 31) hx hb dX12_next_15 (by decide) (fun hb57 => ?_) (fun hb57 => ?_)
        · have hf := (if_neg hb57).symm.trans hf
          exact h_31  M_0 ls _ _ hl hP hD hS hf
        · have hf := (if_pos hb57).symm.trans hf
          exact h_18  M_0 ls _ _ hl hP hD hS hf) 2000
  exact h_0  M ls _ _ hl hP hD hS hf

abbrev rm_X12_bad : Room := { frames := 0, cells := 0, slots := 0, locals := 0 }
set_option maxHeartbeats 4000000 in
set_option maxRecDepth 100000 in
theorem c_X12_bad (l : Launch) (dC : Nat → ClassId) (dI : Nat → Nat → Nat) (cB cI cJ cZ : ClassId) (ra : Nat → Nat) (sz : Nat) (M : kD) (a0 : Int32) (r : (Int32 × kD)) (hf : f_X12_bad a0 M = some r) : Met l yX12_bad wsX12_bad rm_X12_bad (va_Pc [.ref (ra 0), .int a0] (mPw dC dI cB cI cJ cZ ra sz M)) (mQi dC dI cB cI cJ cZ ra sz r) 0 0 (mA ra sz) := by
  refine Met.ofW (cc := cX12_bad) (maxL := 2) (ret := (some .boolean)) (by decide) rfl ?_
  intro p e s m args below meth c s₁ B hml hv
  obtain ⟨hav, hsz, hP, hK, hD0⟩ := hv
  have hx := B.exec
  have hb := B.bytes
  have hr := B.returns
  have hts := atoms_spec (ws := wsX12_bad) B.pre
  have hown : s.vm.findClass RX12 = some m.cls := findClass_of_methodNamed B.named
  have hlocks := B.notSynchronized
  subst hsz
  have hA : ∀ q, s.heap.size ≤ q → mA ra s.heap.size q := fun q h => Or.inr h
  have hD : va_D (mA ra s.heap.size) (mw cB cI cJ cZ ra M) := hD0.weaken (fun k q h _ => mA_in h)
  have hS : va_S (mA ra s.heap.size) s.heap s.heap [] := va_S.rf
  have hin : ∀ w ∈ wsX120, w ∈ wsX12_bad := fun w h => List.mem_cons_of_mem _ (List.mem_append_right _ h)
  have k_fieldLink_RX12_148__KeyLettersModel___at___I_ := hts (.fieldLink RX12 148 "KeyLettersModel" "at" "I") (by decide +kernel)
  have k_fieldLink_RX12_171__KeyLettersModel___fault___I_ := hts (.fieldLink RX12 171 "KeyLettersModel" "fault" "I") (by decide +kernel)
  have k_fieldLink_RX12_174__KeyLettersModel___faultAt___I_ := hts (.fieldLink RX12 174 "KeyLettersModel" "faultAt" "I") (by decide +kernel)
  have hl := lv_entry ([.ref (ra 0), .int a0]) (n := 2) (Nat.le_of_ble_eq_true rfl)
  rw [show entryFrame m args 2 = entryFrame m ([.ref (ra 0), .int a0] : List Value).toArray 2 from by rw [hav], lg_entry_eq]
  generalize (lg_sl ([.ref (ra 0), .int a0]) ++ List.replicate (2 - (lg_sl ([.ref (ra 0), .int a0])).length) Slot.unset).toArray = ls at hl ⊢
  have hl : lv_has ls 2 [(0, .ref (ra 0)), (1, .int a0)] := hl
  unfold f_X12_bad at hf
  refine lv_aload_n hx hb dX12_bad_0 rfl (lv_at hl 0 rfl) ?_
  refine lv_iload_n hx hb dX12_bad_1 rfl (lv_at hl 1 rfl) ?_
  obtain ⟨M1, eM1, hf⟩ := bd1_e hf
  refine km_put hx hb hts hin hown hK hP hD hS 15 (by decide) k_fieldLink_RX12_171__KeyLettersModel___fault___I_ rfl (ty := .int) (v := .int a0) (by decide +kernel) rfl rfl (M1 := M1) (by rw [eM1]; exact mo_15 cB cI cJ cZ ra M a0) dX12_bad_2 (fun H locs hP hD hS => ?_)
  refine lv_aload_n hx hb dX12_bad_5 rfl (lv_at hl 0 rfl) ?_
  refine lv_aload_n hx hb dX12_bad_6 rfl (lv_at hl 0 rfl) ?_
  refine km_get hx hb hts hin hown hK hP 12 (by decide) (v := .int (M1.1 0 12)) k_fieldLink_RX12_148__KeyLettersModel___at___I_ rfl dX12_bad_7 ?_
  obtain ⟨M2, eM2, hf⟩ := bd1_e hf
  refine km_put hx hb hts hin hown hK hP hD hS 16 (by decide) k_fieldLink_RX12_174__KeyLettersModel___faultAt___I_ rfl (ty := .int) (v := .int (M1.1 0 12)) (by decide +kernel) rfl rfl (M1 := M2) (by rw [eM2]; exact mo_16 cB cI cJ cZ ra M1 (M1.1 0 12)) dX12_bad_10 (fun H locs hP hD hS => ?_)
  refine lv_iconst (v := 0) hx hb dX12_bad_13 (by decide) ?_
  have hf := Option.some.inj hf
  subst hf
  exact m_zret hx hb hr rfl hlocks hP hK hD hS dX12_bad_14

abbrev rm_X12_isWord : Room := { frames := 0, cells := 0, slots := 0, locals := 0 }
set_option maxHeartbeats 4000000 in
set_option maxRecDepth 100000 in
theorem c_X12_isWord (l : Launch) (dC : Nat → ClassId) (dI : Nat → Nat → Nat) (cB cI cJ cZ : ClassId) (ra : Nat → Nat) (M : kD) (a0 : Int64) (r : Int32) (hf : f_X12_isWord a0 M = r) : Met l yX12_isWord wsX12_isWord rm_X12_isWord (va_Pc [.ref (ra 0), .long a0] (mPr dC dI cB cI cJ cZ ra M)) (kQ (some (.int r))) 0 0 (kF) := by
  refine Met.ofW (cc := cX12_isWord) (maxL := 3) (ret := (some .boolean)) (by decide) rfl ?_
  intro p e s m args below meth c s₁ B hml hv
  obtain ⟨hav, hP, hK⟩ := hv
  have hx := B.exec
  have hb := B.bytes
  have hr := B.returns
  have hts := atoms_spec (ws := wsX12_isWord) B.pre
  have hown : s.vm.findClass RX12 = some m.cls := findClass_of_methodNamed B.named
  have hlocks := B.notSynchronized
  have hin : ∀ w ∈ wsX120, w ∈ wsX12_isWord := fun w h => List.mem_cons_of_mem _ (List.mem_append_right _ h)
  have k_fieldLink_RX12_154__KeyLettersModel___token___I_ := hts (.fieldLink RX12 154 "KeyLettersModel" "token" "I") (by decide +kernel)
  have k_fieldLink_RX12_167__KeyLettersModel___word___J_ := hts (.fieldLink RX12 167 "KeyLettersModel" "word" "J") (by decide +kernel)
  have hl := lv_entry ([.ref (ra 0), .long a0]) (n := 3) (Nat.le_of_ble_eq_true rfl)
  rw [show entryFrame m args 3 = entryFrame m ([.ref (ra 0), .long a0] : List Value).toArray 3 from by rw [hav], lg_entry_eq]
  generalize (lg_sl ([.ref (ra 0), .long a0]) ++ List.replicate (3 - (lg_sl ([.ref (ra 0), .long a0])).length) Slot.unset).toArray = ls at hl ⊢
  have hl : lv_has ls 3 [(0, .ref (ra 0)), (1, .long a0)] := hl
  unfold f_X12_isWord at hf
  refine lv_aload_n hx hb dX12_isWord_0 rfl (lv_at hl 0 rfl) ?_
  refine km_get hx hb hts hin hown hK hP 11 (by decide) (v := .int (M.1 0 11)) k_fieldLink_RX12_154__KeyLettersModel___token___I_ rfl dX12_isWord_1 ?_
  refine lv_iconst (v := 1) hx hb dX12_isWord_4 (by decide) ?_
  refine lv_icmp_ne (tgt := 21) hx hb dX12_isWord_5 (by decide) (fun hb2 => ?_) (fun hb2 => ?_)
  · have hf := (if_neg hb2).symm.trans hf
    refine lv_iconst (v := 0) hx hb dX12_isWord_21 (by decide) ?_
    subst hf
    exact W.zret (v := (0 : Int32)) (ty := .boolean) hx hb hr rfl (fun t ht hW => ⟨rfl, ht⟩) (fun _ h => nomatch h) dX12_isWord_22
  · have hf := (if_pos hb2).symm.trans hf
    refine lv_aload_n hx hb dX12_isWord_8 rfl (lv_at hl 0 rfl) ?_
    refine km_get hx hb hts hin hown hK hP 17 (by decide) (v := .long (M.2 0 17)) k_fieldLink_RX12_167__KeyLettersModel___word___J_ rfl dX12_isWord_9 ?_
    refine lv_lload_n hx hb dX12_isWord_12 rfl (lv_at hl 1 rfl) ?_
    refine W.lcmp hx hb dX12_isWord_13 ?_
    refine lv_if_ne (tgt := 21) hx hb dX12_isWord_14 (by decide) (fun hb1 => ?_) (fun hb1 => ?_)
    · have hf := (if_neg hb1).symm.trans hf
      refine lv_iconst (v := 0) hx hb dX12_isWord_21 (by decide) ?_
      subst hf
      exact W.zret (v := (0 : Int32)) (ty := .boolean) hx hb hr rfl (fun t ht hW => ⟨rfl, ht⟩) (fun _ h => nomatch h) dX12_isWord_22
    · have hf := (if_pos hb1).symm.trans hf
      refine lv_iconst (v := 1) hx hb dX12_isWord_17 (by decide) ?_
      refine lv_goto (tgt := 22) hx hb dX12_isWord_18 (by decide) ?_
      subst hf
      exact W.zret (v := (1 : Int32)) (ty := .boolean) hx hb hr rfl (fun t ht hW => ⟨rfl, ht⟩) (fun _ h => nomatch h) dX12_isWord_22
theorem z_X12_isWord (a0 : Int64) (M : kD) : f_X12_isWord a0 M = 0 ∨ f_X12_isWord a0 M = 1 := by
  unfold f_X12_isWord
  repeat' split
  all_goals first | exact Or.inl rfl | exact Or.inr rfl

abbrev rm_X12_isSign : Room := { frames := 0, cells := 0, slots := 0, locals := 0 }
set_option maxHeartbeats 4000000 in
set_option maxRecDepth 100000 in
theorem c_X12_isSign (l : Launch) (dC : Nat → ClassId) (dI : Nat → Nat → Nat) (cB cI cJ cZ : ClassId) (ra : Nat → Nat) (M : kD) (a0 : Int32) (r : Int32) (hf : f_X12_isSign a0 M = r) : Met l yX12_isSign wsX12_isSign rm_X12_isSign (va_Pc [.ref (ra 0), .int a0] (mPr dC dI cB cI cJ cZ ra M)) (kQ (some (.int r))) 0 0 (kF) := by
  refine Met.ofW (cc := cX12_isSign) (maxL := 2) (ret := (some .boolean)) (by decide) rfl ?_
  intro p e s m args below meth c s₁ B hml hv
  obtain ⟨hav, hP, hK⟩ := hv
  have hx := B.exec
  have hb := B.bytes
  have hr := B.returns
  have hts := atoms_spec (ws := wsX12_isSign) B.pre
  have hown : s.vm.findClass RX12 = some m.cls := findClass_of_methodNamed B.named
  have hlocks := B.notSynchronized
  have hin : ∀ w ∈ wsX120, w ∈ wsX12_isSign := fun w h => List.mem_cons_of_mem _ (List.mem_append_right _ h)
  have k_fieldLink_RX12_154__KeyLettersModel___token___I_ := hts (.fieldLink RX12 154 "KeyLettersModel" "token" "I") (by decide +kernel)
  have k_fieldLink_RX12_164__KeyLettersModel___number___I_ := hts (.fieldLink RX12 164 "KeyLettersModel" "number" "I") (by decide +kernel)
  have hl := lv_entry ([.ref (ra 0), .int a0]) (n := 2) (Nat.le_of_ble_eq_true rfl)
  rw [show entryFrame m args 2 = entryFrame m ([.ref (ra 0), .int a0] : List Value).toArray 2 from by rw [hav], lg_entry_eq]
  generalize (lg_sl ([.ref (ra 0), .int a0]) ++ List.replicate (2 - (lg_sl ([.ref (ra 0), .int a0])).length) Slot.unset).toArray = ls at hl ⊢
  have hl : lv_has ls 2 [(0, .ref (ra 0)), (1, .int a0)] := hl
  unfold f_X12_isSign at hf
  refine lv_aload_n hx hb dX12_isSign_0 rfl (lv_at hl 0 rfl) ?_
  refine km_get hx hb hts hin hown hK hP 11 (by decide) (v := .int (M.1 0 11)) k_fieldLink_RX12_154__KeyLettersModel___token___I_ rfl dX12_isSign_1 ?_
  refine lv_iconst (v := 3) hx hb dX12_isSign_4 (by decide) ?_
  refine lv_icmp_ne (tgt := 20) hx hb dX12_isSign_5 (by decide) (fun hb2 => ?_) (fun hb2 => ?_)
  · have hf := (if_neg hb2).symm.trans hf
    refine lv_iconst (v := 0) hx hb dX12_isSign_20 (by decide) ?_
    subst hf
    exact W.zret (v := (0 : Int32)) (ty := .boolean) hx hb hr rfl (fun t ht hW => ⟨rfl, ht⟩) (fun _ h => nomatch h) dX12_isSign_21
  · have hf := (if_pos hb2).symm.trans hf
    refine lv_aload_n hx hb dX12_isSign_8 rfl (lv_at hl 0 rfl) ?_
    refine km_get hx hb hts hin hown hK hP 14 (by decide) (v := .int (M.1 0 14)) k_fieldLink_RX12_164__KeyLettersModel___number___I_ rfl dX12_isSign_9 ?_
    refine lv_iload_n hx hb dX12_isSign_12 rfl (lv_at hl 1 rfl) ?_
    refine lv_icmp_ne (tgt := 20) hx hb dX12_isSign_13 (by decide) (fun hb1 => ?_) (fun hb1 => ?_)
    · have hf := (if_neg hb1).symm.trans hf
      refine lv_iconst (v := 0) hx hb dX12_isSign_20 (by decide) ?_
      subst hf
      exact W.zret (v := (0 : Int32)) (ty := .boolean) hx hb hr rfl (fun t ht hW => ⟨rfl, ht⟩) (fun _ h => nomatch h) dX12_isSign_21
    · have hf := (if_pos hb1).symm.trans hf
      refine lv_iconst (v := 1) hx hb dX12_isSign_16 (by decide) ?_
      refine lv_goto (tgt := 21) hx hb dX12_isSign_17 (by decide) ?_
      subst hf
      exact W.zret (v := (1 : Int32)) (ty := .boolean) hx hb hr rfl (fun t ht hW => ⟨rfl, ht⟩) (fun _ h => nomatch h) dX12_isSign_21
theorem z_X12_isSign (a0 : Int32) (M : kD) : f_X12_isSign a0 M = 0 ∨ f_X12_isSign a0 M = 1 := by
  unfold f_X12_isSign
  repeat' split
  all_goals first | exact Or.inl rfl | exact Or.inr rfl

abbrev rm_X12_sign : Room := { frames := 2, cells := 0, slots := 0, locals := 43 }
set_option maxHeartbeats 4000000 in
set_option maxRecDepth 100000 in
theorem c_X12_sign (l : Launch) (dC : Nat → ClassId) (dI : Nat → Nat → Nat) (cB cI cJ cZ : ClassId) (ra : Nat → Nat) (sz : Nat) (M : kD) (a0 : Int32) (r : (Int32 × kD)) (hf : f_X12_sign a0 M = some r) : Met l yX12_sign wsX12_sign rm_X12_sign (va_Pc [.ref (ra 0), .int a0] (mPw dC dI cB cI cJ cZ ra sz M)) (mQi dC dI cB cI cJ cZ ra sz r) 0 0 (mA ra sz) := by
  refine Met.ofW (cc := cX12_sign) (maxL := 2) (ret := (some .boolean)) (by decide) rfl ?_
  intro p e s m args below meth c s₁ B hml hv
  obtain ⟨hav, hsz, hP, hK, hD0⟩ := hv
  have hx := B.exec
  have hb := B.bytes
  have hr := B.returns
  have hts := atoms_spec (ws := wsX12_sign) B.pre
  have hown : s.vm.findClass RX12 = some m.cls := findClass_of_methodNamed B.named
  have hlocks := B.notSynchronized
  subst hsz
  have hA : ∀ q, s.heap.size ≤ q → mA ra s.heap.size q := fun q h => Or.inr h
  have hD : va_D (mA ra s.heap.size) (mw cB cI cJ cZ ra M) := hD0.weaken (fun k q h _ => mA_in h)
  have hS : va_S (mA ra s.heap.size) s.heap s.heap [] := va_S.rf
  have hin : ∀ w ∈ wsX120, w ∈ wsX12_sign := fun w h => List.mem_cons_of_mem _ (List.mem_append_right _ h)
  have hl := lv_entry ([.ref (ra 0), .int a0]) (n := 2) (Nat.le_of_ble_eq_true rfl)
  rw [show entryFrame m args 2 = entryFrame m ([.ref (ra 0), .int a0] : List Value).toArray 2 from by rw [hav], lg_entry_eq]
  generalize (lg_sl ([.ref (ra 0), .int a0]) ++ List.replicate (2 - (lg_sl ([.ref (ra 0), .int a0])).length) Slot.unset).toArray = ls at hl ⊢
  have hl : lv_has ls 2 [(0, .ref (ra 0)), (1, .int a0)] := hl
  unfold f_X12_sign at hf
  refine lv_aload_n hx hb dX12_sign_0 rfl (lv_at hl 0 rfl) ?_
  refine lv_iload_n hx hb dX12_sign_1 rfl (lv_at hl 1 rfl) ?_
  refine ko_call (v := some (.int (f_X12_isSign a0 M))) (km_run (As := [.int a0]) (rest := []) ⟨hx, hb, hml, hown, hts⟩ (c_X12_isSign l dC dI cB cI cJ cZ ra M a0 _ rfl) (cwV 1 hts gX12_sign_X12_isSign rfl rfl rfl (by decide +kernel) ⟨Nat.le_of_ble_eq_true rfl, Nat.le_of_ble_eq_true rfl⟩) hK hP (fun _ _ _ _ => mPr_bl) (fun U hU hW => ⟨by rw [hU]; exact hP, va_K.moved hW.alike hK⟩) rfl rfl hl.1 rfl (lv_room (Nat.le_of_ble_eq_true rfl)) dX12_sign_2 ⟨Nat.le_refl _, Nat.le_refl _⟩) ?_
  refine lv_if_ne (tgt := 14) hx hb dX12_sign_5 (by decide) (fun hb7 => ?_) (fun hb7 => ?_)
  · have hf := (if_neg hb7).symm.trans hf
    refine lv_aload_n hx hb dX12_sign_14 rfl (lv_at hl 0 rfl) ?_
    obtain ⟨M1, hq2, hf⟩ := bo_e hf
    refine km_callwv (M1 := M1) (km_run (As := []) (rest := []) ⟨hx, hb, hml, hown, hts⟩ (c_X12_next l dC dI cB cI cJ cZ ra _ M  M1 hq2) (cwV 0 hts gX12_sign_X12_next rfl rfl rfl (by decide +kernel) ⟨Nat.le_of_ble_eq_true rfl, Nat.le_of_ble_eq_true rfl⟩) hK hP (fun _ _ _ _ => mPw_bl) (fun U hU hW => ⟨by rw [hU], by rw [hU]; exact hP, va_K.moved hW.alike hK, hD.weaken (fun _ _ _ _ => trivial)⟩) rfl rfl hl.1 rfl (lv_room (Nat.le_of_ble_eq_true rfl)) dX12_sign_15 ⟨Nat.le_refl _, Nat.le_refl _⟩) hD hS hA (fun H locs hP hD hS => ?_)
    refine lv_iconst (v := 1) hx hb dX12_sign_18 (by decide) ?_
    have hf := Option.some.inj hf
    subst hf
    exact m_zret hx hb hr rfl hlocks hP hK hD hS dX12_sign_19
  · have hf := (if_pos hb7).symm.trans hf
    refine lv_aload_n hx hb dX12_sign_8 rfl (lv_at hl 0 rfl) ?_
    refine lv_iconst (v := 1) hx hb dX12_sign_9 (by decide) ?_
    obtain ⟨v4, M3, hq5, hf⟩ := bo2_e hf
    refine km_callw (v := v4) (M1 := M3) rfl (km_run (As := [.int (1 : Int32)]) (rest := []) ⟨hx, hb, hml, hown, hts⟩ (c_X12_bad l dC dI cB cI cJ cZ ra _ M (1 : Int32) (v4, M3) hq5) (cwV 1 hts gX12_sign_X12_bad rfl rfl rfl (by decide +kernel) ⟨Nat.le_of_ble_eq_true rfl, Nat.le_of_ble_eq_true rfl⟩) hK hP (fun _ _ _ _ => mPw_bl) (fun U hU hW => ⟨by rw [hU], by rw [hU]; exact hP, va_K.moved hW.alike hK, hD.weaken (fun _ _ _ _ => trivial)⟩) rfl rfl hl.1 rfl (lv_room (Nat.le_of_ble_eq_true rfl)) dX12_sign_10 ⟨Nat.le_refl _, Nat.le_refl _⟩) hD hS hA (fun H locs hP hD hS => ?_)
    obtain ⟨hz6, hf⟩ := ck_e hf
    have hf := Option.some.inj hf
    subst hf
    exact m_zret hx hb hr (kt_z (Decidable.not_not.mp hz6)) hlocks hP hK hD hS dX12_sign_13

abbrev rm_X12_isName : Room := { frames := 0, cells := 0, slots := 0, locals := 0 }
set_option maxHeartbeats 4000000 in
set_option maxRecDepth 100000 in
theorem c_X12_isName (l : Launch) (dC : Nat → ClassId) (dI : Nat → Nat → Nat) (cB cI cJ cZ : ClassId) (ra : Nat → Nat) (M : kD)  (r : Int32) (hf : f_X12_isName  M = some r) : Met l yX12_isName wsX12_isName rm_X12_isName (va_Pc [.ref (ra 0)] (mPr dC dI cB cI cJ cZ ra M)) (kQ (some (.int r))) 0 0 (kF) := by
  refine Met.ofW (cc := cX12_isName) (maxL := 3) (ret := (some .boolean)) (by decide) rfl ?_
  intro p e s m args below meth c s₁ B hml hv
  obtain ⟨hav, hP, hK⟩ := hv
  have hx := B.exec
  have hb := B.bytes
  have hr := B.returns
  have hts := atoms_spec (ws := wsX12_isName) B.pre
  have hown : s.vm.findClass RX12 = some m.cls := findClass_of_methodNamed B.named
  have hlocks := B.notSynchronized
  have hin : ∀ w ∈ wsX120, w ∈ wsX12_isName := fun w h => List.mem_cons_of_mem _ (List.mem_append_right _ h)
  have k_fieldLink_RX12_154__KeyLettersModel___token___I_ := hts (.fieldLink RX12 154 "KeyLettersModel" "token" "I") (by decide +kernel)
  have k_fieldLink_RX12_167__KeyLettersModel___word___J_ := hts (.fieldLink RX12 167 "KeyLettersModel" "word" "J") (by decide +kernel)
  have k_fieldLink_RX12_47__KeyLettersModel___reserved____J_ := hts (.fieldLink RX12 47 "KeyLettersModel" "reserved" "[J") (by decide +kernel)
  have hl := lv_entry ([.ref (ra 0)]) (n := 3) (Nat.le_of_ble_eq_true rfl)
  rw [show entryFrame m args 3 = entryFrame m ([.ref (ra 0)] : List Value).toArray 3 from by rw [hav], lg_entry_eq]
  generalize (lg_sl ([.ref (ra 0)]) ++ List.replicate (3 - (lg_sl ([.ref (ra 0)])).length) Slot.unset).toArray = ls at hl ⊢
  have hl : lv_has ls 3 [(0, .ref (ra 0))] := hl
  unfold f_X12_isName at hf
  have h_13 : ∀ (t0_13 : Int32) (ls : Array Slot), lv_has ls 3 [(0, .ref (ra 0))] → g_X12_isName_13 M t0_13 = some r → W p l e (headSpec wsX12_isName rm_X12_isName).room s m args below meth c s.heap [] 0 0 (MQ below (kQ (some (.int r))) args s 0 0 (kF)) (F0 m 13 ls [.int t0_13]) := by
    intro t0_13 ls hl hf
    unfold g_X12_isName_13 at hf
    have h_16 := lp_ind (z := (fun _ _ => none)) (b := (g_X12_isName_16 M)) (fun (rc_16 : Int32 → Int32 → Option Int32) => ∀ (x1_16 : Int32) (x2_16 : Int32) (ls : Array Slot), lv_has ls 3 [(0, .ref (ra 0)), (1, .int x1_16), (2, .int x2_16)] → rc_16 x1_16 x2_16 = some r → W p l e (headSpec wsX12_isName rm_X12_isName).room s m args below meth c s.heap [] 0 0 (MQ below (kQ (some (.int r))) args s 0 0 (kF)) (F0 m 16 ls [])) (by
        intro x1_16 x2_16 ls hl hf
        cases hf) (by
        intro rc_16 ih_16 x1_16 x2_16 ls hl hf
        unfold g_X12_isName_16 at hf
        have h_45 : ∀ (x2_45 : Int32) (t0_45 : Int32) (ls : Array Slot), lv_has ls 3 [(0, .ref (ra 0)), (2, .int x2_45)] → g_X12_isName_45 rc_16 M x2_45 t0_45 = some r → W p l e (headSpec wsX12_isName rm_X12_isName).room s m args below meth c s.heap [] 0 0 (MQ below (kQ (some (.int r))) args s 0 0 (kF)) (F0 m 45 ls [.int t0_45]) := by
          intro x2_45 t0_45 ls hl hf
          unfold g_X12_isName_45 at hf
          refine lv_istore_n (nL := 3) (lv' := [(1, .int t0_45), (0, .ref (ra 0)), (2, .int x2_45)]) hx hb dX12_isName_45 rfl hl (by decide) rfl (fun ls hl => ?_)
          obtain ⟨v1, ev1, hf⟩ := bd1_e hf
          refine lv_iinc (k := 2) (x := x2_45) (v := v1) (nL := 3) (lv' := [(2, .int v1), (1, .int t0_45), (0, .ref (ra 0))]) hx hb dX12_isName_46 hl rfl (kt_inc (w := 1) (by decide) ev1) (by decide) rfl (fun ls hl => ?_)
          refine lv_goto (tgt := 16) hx hb dX12_isName_49 (by decide) ?_
          exact ih_16 t0_45 v1 ls (lv_sub hl [2, 1, 0] rfl) hf
        have h_44 : ∀ (x2_44 : Int32) (ls : Array Slot), lv_has ls 3 [(0, .ref (ra 0)), (2, .int x2_44)] → g_X12_isName_44 rc_16 M x2_44 = some r → W p l e (headSpec wsX12_isName rm_X12_isName).room s m args below meth c s.heap [] 0 0 (MQ below (kQ (some (.int r))) args s 0 0 (kF)) (F0 m 44 ls []) := by
          intro x2_44 ls hl hf
          unfold g_X12_isName_44 at hf
          refine lv_iconst (v := 0) hx hb dX12_isName_44 (by decide) ?_
          exact h_45 x2_44 (0 : Int32) ls hl hf
        refine lv_iload_n hx hb dX12_isName_16 rfl (lv_at hl 2 rfl) ?_
        refine lv_bipush (v := 21) hx hb dX12_isName_17 (by decide) ?_
        refine lv_icmp_ge (tgt := 52) hx hb dX12_isName_19 (by decide) (fun hb6 => ?_) (fun hb6 => ?_)
        · have hf := (if_pos hb6).symm.trans hf
          refine lv_iload_n hx hb dX12_isName_52 rfl (lv_at hl 1 rfl) ?_
          obtain ⟨hz2, hf⟩ := ck_e hf
          have hf := Option.some.inj hf
          subst hf
          exact W.zret (v := x1_16) (ty := .boolean) hx hb hr (kt_z (Decidable.not_not.mp hz2)) (fun t ht hW => ⟨rfl, ht⟩) (fun _ h => nomatch h) dX12_isName_53
        · have hf := (if_neg hb6).symm.trans hf
          refine lv_iload_n hx hb dX12_isName_22 rfl (lv_at hl 1 rfl) ?_
          refine lv_if_eq (tgt := 44) hx hb dX12_isName_23 (by decide) (fun hb5 => ?_) (fun hb5 => ?_)
          · have hf := (if_pos hb5).symm.trans hf
            exact h_44 x2_16 ls (lv_sub hl [0, 2] rfl) hf
          · have hf := (if_neg hb5).symm.trans hf
            refine lv_aload_n hx hb dX12_isName_26 rfl (lv_at hl 0 rfl) ?_
            refine km_get hx hb hts hin hown hK hP 17 (by decide) (v := .long (M.2 0 17)) k_fieldLink_RX12_167__KeyLettersModel___word___J_ rfl dX12_isName_27 ?_
            refine lv_aload_n hx hb dX12_isName_30 rfl (lv_at hl 0 rfl) ?_
            refine km_get hx hb hts hin hown hK hP 10 (by decide) (v := .ref (ra 10)) k_fieldLink_RX12_47__KeyLettersModel___reserved____J_ rfl dX12_isName_31 ?_
            refine lv_iload_n hx hb dX12_isName_34 rfl (lv_at hl 2 rfl) ?_
            obtain ⟨hc3, hf⟩ := ck_e hf
            refine va_lald hx hb hK hP 6 2 rfl rfl hc3 dX12_isName_35 ?_
            refine W.lcmp hx hb dX12_isName_36 ?_
            refine lv_if_eq (tgt := 44) hx hb dX12_isName_37 (by decide) (fun hb4 => ?_) (fun hb4 => ?_)
            · have hf := (if_pos hb4).symm.trans hf
              exact h_44 x2_16 ls (lv_sub hl [0, 2] rfl) hf
            · have hf := (if_neg hb4).symm.trans hf
              refine lv_iconst (v := 1) hx hb dX12_isName_40 (by decide) ?_
              refine lv_goto (tgt := 45) hx hb dX12_isName_41 (by decide) ?_
              exact h_45 x2_16 (1 : Int32) ls (lv_sub hl [0, 2] rfl) hf) 2000
    refine lv_istore_n (nL := 3) (lv' := [(1, .int t0_13), (0, .ref (ra 0))]) hx hb dX12_isName_13 rfl hl (by decide) rfl (fun ls hl => ?_)
    refine lv_iconst (v := 0) hx hb dX12_isName_14 (by decide) ?_
    refine lv_istore_n (nL := 3) (lv' := [(2, .int (0 : Int32)), (1, .int t0_13), (0, .ref (ra 0))]) hx hb dX12_isName_15 rfl hl (by decide) rfl (fun ls hl => ?_)
    exact h_16 t0_13 (0 : Int32) ls (lv_sub hl [2, 1, 0] rfl) hf
  refine lv_aload_n hx hb dX12_isName_0 rfl (lv_at hl 0 rfl) ?_
  refine km_get hx hb hts hin hown hK hP 11 (by decide) (v := .int (M.1 0 11)) k_fieldLink_RX12_154__KeyLettersModel___token___I_ rfl dX12_isName_1 ?_
  refine lv_iconst (v := 1) hx hb dX12_isName_4 (by decide) ?_
  refine lv_icmp_ne (tgt := 12) hx hb dX12_isName_5 (by decide) (fun hb7 => ?_) (fun hb7 => ?_)
  · have hf := (if_neg hb7).symm.trans hf
    refine lv_iconst (v := 0) hx hb dX12_isName_12 (by decide) ?_
    exact h_13 (0 : Int32) ls hl hf
  · have hf := (if_pos hb7).symm.trans hf
    refine lv_iconst (v := 1) hx hb dX12_isName_8 (by decide) ?_
    refine lv_goto (tgt := 13) hx hb dX12_isName_9 (by decide) ?_
    exact h_13 (1 : Int32) ls hl hf

abbrev rm_X12_takes : Room := { frames := 2, cells := 0, slots := 0, locals := 43 }
set_option maxHeartbeats 4000000 in
set_option maxRecDepth 100000 in
theorem c_X12_takes (l : Launch) (dC : Nat → ClassId) (dI : Nat → Nat → Nat) (cB cI cJ cZ : ClassId) (ra : Nat → Nat) (sz : Nat) (M : kD) (a0 : Int32) (a1 : Int32) (r : (Int32 × kD)) (hf : f_X12_takes a0 a1 M = some r) : Met l yX12_takes wsX12_takes rm_X12_takes (va_Pc [.ref (ra 0), .int a0, .int a1] (mPw dC dI cB cI cJ cZ ra sz M)) (mQi dC dI cB cI cJ cZ ra sz r) 0 0 (mA ra sz) := by
  refine Met.ofW (cc := cX12_takes) (maxL := 3) (ret := (some .boolean)) (by decide) rfl ?_
  intro p e s m args below meth c s₁ B hml hv
  obtain ⟨hav, hsz, hP, hK, hD0⟩ := hv
  have hx := B.exec
  have hb := B.bytes
  have hr := B.returns
  have hts := atoms_spec (ws := wsX12_takes) B.pre
  have hown : s.vm.findClass RX12 = some m.cls := findClass_of_methodNamed B.named
  have hlocks := B.notSynchronized
  subst hsz
  have hA : ∀ q, s.heap.size ≤ q → mA ra s.heap.size q := fun q h => Or.inr h
  have hD : va_D (mA ra s.heap.size) (mw cB cI cJ cZ ra M) := hD0.weaken (fun k q h _ => mA_in h)
  have hS : va_S (mA ra s.heap.size) s.heap s.heap [] := va_S.rf
  have hin : ∀ w ∈ wsX120, w ∈ wsX12_takes := fun w h => List.mem_cons_of_mem _ (List.mem_append_right _ h)
  have k_fieldLink_RX12_154__KeyLettersModel___token___I_ := hts (.fieldLink RX12 154 "KeyLettersModel" "token" "I") (by decide +kernel)
  have k_fieldLink_RX12_164__KeyLettersModel___number___I_ := hts (.fieldLink RX12 164 "KeyLettersModel" "number" "I") (by decide +kernel)
  have k_fieldLink_RX12_190__KeyLettersModel___got___I_ := hts (.fieldLink RX12 190 "KeyLettersModel" "got" "I") (by decide +kernel)
  have hl := lv_entry ([.ref (ra 0), .int a0, .int a1]) (n := 3) (Nat.le_of_ble_eq_true rfl)
  rw [show entryFrame m args 3 = entryFrame m ([.ref (ra 0), .int a0, .int a1] : List Value).toArray 3 from by rw [hav], lg_entry_eq]
  generalize (lg_sl ([.ref (ra 0), .int a0, .int a1]) ++ List.replicate (3 - (lg_sl ([.ref (ra 0), .int a0, .int a1])).length) Slot.unset).toArray = ls at hl ⊢
  have hl : lv_has ls 3 [(0, .ref (ra 0)), (1, .int a0), (2, .int a1)] := hl
  unfold f_X12_takes at hf
  refine lv_aload_n hx hb dX12_takes_0 rfl (lv_at hl 0 rfl) ?_
  refine km_get hx hb hts hin hown hK hP 11 (by decide) (v := .int (M.1 0 11)) k_fieldLink_RX12_154__KeyLettersModel___token___I_ rfl dX12_takes_1 ?_
  refine lv_iconst (v := 2) hx hb dX12_takes_4 (by decide) ?_
  refine lv_icmp_eq (tgt := 14) hx hb dX12_takes_5 (by decide) (fun hb13 => ?_) (fun hb13 => ?_)
  · have hf := (if_pos hb13).symm.trans hf
    refine lv_aload_n hx hb dX12_takes_14 rfl (lv_at hl 0 rfl) ?_
    refine km_get hx hb hts hin hown hK hP 14 (by decide) (v := .int (M.1 0 14)) k_fieldLink_RX12_164__KeyLettersModel___number___I_ rfl dX12_takes_15 ?_
    refine lv_iload_n hx hb dX12_takes_18 rfl (lv_at hl 1 rfl) ?_
    refine lv_iload_n hx hb dX12_takes_19 rfl (lv_at hl 2 rfl) ?_
    refine ko_call (v := some (.int (f_X12_isIn (M.1 0 14) a0 a1))) (va_runS (As := [.int (M.1 0 14), .int a0, .int a1]) (rest := []) ⟨hx, hb, hml, hown, hts⟩ (c_X12_isIn l (M.1 0 14) a0 a1 _ rfl) (va_cwS 3 hts gX12_takes_X12_isIn rfl rfl rfl (by decide +kernel) ⟨Nat.le_of_ble_eq_true rfl, Nat.le_of_ble_eq_true rfl⟩) ⟨fun a U g mk q => q, fun U hU hW => ⟨rfl, trivial⟩⟩ rfl rfl hl.1 rfl (lv_room (Nat.le_of_ble_eq_true rfl)) dX12_takes_20 ⟨Nat.le_refl _, Nat.le_refl _⟩) ?_
    refine lv_if_ne (tgt := 32) hx hb dX12_takes_23 (by decide) (fun hb8 => ?_) (fun hb8 => ?_)
    · have hf := (if_neg hb8).symm.trans hf
      refine lv_aload_n hx hb dX12_takes_32 rfl (lv_at hl 0 rfl) ?_
      refine lv_aload_n hx hb dX12_takes_33 rfl (lv_at hl 0 rfl) ?_
      refine km_get hx hb hts hin hown hK hP 14 (by decide) (v := .int (M.1 0 14)) k_fieldLink_RX12_164__KeyLettersModel___number___I_ rfl dX12_takes_34 ?_
      obtain ⟨M1, eM1, hf⟩ := bd1_e hf
      refine km_put hx hb hts hin hown hK hP hD hS 18 (by decide) k_fieldLink_RX12_190__KeyLettersModel___got___I_ rfl (ty := .int) (v := .int (M.1 0 14)) (by decide +kernel) rfl rfl (M1 := M1) (by rw [eM1]; exact mo_18 cB cI cJ cZ ra M (M.1 0 14)) dX12_takes_37 (fun H locs hP hD hS => ?_)
      refine lv_aload_n hx hb dX12_takes_40 rfl (lv_at hl 0 rfl) ?_
      obtain ⟨M2, hq3, hf⟩ := bo_e hf
      refine km_callwv (M1 := M2) (km_run (As := []) (rest := []) ⟨hx, hb, hml, hown, hts⟩ (c_X12_next l dC dI cB cI cJ cZ ra _ M1  M2 hq3) (cwV 0 hts gX12_takes_X12_next rfl rfl rfl (by decide +kernel) ⟨Nat.le_of_ble_eq_true rfl, Nat.le_of_ble_eq_true rfl⟩) hK hP (fun _ _ _ _ => mPw_bl) (fun U hU hW => ⟨by rw [hU], by rw [hU]; exact hP, va_K.moved hW.alike hK, hD.weaken (fun _ _ _ _ => trivial)⟩) rfl rfl hl.1 rfl (lv_room (Nat.le_of_ble_eq_true rfl)) dX12_takes_41 ⟨Nat.le_refl _, Nat.le_refl _⟩) hD hS hA (fun H locs hP hD hS => ?_)
      refine lv_iconst (v := 1) hx hb dX12_takes_44 (by decide) ?_
      have hf := Option.some.inj hf
      subst hf
      exact m_zret hx hb hr rfl hlocks hP hK hD hS dX12_takes_45
    · have hf := (if_pos hb8).symm.trans hf
      refine lv_aload_n hx hb dX12_takes_26 rfl (lv_at hl 0 rfl) ?_
      refine lv_iconst (v := 2) hx hb dX12_takes_27 (by decide) ?_
      obtain ⟨v5, M4, hq6, hf⟩ := bo2_e hf
      refine km_callw (v := v5) (M1 := M4) rfl (km_run (As := [.int (2 : Int32)]) (rest := []) ⟨hx, hb, hml, hown, hts⟩ (c_X12_bad l dC dI cB cI cJ cZ ra _ M (2 : Int32) (v5, M4) hq6) (cwV 1 hts gX12_takes_X12_bad rfl rfl rfl (by decide +kernel) ⟨Nat.le_of_ble_eq_true rfl, Nat.le_of_ble_eq_true rfl⟩) hK hP (fun _ _ _ _ => mPw_bl) (fun U hU hW => ⟨by rw [hU], by rw [hU]; exact hP, va_K.moved hW.alike hK, hD.weaken (fun _ _ _ _ => trivial)⟩) rfl rfl hl.1 rfl (lv_room (Nat.le_of_ble_eq_true rfl)) dX12_takes_28 ⟨Nat.le_refl _, Nat.le_refl _⟩) hD hS hA (fun H locs hP hD hS => ?_)
      obtain ⟨hz7, hf⟩ := ck_e hf
      have hf := Option.some.inj hf
      subst hf
      exact m_zret hx hb hr (kt_z (Decidable.not_not.mp hz7)) hlocks hP hK hD hS dX12_takes_31
  · have hf := (if_neg hb13).symm.trans hf
    refine lv_aload_n hx hb dX12_takes_8 rfl (lv_at hl 0 rfl) ?_
    refine lv_iconst (v := 1) hx hb dX12_takes_9 (by decide) ?_
    obtain ⟨v10, M9, hq11, hf⟩ := bo2_e hf
    refine km_callw (v := v10) (M1 := M9) rfl (km_run (As := [.int (1 : Int32)]) (rest := []) ⟨hx, hb, hml, hown, hts⟩ (c_X12_bad l dC dI cB cI cJ cZ ra _ M (1 : Int32) (v10, M9) hq11) (cwV 1 hts gX12_takes_X12_bad rfl rfl rfl (by decide +kernel) ⟨Nat.le_of_ble_eq_true rfl, Nat.le_of_ble_eq_true rfl⟩) hK hP (fun _ _ _ _ => mPw_bl) (fun U hU hW => ⟨by rw [hU], by rw [hU]; exact hP, va_K.moved hW.alike hK, hD.weaken (fun _ _ _ _ => trivial)⟩) rfl rfl hl.1 rfl (lv_room (Nat.le_of_ble_eq_true rfl)) dX12_takes_10 ⟨Nat.le_refl _, Nat.le_refl _⟩) hD hS hA (fun H locs hP hD hS => ?_)
    obtain ⟨hz12, hf⟩ := ck_e hf
    have hf := Option.some.inj hf
    subst hf
    exact m_zret hx hb hr (kt_z (Decidable.not_not.mp hz12)) hlocks hP hK hD hS dX12_takes_13

abbrev rm_X12_puts : Room := { frames := 3, cells := 0, slots := 0, locals := 65 }
set_option maxHeartbeats 4000000 in
set_option maxRecDepth 100000 in
theorem c_X12_puts (l : Launch) (dC : Nat → ClassId) (dI : Nat → Nat → Nat) (cB cI cJ cZ : ClassId) (ra : Nat → Nat) (sz : Nat) (M : kD) (a0 : Int32) (a1 : Int32) (a2 : Int32) (r : (Int32 × kD)) (hf : f_X12_puts a0 a1 a2 M = some r) : Met l yX12_puts wsX12_puts rm_X12_puts (va_Pc [.ref (ra 0), .int a0, .int a1, .int a2] (mPw dC dI cB cI cJ cZ ra sz M)) (mQi dC dI cB cI cJ cZ ra sz r) 0 0 (mA ra sz) := by
  refine Met.ofW (cc := cX12_puts) (maxL := 4) (ret := (some .boolean)) (by decide) rfl ?_
  intro p e s m args below meth c s₁ B hml hv
  obtain ⟨hav, hsz, hP, hK, hD0⟩ := hv
  have hx := B.exec
  have hb := B.bytes
  have hr := B.returns
  have hts := atoms_spec (ws := wsX12_puts) B.pre
  have hown : s.vm.findClass RX12 = some m.cls := findClass_of_methodNamed B.named
  have hlocks := B.notSynchronized
  subst hsz
  have hA : ∀ q, s.heap.size ≤ q → mA ra s.heap.size q := fun q h => Or.inr h
  have hD : va_D (mA ra s.heap.size) (mw cB cI cJ cZ ra M) := hD0.weaken (fun k q h _ => mA_in h)
  have hS : va_S (mA ra s.heap.size) s.heap s.heap [] := va_S.rf
  have hin : ∀ w ∈ wsX120, w ∈ wsX12_puts := fun w h => List.mem_cons_of_mem _ (List.mem_append_right _ h)
  have k_fieldLink_RX12_190__KeyLettersModel___got___I_ := hts (.fieldLink RX12 190 "KeyLettersModel" "got" "I") (by decide +kernel)
  have k_fieldLink_RX12_37__KeyLettersModel___h____I_ := hts (.fieldLink RX12 37 "KeyLettersModel" "h" "[I") (by decide +kernel)
  have hl := lv_entry ([.ref (ra 0), .int a0, .int a1, .int a2]) (n := 4) (Nat.le_of_ble_eq_true rfl)
  rw [show entryFrame m args 4 = entryFrame m ([.ref (ra 0), .int a0, .int a1, .int a2] : List Value).toArray 4 from by rw [hav], lg_entry_eq]
  generalize (lg_sl ([.ref (ra 0), .int a0, .int a1, .int a2]) ++ List.replicate (4 - (lg_sl ([.ref (ra 0), .int a0, .int a1, .int a2])).length) Slot.unset).toArray = ls at hl ⊢
  have hl : lv_has ls 4 [(0, .ref (ra 0)), (1, .int a0), (2, .int a1), (3, .int a2)] := hl
  unfold f_X12_puts at hf
  refine lv_aload_n hx hb dX12_puts_0 rfl (lv_at hl 0 rfl) ?_
  refine lv_iload_n hx hb dX12_puts_1 rfl (lv_at hl 2 rfl) ?_
  refine lv_iload_n hx hb dX12_puts_2 rfl (lv_at hl 3 rfl) ?_
  obtain ⟨v2, M1, hq3, hf⟩ := bo2_e hf
  refine km_callw (v := v2) (M1 := M1) rfl (km_run (As := [.int a1, .int a2]) (rest := []) ⟨hx, hb, hml, hown, hts⟩ (c_X12_takes l dC dI cB cI cJ cZ ra _ M a1 a2 (v2, M1) hq3) (cwV 2 hts gX12_puts_X12_takes rfl rfl rfl (by decide +kernel) ⟨Nat.le_of_ble_eq_true rfl, Nat.le_of_ble_eq_true rfl⟩) hK hP (fun _ _ _ _ => mPw_bl) (fun U hU hW => ⟨by rw [hU], by rw [hU]; exact hP, va_K.moved hW.alike hK, hD.weaken (fun _ _ _ _ => trivial)⟩) rfl rfl hl.1 rfl (lv_room (Nat.le_of_ble_eq_true rfl)) dX12_puts_3 ⟨Nat.le_refl _, Nat.le_refl _⟩) hD hS hA (fun H locs hP hD hS => ?_)
  refine lv_if_ne (tgt := 11) hx hb dX12_puts_6 (by decide) (fun hb6 => ?_) (fun hb6 => ?_)
  · have hf := (if_neg hb6).symm.trans hf
    refine lv_aload_n hx hb dX12_puts_11 rfl (lv_at hl 0 rfl) ?_
    refine km_get hx hb hts hin hown hK hP 7 (by decide) (v := .ref (ra 7)) k_fieldLink_RX12_37__KeyLettersModel___h____I_ rfl dX12_puts_12 ?_
    refine lv_iload_n hx hb dX12_puts_15 rfl (lv_at hl 1 rfl) ?_
    refine lv_aload_n hx hb dX12_puts_16 rfl (lv_at hl 0 rfl) ?_
    refine km_get hx hb hts hin hown hK hP 18 (by decide) (v := .int (M1.1 0 18)) k_fieldLink_RX12_190__KeyLettersModel___got___I_ rfl dX12_puts_17 ?_
    obtain ⟨hc4, hf⟩ := ck_e hf
    obtain ⟨M5, eM5, hf⟩ := bd1_e hf
    refine va_iast hx hb hK hP hD hS 3 1 rfl rfl hc4 dX12_puts_20 (fun H locs hP hD hS => ?_)
    have hP : va_P (dC, dI) vwCl (mw cB cI cJ cZ ra M5) H := by rw [eM5, ← ma_7 cB cI cJ cZ ra M1 a0.toNatClampNeg (M1.1 0 18)]; exact hP
    have hD : va_D (mA ra s.heap.size) (mw cB cI cJ cZ ra M5) := by rw [eM5, ← ma_7 cB cI cJ cZ ra M1 a0.toNatClampNeg (M1.1 0 18)]; exact hD
    refine lv_iconst (v := 1) hx hb dX12_puts_21 (by decide) ?_
    have hf := Option.some.inj hf
    subst hf
    exact m_zret hx hb hr rfl hlocks hP hK hD hS dX12_puts_22
  · have hf := (if_pos hb6).symm.trans hf
    refine lv_iconst (v := 0) hx hb dX12_puts_9 (by decide) ?_
    have hf := Option.some.inj hf
    subst hf
    exact m_zret hx hb hr rfl hlocks hP hK hD hS dX12_puts_10

abbrev rm_X12_seek : Room := { frames := 0, cells := 0, slots := 0, locals := 0 }
set_option maxHeartbeats 4000000 in
set_option maxRecDepth 100000 in
theorem c_X12_seek (l : Launch) (dC : Nat → ClassId) (dI : Nat → Nat → Nat) (cB cI cJ cZ : ClassId) (ra : Nat → Nat) (M : kD) (a0 : Int32) (a1 : Int32) (r : Int32) (hf : f_X12_seek a0 a1 M = some r) : Met l yX12_seek wsX12_seek rm_X12_seek (va_Pc [.ref (ra 0), .int a0, .int a1] (mPr dC dI cB cI cJ cZ ra M)) (kQ (some (.int r))) 0 0 (kF) := by
  refine Met.ofW (cc := cX12_seek) (maxL := 4) (ret := (some .int)) (by decide) rfl ?_
  intro p e s m args below meth c s₁ B hml hv
  obtain ⟨hav, hP, hK⟩ := hv
  have hx := B.exec
  have hb := B.bytes
  have hr := B.returns
  have hts := atoms_spec (ws := wsX12_seek) B.pre
  have hown : s.vm.findClass RX12 = some m.cls := findClass_of_methodNamed B.named
  have hlocks := B.notSynchronized
  have hin : ∀ w ∈ wsX120, w ∈ wsX12_seek := fun w h => List.mem_cons_of_mem _ (List.mem_append_right _ h)
  have k_fieldLink_RX12_167__KeyLettersModel___word___J_ := hts (.fieldLink RX12 167 "KeyLettersModel" "word" "J") (by decide +kernel)
  have k_fieldLink_RX12_43__KeyLettersModel___names____J_ := hts (.fieldLink RX12 43 "KeyLettersModel" "names" "[J") (by decide +kernel)
  have hl := lv_entry ([.ref (ra 0), .int a0, .int a1]) (n := 4) (Nat.le_of_ble_eq_true rfl)
  rw [show entryFrame m args 4 = entryFrame m ([.ref (ra 0), .int a0, .int a1] : List Value).toArray 4 from by rw [hav], lg_entry_eq]
  generalize (lg_sl ([.ref (ra 0), .int a0, .int a1]) ++ List.replicate (4 - (lg_sl ([.ref (ra 0), .int a0, .int a1])).length) Slot.unset).toArray = ls at hl ⊢
  have hl : lv_has ls 4 [(0, .ref (ra 0)), (1, .int a0), (2, .int a1)] := hl
  unfold f_X12_seek at hf
  have h_2 := lp_ind (z := (fun _ _ _ => none)) (b := (g_X12_seek_2 M)) (fun (rc_2 : Int32 → Int32 → Int32 → Option Int32) => ∀ (x1_2 : Int32) (x2_2 : Int32) (x3_2 : Int32) (ls : Array Slot), lv_has ls 4 [(0, .ref (ra 0)), (1, .int x1_2), (2, .int x2_2), (3, .int x3_2)] → rc_2 x1_2 x2_2 x3_2 = some r → W p l e (headSpec wsX12_seek rm_X12_seek).room s m args below meth c s.heap [] 0 0 (MQ below (kQ (some (.int r))) args s 0 0 (kF)) (F0 m 2 ls [])) (by
      intro x1_2 x2_2 x3_2 ls hl hf
      cases hf) (by
      intro rc_2 ih_2 x1_2 x2_2 x3_2 ls hl hf
      unfold g_X12_seek_2 at hf
      refine lv_iload_n hx hb dX12_seek_2 rfl (lv_at hl 3 rfl) ?_
      refine lv_iload_n hx hb dX12_seek_3 rfl (lv_at hl 2 rfl) ?_
      refine lv_icmp_ge (tgt := 31) hx hb dX12_seek_4 (by decide) (fun hb5 => ?_) (fun hb5 => ?_)
      · have hf := (if_pos hb5).symm.trans hf
        refine lv_iconst (v := -1) hx hb dX12_seek_31 (by decide) ?_
        have hf := Option.some.inj hf
        subst hf
        exact W.iret (v := (-1 : Int32)) hx hb hr (fun t ht hW => ⟨rfl, ht⟩) (fun _ h => nomatch h) dX12_seek_32
      · have hf := (if_neg hb5).symm.trans hf
        refine lv_aload_n hx hb dX12_seek_7 rfl (lv_at hl 0 rfl) ?_
        refine km_get hx hb hts hin hown hK hP 9 (by decide) (v := .ref (ra 9)) k_fieldLink_RX12_43__KeyLettersModel___names____J_ rfl dX12_seek_8 ?_
        refine lv_iload_n hx hb dX12_seek_11 rfl (lv_at hl 1 rfl) ?_
        refine lv_iload_n hx hb dX12_seek_12 rfl (lv_at hl 3 rfl) ?_
        refine lv_iadd hx hb dX12_seek_13 ?_
        obtain ⟨v1, ev1, hf⟩ := bd1_e hf
        refine kt_i ev1 ?_
        obtain ⟨hc2, hf⟩ := ck_e hf
        refine va_lald hx hb hK hP 5 2 rfl rfl hc2 dX12_seek_14 ?_
        refine lv_aload_n hx hb dX12_seek_15 rfl (lv_at hl 0 rfl) ?_
        refine km_get hx hb hts hin hown hK hP 17 (by decide) (v := .long (M.2 0 17)) k_fieldLink_RX12_167__KeyLettersModel___word___J_ rfl dX12_seek_16 ?_
        refine W.lcmp hx hb dX12_seek_19 ?_
        refine lv_if_ne (tgt := 25) hx hb dX12_seek_20 (by decide) (fun hb4 => ?_) (fun hb4 => ?_)
        · have hf := (if_neg hb4).symm.trans hf
          obtain ⟨v3, ev3, hf⟩ := bd1_e hf
          refine lv_iinc (k := 3) (x := x3_2) (v := v3) (nL := 4) (lv' := [(3, .int v3), (0, .ref (ra 0)), (1, .int x1_2), (2, .int x2_2)]) hx hb dX12_seek_25 hl rfl (kt_inc (w := 1) (by decide) ev3) (by decide) rfl (fun ls hl => ?_)
          refine lv_goto (tgt := 2) hx hb dX12_seek_28 (by decide) ?_
          exact ih_2 x1_2 x2_2 v3 ls (lv_sub hl [1, 2, 3, 0] rfl) hf
        · have hf := (if_pos hb4).symm.trans hf
          refine lv_iload_n hx hb dX12_seek_23 rfl (lv_at hl 3 rfl) ?_
          have hf := Option.some.inj hf
          subst hf
          exact W.iret (v := x3_2) hx hb hr (fun t ht hW => ⟨rfl, ht⟩) (fun _ h => nomatch h) dX12_seek_24) 2000
  refine lv_iconst (v := 0) hx hb dX12_seek_0 (by decide) ?_
  refine lv_istore_n (nL := 4) (lv' := [(3, .int (0 : Int32)), (0, .ref (ra 0)), (1, .int a0), (2, .int a1)]) hx hb dX12_seek_1 rfl hl (by decide) rfl (fun ls hl => ?_)
  exact h_2 a0 a1 (0 : Int32) ls (lv_sub hl [1, 2, 3, 0] rfl) hf

abbrev rm_X12_fresh : Room := { frames := 2, cells := 0, slots := 0, locals := 43 }
set_option maxHeartbeats 4000000 in
set_option maxRecDepth 100000 in
theorem c_X12_fresh (l : Launch) (dC : Nat → ClassId) (dI : Nat → Nat → Nat) (cB cI cJ cZ : ClassId) (ra : Nat → Nat) (sz : Nat) (M : kD) (a0 : Int32) (r : (Int32 × kD)) (hf : f_X12_fresh a0 M = some r) : Met l yX12_fresh wsX12_fresh rm_X12_fresh (va_Pc [.ref (ra 0), .int a0] (mPw dC dI cB cI cJ cZ ra sz M)) (mQi dC dI cB cI cJ cZ ra sz r) 0 0 (mA ra sz) := by
  refine Met.ofW (cc := cX12_fresh) (maxL := 2) (ret := (some .boolean)) (by decide) rfl ?_
  intro p e s m args below meth c s₁ B hml hv
  obtain ⟨hav, hsz, hP, hK, hD0⟩ := hv
  have hx := B.exec
  have hb := B.bytes
  have hr := B.returns
  have hts := atoms_spec (ws := wsX12_fresh) B.pre
  have hown : s.vm.findClass RX12 = some m.cls := findClass_of_methodNamed B.named
  have hlocks := B.notSynchronized
  subst hsz
  have hA : ∀ q, s.heap.size ≤ q → mA ra s.heap.size q := fun q h => Or.inr h
  have hD : va_D (mA ra s.heap.size) (mw cB cI cJ cZ ra M) := hD0.weaken (fun k q h _ => mA_in h)
  have hS : va_S (mA ra s.heap.size) s.heap s.heap [] := va_S.rf
  have hin : ∀ w ∈ wsX120, w ∈ wsX12_fresh := fun w h => List.mem_cons_of_mem _ (List.mem_append_right _ h)
  have k_fieldLink_RX12_167__KeyLettersModel___word___J_ := hts (.fieldLink RX12 167 "KeyLettersModel" "word" "J") (by decide +kernel)
  have k_fieldLink_RX12_37__KeyLettersModel___h____I_ := hts (.fieldLink RX12 37 "KeyLettersModel" "h" "[I") (by decide +kernel)
  have k_fieldLink_RX12_43__KeyLettersModel___names____J_ := hts (.fieldLink RX12 43 "KeyLettersModel" "names" "[J") (by decide +kernel)
  have hl := lv_entry ([.ref (ra 0), .int a0]) (n := 2) (Nat.le_of_ble_eq_true rfl)
  rw [show entryFrame m args 2 = entryFrame m ([.ref (ra 0), .int a0] : List Value).toArray 2 from by rw [hav], lg_entry_eq]
  generalize (lg_sl ([.ref (ra 0), .int a0]) ++ List.replicate (2 - (lg_sl ([.ref (ra 0), .int a0])).length) Slot.unset).toArray = ls at hl ⊢
  have hl : lv_has ls 2 [(0, .ref (ra 0)), (1, .int a0)] := hl
  unfold f_X12_fresh at hf
  have h_43 : ∀ (M_43 : kD) (ls : Array Slot) (H : Heap) (locs : List Loc), lv_has ls 2 [(0, .ref (ra 0))] → va_P (dC, dI) vwCl (mw cB cI cJ cZ ra M_43) H → va_D (mA ra s.heap.size) (mw cB cI cJ cZ ra M_43) → va_S (mA ra s.heap.size) s.heap H locs → g_X12_fresh_43  M_43 = some r → W p l e (headSpec wsX12_fresh rm_X12_fresh).room s m args below meth c H locs 0 0 (MQ below (mQi dC dI cB cI cJ cZ ra s.heap.size r) args s 0 0 (mA ra s.heap.size)) (F0 m 43 ls []) := by
    intro  M_43 ls H locs hl hP hD hS hf
    unfold g_X12_fresh_43 at hf
    refine lv_aload_n hx hb dX12_fresh_43 rfl (lv_at hl 0 rfl) ?_
    refine lv_iconst (v := 3) hx hb dX12_fresh_44 (by decide) ?_
    obtain ⟨v2, M1, hq3, hf⟩ := bo2_e hf
    refine km_callw (v := v2) (M1 := M1) rfl (km_run (As := [.int (3 : Int32)]) (rest := []) ⟨hx, hb, hml, hown, hts⟩ (c_X12_bad l dC dI cB cI cJ cZ ra _ M_43 (3 : Int32) (v2, M1) hq3) (cwV 1 hts gX12_fresh_X12_bad rfl rfl rfl (by decide +kernel) ⟨Nat.le_of_ble_eq_true rfl, Nat.le_of_ble_eq_true rfl⟩) hK hP (fun _ _ _ _ => mPw_bl) (fun U hU hW => ⟨by rw [hU], by rw [hU]; exact hP, va_K.moved hW.alike hK, hD.weaken (fun _ _ _ _ => trivial)⟩) rfl rfl hl.1 rfl (lv_room (Nat.le_of_ble_eq_true rfl)) dX12_fresh_45 ⟨Nat.le_refl _, Nat.le_refl _⟩) hD hS hA (fun H locs hP hD hS => ?_)
    obtain ⟨hz4, hf⟩ := ck_e hf
    have hf := Option.some.inj hf
    subst hf
    exact m_zret hx hb hr (kt_z (Decidable.not_not.mp hz4)) hlocks hP hK hD hS dX12_fresh_48
  refine lv_aload_n hx hb dX12_fresh_0 rfl (lv_at hl 0 rfl) ?_
  obtain ⟨v5, hq6, hf⟩ := bo_e hf
  refine ko_call (v := some (.int v5)) (km_run (As := []) (rest := []) ⟨hx, hb, hml, hown, hts⟩ (c_X12_isName l dC dI cB cI cJ cZ ra M  v5 hq6) (cwV 0 hts gX12_fresh_X12_isName rfl rfl rfl (by decide +kernel) ⟨Nat.le_of_ble_eq_true rfl, Nat.le_of_ble_eq_true rfl⟩) hK hP (fun _ _ _ _ => mPr_bl) (fun U hU hW => ⟨by rw [hU]; exact hP, va_K.moved hW.alike hK⟩) rfl rfl hl.1 rfl (lv_room (Nat.le_of_ble_eq_true rfl)) dX12_fresh_1 ⟨Nat.le_refl _, Nat.le_refl _⟩) ?_
  refine lv_if_ne (tgt := 13) hx hb dX12_fresh_4 (by decide) (fun hb21 => ?_) (fun hb21 => ?_)
  · have hf := (if_neg hb21).symm.trans hf
    refine lv_aload_n hx hb dX12_fresh_13 rfl (lv_at hl 0 rfl) ?_
    refine lv_bipush (v := 14) hx hb dX12_fresh_14 (by decide) ?_
    refine lv_aload_n hx hb dX12_fresh_16 rfl (lv_at hl 0 rfl) ?_
    refine km_get hx hb hts hin hown hK hP 7 (by decide) (v := .ref (ra 7)) k_fieldLink_RX12_37__KeyLettersModel___h____I_ rfl dX12_fresh_17 ?_
    refine lv_iconst (v := 0) hx hb dX12_fresh_20 (by decide) ?_
    refine va_iald hx hb hK hP 3 1 rfl rfl (show ¬ ((0 : Int32) < 0 ∨ 39 ≤ (0 : Int32).toNatClampNeg) by decide +kernel) dX12_fresh_21 ?_
    obtain ⟨v7, hq8, hf⟩ := bo_e hf
    refine ko_call (v := some (.int v7)) (km_run (As := [.int (14 : Int32), .int (M.1 7 (0 : Int32).toNatClampNeg)]) (rest := []) ⟨hx, hb, hml, hown, hts⟩ (c_X12_seek l dC dI cB cI cJ cZ ra M (14 : Int32) (M.1 7 (0 : Int32).toNatClampNeg) v7 hq8) (cwV 2 hts gX12_fresh_X12_seek rfl rfl rfl (by decide +kernel) ⟨Nat.le_of_ble_eq_true rfl, Nat.le_of_ble_eq_true rfl⟩) hK hP (fun _ _ _ _ => mPr_bl) (fun U hU hW => ⟨by rw [hU]; exact hP, va_K.moved hW.alike hK⟩) rfl rfl hl.1 rfl (lv_room (Nat.le_of_ble_eq_true rfl)) dX12_fresh_22 ⟨Nat.le_refl _, Nat.le_refl _⟩) ?_
    refine lv_if_ge (tgt := 43) hx hb dX12_fresh_25 (by decide) (fun hb16 => ?_) (fun hb16 => ?_)
    · have hf := (if_pos hb16).symm.trans hf
      exact h_43  M ls _ _ (lv_sub hl [0] rfl) hP hD hS hf
    · have hf := (if_neg hb16).symm.trans hf
      refine lv_aload_n hx hb dX12_fresh_28 rfl (lv_at hl 0 rfl) ?_
      refine lv_bipush (v := 20) hx hb dX12_fresh_29 (by decide) ?_
      refine lv_aload_n hx hb dX12_fresh_31 rfl (lv_at hl 0 rfl) ?_
      refine km_get hx hb hts hin hown hK hP 7 (by decide) (v := .ref (ra 7)) k_fieldLink_RX12_37__KeyLettersModel___h____I_ rfl dX12_fresh_32 ?_
      refine lv_iconst (v := 1) hx hb dX12_fresh_35 (by decide) ?_
      refine va_iald hx hb hK hP 3 1 rfl rfl (show ¬ ((1 : Int32) < 0 ∨ 39 ≤ (1 : Int32).toNatClampNeg) by decide +kernel) dX12_fresh_36 ?_
      obtain ⟨v9, hq10, hf⟩ := bo_e hf
      refine ko_call (v := some (.int v9)) (km_run (As := [.int (20 : Int32), .int (M.1 7 (1 : Int32).toNatClampNeg)]) (rest := []) ⟨hx, hb, hml, hown, hts⟩ (c_X12_seek l dC dI cB cI cJ cZ ra M (20 : Int32) (M.1 7 (1 : Int32).toNatClampNeg) v9 hq10) (cwV 2 hts gX12_fresh_X12_seek rfl rfl rfl (by decide +kernel) ⟨Nat.le_of_ble_eq_true rfl, Nat.le_of_ble_eq_true rfl⟩) hK hP (fun _ _ _ _ => mPr_bl) (fun U hU hW => ⟨by rw [hU]; exact hP, va_K.moved hW.alike hK⟩) rfl rfl hl.1 rfl (lv_room (Nat.le_of_ble_eq_true rfl)) dX12_fresh_37 ⟨Nat.le_refl _, Nat.le_refl _⟩) ?_
      refine lv_if_lt (tgt := 49) hx hb dX12_fresh_40 (by decide) (fun hb15 => ?_) (fun hb15 => ?_)
      · have hf := (if_pos hb15).symm.trans hf
        refine lv_aload_n hx hb dX12_fresh_49 rfl (lv_at hl 0 rfl) ?_
        refine km_get hx hb hts hin hown hK hP 9 (by decide) (v := .ref (ra 9)) k_fieldLink_RX12_43__KeyLettersModel___names____J_ rfl dX12_fresh_50 ?_
        refine lv_iload_n hx hb dX12_fresh_53 rfl (lv_at hl 1 rfl) ?_
        refine lv_aload_n hx hb dX12_fresh_54 rfl (lv_at hl 0 rfl) ?_
        refine km_get hx hb hts hin hown hK hP 17 (by decide) (v := .long (M.2 0 17)) k_fieldLink_RX12_167__KeyLettersModel___word___J_ rfl dX12_fresh_55 ?_
        obtain ⟨hc11, hf⟩ := ck_e hf
        obtain ⟨M12, eM12, hf⟩ := bd1_e hf
        refine va_last hx hb hK hP hD hS 5 2 rfl rfl hc11 dX12_fresh_58 (fun H locs hP hD hS => ?_)
        have hP : va_P (dC, dI) vwCl (mw cB cI cJ cZ ra M12) H := by rw [eM12, ← ma_9 cB cI cJ cZ ra M a0.toNatClampNeg (M.2 0 17)]; exact hP
        have hD : va_D (mA ra s.heap.size) (mw cB cI cJ cZ ra M12) := by rw [eM12, ← ma_9 cB cI cJ cZ ra M a0.toNatClampNeg (M.2 0 17)]; exact hD
        refine lv_aload_n hx hb dX12_fresh_59 rfl (lv_at hl 0 rfl) ?_
        obtain ⟨M13, hq14, hf⟩ := bo_e hf
        refine km_callwv (M1 := M13) (km_run (As := []) (rest := []) ⟨hx, hb, hml, hown, hts⟩ (c_X12_next l dC dI cB cI cJ cZ ra _ M12  M13 hq14) (cwV 0 hts gX12_fresh_X12_next rfl rfl rfl (by decide +kernel) ⟨Nat.le_of_ble_eq_true rfl, Nat.le_of_ble_eq_true rfl⟩) hK hP (fun _ _ _ _ => mPw_bl) (fun U hU hW => ⟨by rw [hU], by rw [hU]; exact hP, va_K.moved hW.alike hK, hD.weaken (fun _ _ _ _ => trivial)⟩) rfl rfl hl.1 rfl (lv_room (Nat.le_of_ble_eq_true rfl)) dX12_fresh_60 ⟨Nat.le_refl _, Nat.le_refl _⟩) hD hS hA (fun H locs hP hD hS => ?_)
        refine lv_iconst (v := 1) hx hb dX12_fresh_63 (by decide) ?_
        have hf := Option.some.inj hf
        subst hf
        exact m_zret hx hb hr rfl hlocks hP hK hD hS dX12_fresh_64
      · have hf := (if_neg hb15).symm.trans hf
        exact h_43  M ls _ _ (lv_sub hl [0] rfl) hP hD hS hf
  · have hf := (if_pos hb21).symm.trans hf
    refine lv_aload_n hx hb dX12_fresh_7 rfl (lv_at hl 0 rfl) ?_
    refine lv_iconst (v := 1) hx hb dX12_fresh_8 (by decide) ?_
    obtain ⟨v18, M17, hq19, hf⟩ := bo2_e hf
    refine km_callw (v := v18) (M1 := M17) rfl (km_run (As := [.int (1 : Int32)]) (rest := []) ⟨hx, hb, hml, hown, hts⟩ (c_X12_bad l dC dI cB cI cJ cZ ra _ M (1 : Int32) (v18, M17) hq19) (cwV 1 hts gX12_fresh_X12_bad rfl rfl rfl (by decide +kernel) ⟨Nat.le_of_ble_eq_true rfl, Nat.le_of_ble_eq_true rfl⟩) hK hP (fun _ _ _ _ => mPw_bl) (fun U hU hW => ⟨by rw [hU], by rw [hU]; exact hP, va_K.moved hW.alike hK, hD.weaken (fun _ _ _ _ => trivial)⟩) rfl rfl hl.1 rfl (lv_room (Nat.le_of_ble_eq_true rfl)) dX12_fresh_9 ⟨Nat.le_refl _, Nat.le_refl _⟩) hD hS hA (fun H locs hP hD hS => ?_)
    obtain ⟨hz20, hf⟩ := ck_e hf
    have hf := Option.some.inj hf
    subst hf
    exact m_zret hx hb hr (kt_z (Decidable.not_not.mp hz20)) hlocks hP hK hD hS dX12_fresh_12

abbrev rm_X12_looksAt : Room := { frames := 1, cells := 0, slots := 0, locals := 23 }
set_option maxHeartbeats 4000000 in
set_option maxRecDepth 100000 in
theorem c_X12_looksAt (l : Launch) (dC : Nat → ClassId) (dI : Nat → Nat → Nat) (cB cI cJ cZ : ClassId) (ra : Nat → Nat) (sz : Nat) (M : kD) (a0 : Int32) (a1 : Int32) (r : (Int32 × kD)) (hf : f_X12_looksAt a0 a1 M = some r) : Met l yX12_looksAt wsX12_looksAt rm_X12_looksAt (va_Pc [.ref (ra 0), .int a0, .int a1] (mPw dC dI cB cI cJ cZ ra sz M)) (mQi dC dI cB cI cJ cZ ra sz r) 0 0 (mA ra sz) := by
  refine Met.ofW (cc := cX12_looksAt) (maxL := 3) (ret := (some .boolean)) (by decide) rfl ?_
  intro p e s m args below meth c s₁ B hml hv
  obtain ⟨hav, hsz, hP, hK, hD0⟩ := hv
  have hx := B.exec
  have hb := B.bytes
  have hr := B.returns
  have hts := atoms_spec (ws := wsX12_looksAt) B.pre
  have hown : s.vm.findClass RX12 = some m.cls := findClass_of_methodNamed B.named
  have hlocks := B.notSynchronized
  subst hsz
  have hA : ∀ q, s.heap.size ≤ q → mA ra s.heap.size q := fun q h => Or.inr h
  have hD : va_D (mA ra s.heap.size) (mw cB cI cJ cZ ra M) := hD0.weaken (fun k q h _ => mA_in h)
  have hS : va_S (mA ra s.heap.size) s.heap s.heap [] := va_S.rf
  have hin : ∀ w ∈ wsX120, w ∈ wsX12_looksAt := fun w h => List.mem_cons_of_mem _ (List.mem_append_right _ h)
  have k_fieldLink_RX12_190__KeyLettersModel___got___I_ := hts (.fieldLink RX12 190 "KeyLettersModel" "got" "I") (by decide +kernel)
  have hl := lv_entry ([.ref (ra 0), .int a0, .int a1]) (n := 3) (Nat.le_of_ble_eq_true rfl)
  rw [show entryFrame m args 3 = entryFrame m ([.ref (ra 0), .int a0, .int a1] : List Value).toArray 3 from by rw [hav], lg_entry_eq]
  generalize (lg_sl ([.ref (ra 0), .int a0, .int a1]) ++ List.replicate (3 - (lg_sl ([.ref (ra 0), .int a0, .int a1])).length) Slot.unset).toArray = ls at hl ⊢
  have hl : lv_has ls 3 [(0, .ref (ra 0)), (1, .int a0), (2, .int a1)] := hl
  unfold f_X12_looksAt at hf
  refine lv_aload_n hx hb dX12_looksAt_0 rfl (lv_at hl 0 rfl) ?_
  obtain ⟨v1, hq2, hf⟩ := bo_e hf
  refine ko_call (v := some (.int v1)) (km_run (As := []) (rest := []) ⟨hx, hb, hml, hown, hts⟩ (c_X12_isName l dC dI cB cI cJ cZ ra M  v1 hq2) (cwV 0 hts gX12_looksAt_X12_isName rfl rfl rfl (by decide +kernel) ⟨Nat.le_of_ble_eq_true rfl, Nat.le_of_ble_eq_true rfl⟩) hK hP (fun _ _ _ _ => mPr_bl) (fun U hU hW => ⟨by rw [hU]; exact hP, va_K.moved hW.alike hK⟩) rfl rfl hl.1 rfl (lv_room (Nat.le_of_ble_eq_true rfl)) dX12_looksAt_1 ⟨Nat.le_refl _, Nat.le_refl _⟩) ?_
  refine lv_if_ne (tgt := 13) hx hb dX12_looksAt_4 (by decide) (fun hb15 => ?_) (fun hb15 => ?_)
  · have hf := (if_neg hb15).symm.trans hf
    refine lv_aload_n hx hb dX12_looksAt_13 rfl (lv_at hl 0 rfl) ?_
    refine lv_aload_n hx hb dX12_looksAt_14 rfl (lv_at hl 0 rfl) ?_
    refine lv_iload_n hx hb dX12_looksAt_15 rfl (lv_at hl 1 rfl) ?_
    refine lv_iload_n hx hb dX12_looksAt_16 rfl (lv_at hl 2 rfl) ?_
    obtain ⟨v3, hq4, hf⟩ := bo_e hf
    refine ko_call (v := some (.int v3)) (km_run (As := [.int a0, .int a1]) (rest := [.ref (ra 0)]) ⟨hx, hb, hml, hown, hts⟩ (c_X12_seek l dC dI cB cI cJ cZ ra M a0 a1 v3 hq4) (cwV 2 hts gX12_looksAt_X12_seek rfl rfl rfl (by decide +kernel) ⟨Nat.le_of_ble_eq_true rfl, Nat.le_of_ble_eq_true rfl⟩) hK hP (fun _ _ _ _ => mPr_bl) (fun U hU hW => ⟨by rw [hU]; exact hP, va_K.moved hW.alike hK⟩) rfl rfl hl.1 rfl (lv_room (Nat.le_of_ble_eq_true rfl)) dX12_looksAt_17 ⟨Nat.le_refl _, Nat.le_refl _⟩) ?_
    obtain ⟨M5, eM5, hf⟩ := bd1_e hf
    refine km_put hx hb hts hin hown hK hP hD hS 18 (by decide) k_fieldLink_RX12_190__KeyLettersModel___got___I_ rfl (ty := .int) (v := .int v3) (by decide +kernel) rfl rfl (M1 := M5) (by rw [eM5]; exact mo_18 cB cI cJ cZ ra M v3) dX12_looksAt_20 (fun H locs hP hD hS => ?_)
    refine lv_aload_n hx hb dX12_looksAt_23 rfl (lv_at hl 0 rfl) ?_
    refine km_get hx hb hts hin hown hK hP 18 (by decide) (v := .int (M5.1 0 18)) k_fieldLink_RX12_190__KeyLettersModel___got___I_ rfl dX12_looksAt_24 ?_
    refine lv_if_ge (tgt := 38) hx hb dX12_looksAt_27 (by decide) (fun hb10 => ?_) (fun hb10 => ?_)
    · have hf := (if_pos hb10).symm.trans hf
      refine lv_iconst (v := 1) hx hb dX12_looksAt_38 (by decide) ?_
      refine lv_goto (tgt := 43) hx hb dX12_looksAt_39 (by decide) ?_
      have hf := Option.some.inj hf
      subst hf
      exact m_zret hx hb hr rfl hlocks hP hK hD hS dX12_looksAt_43
    · have hf := (if_neg hb10).symm.trans hf
      refine lv_aload_n hx hb dX12_looksAt_30 rfl (lv_at hl 0 rfl) ?_
      refine lv_iconst (v := 3) hx hb dX12_looksAt_31 (by decide) ?_
      obtain ⟨v7, M6, hq8, hf⟩ := bo2_e hf
      refine km_callw (v := v7) (M1 := M6) rfl (km_run (As := [.int (3 : Int32)]) (rest := []) ⟨hx, hb, hml, hown, hts⟩ (c_X12_bad l dC dI cB cI cJ cZ ra _ M5 (3 : Int32) (v7, M6) hq8) (cwV 1 hts gX12_looksAt_X12_bad rfl rfl rfl (by decide +kernel) ⟨Nat.le_of_ble_eq_true rfl, Nat.le_of_ble_eq_true rfl⟩) hK hP (fun _ _ _ _ => mPw_bl) (fun U hU hW => ⟨by rw [hU], by rw [hU]; exact hP, va_K.moved hW.alike hK, hD.weaken (fun _ _ _ _ => trivial)⟩) rfl rfl hl.1 rfl (lv_room (Nat.le_of_ble_eq_true rfl)) dX12_looksAt_32 ⟨Nat.le_refl _, Nat.le_refl _⟩) hD hS hA (fun H locs hP hD hS => ?_)
      refine lv_if_eq (tgt := 42) hx hb dX12_looksAt_35 (by decide) (fun hb9 => ?_) (fun hb9 => ?_)
      · have hf := (if_pos hb9).symm.trans hf
        refine lv_iconst (v := 0) hx hb dX12_looksAt_42 (by decide) ?_
        have hf := Option.some.inj hf
        subst hf
        exact m_zret hx hb hr rfl hlocks hP hK hD hS dX12_looksAt_43
      · have hf := (if_neg hb9).symm.trans hf
        refine lv_iconst (v := 1) hx hb dX12_looksAt_38 (by decide) ?_
        refine lv_goto (tgt := 43) hx hb dX12_looksAt_39 (by decide) ?_
        have hf := Option.some.inj hf
        subst hf
        exact m_zret hx hb hr rfl hlocks hP hK hD hS dX12_looksAt_43
  · have hf := (if_pos hb15).symm.trans hf
    refine lv_aload_n hx hb dX12_looksAt_7 rfl (lv_at hl 0 rfl) ?_
    refine lv_iconst (v := 1) hx hb dX12_looksAt_8 (by decide) ?_
    obtain ⟨v12, M11, hq13, hf⟩ := bo2_e hf
    refine km_callw (v := v12) (M1 := M11) rfl (km_run (As := [.int (1 : Int32)]) (rest := []) ⟨hx, hb, hml, hown, hts⟩ (c_X12_bad l dC dI cB cI cJ cZ ra _ M (1 : Int32) (v12, M11) hq13) (cwV 1 hts gX12_looksAt_X12_bad rfl rfl rfl (by decide +kernel) ⟨Nat.le_of_ble_eq_true rfl, Nat.le_of_ble_eq_true rfl⟩) hK hP (fun _ _ _ _ => mPw_bl) (fun U hU hW => ⟨by rw [hU], by rw [hU]; exact hP, va_K.moved hW.alike hK, hD.weaken (fun _ _ _ _ => trivial)⟩) rfl rfl hl.1 rfl (lv_room (Nat.le_of_ble_eq_true rfl)) dX12_looksAt_9 ⟨Nat.le_refl _, Nat.le_refl _⟩) hD hS hA (fun H locs hP hD hS => ?_)
    obtain ⟨hz14, hf⟩ := ck_e hf
    have hf := Option.some.inj hf
    subst hf
    exact m_zret hx hb hr (kt_z (Decidable.not_not.mp hz14)) hlocks hP hK hD hS dX12_looksAt_12

abbrev rm_X12_takesName : Room := { frames := 2, cells := 0, slots := 0, locals := 45 }
set_option maxHeartbeats 4000000 in
set_option maxRecDepth 100000 in
theorem c_X12_takesName (l : Launch) (dC : Nat → ClassId) (dI : Nat → Nat → Nat) (cB cI cJ cZ : ClassId) (ra : Nat → Nat) (sz : Nat) (M : kD) (a0 : Int32) (a1 : Int32) (r : (Int32 × kD)) (hf : f_X12_takesName a0 a1 M = some r) : Met l yX12_takesName wsX12_takesName rm_X12_takesName (va_Pc [.ref (ra 0), .int a0, .int a1] (mPw dC dI cB cI cJ cZ ra sz M)) (mQi dC dI cB cI cJ cZ ra sz r) 0 0 (mA ra sz) := by
  refine Met.ofW (cc := cX12_takesName) (maxL := 3) (ret := (some .boolean)) (by decide) rfl ?_
  intro p e s m args below meth c s₁ B hml hv
  obtain ⟨hav, hsz, hP, hK, hD0⟩ := hv
  have hx := B.exec
  have hb := B.bytes
  have hr := B.returns
  have hts := atoms_spec (ws := wsX12_takesName) B.pre
  have hown : s.vm.findClass RX12 = some m.cls := findClass_of_methodNamed B.named
  have hlocks := B.notSynchronized
  subst hsz
  have hA : ∀ q, s.heap.size ≤ q → mA ra s.heap.size q := fun q h => Or.inr h
  have hD : va_D (mA ra s.heap.size) (mw cB cI cJ cZ ra M) := hD0.weaken (fun k q h _ => mA_in h)
  have hS : va_S (mA ra s.heap.size) s.heap s.heap [] := va_S.rf
  have hin : ∀ w ∈ wsX120, w ∈ wsX12_takesName := fun w h => List.mem_cons_of_mem _ (List.mem_append_right _ h)
  have hl := lv_entry ([.ref (ra 0), .int a0, .int a1]) (n := 3) (Nat.le_of_ble_eq_true rfl)
  rw [show entryFrame m args 3 = entryFrame m ([.ref (ra 0), .int a0, .int a1] : List Value).toArray 3 from by rw [hav], lg_entry_eq]
  generalize (lg_sl ([.ref (ra 0), .int a0, .int a1]) ++ List.replicate (3 - (lg_sl ([.ref (ra 0), .int a0, .int a1])).length) Slot.unset).toArray = ls at hl ⊢
  have hl : lv_has ls 3 [(0, .ref (ra 0)), (1, .int a0), (2, .int a1)] := hl
  unfold f_X12_takesName at hf
  refine lv_aload_n hx hb dX12_takesName_0 rfl (lv_at hl 0 rfl) ?_
  refine lv_iload_n hx hb dX12_takesName_1 rfl (lv_at hl 1 rfl) ?_
  refine lv_iload_n hx hb dX12_takesName_2 rfl (lv_at hl 2 rfl) ?_
  obtain ⟨v2, M1, hq3, hf⟩ := bo2_e hf
  refine km_callw (v := v2) (M1 := M1) rfl (km_run (As := [.int a0, .int a1]) (rest := []) ⟨hx, hb, hml, hown, hts⟩ (c_X12_looksAt l dC dI cB cI cJ cZ ra _ M a0 a1 (v2, M1) hq3) (cwV 2 hts gX12_takesName_X12_looksAt rfl rfl rfl (by decide +kernel) ⟨Nat.le_of_ble_eq_true rfl, Nat.le_of_ble_eq_true rfl⟩) hK hP (fun _ _ _ _ => mPw_bl) (fun U hU hW => ⟨by rw [hU], by rw [hU]; exact hP, va_K.moved hW.alike hK, hD.weaken (fun _ _ _ _ => trivial)⟩) rfl rfl hl.1 rfl (lv_room (Nat.le_of_ble_eq_true rfl)) dX12_takesName_3 ⟨Nat.le_refl _, Nat.le_refl _⟩) hD hS hA (fun H locs hP hD hS => ?_)
  refine lv_if_ne (tgt := 11) hx hb dX12_takesName_6 (by decide) (fun hb6 => ?_) (fun hb6 => ?_)
  · have hf := (if_neg hb6).symm.trans hf
    refine lv_aload_n hx hb dX12_takesName_11 rfl (lv_at hl 0 rfl) ?_
    obtain ⟨M4, hq5, hf⟩ := bo_e hf
    refine km_callwv (M1 := M4) (km_run (As := []) (rest := []) ⟨hx, hb, hml, hown, hts⟩ (c_X12_next l dC dI cB cI cJ cZ ra _ M1  M4 hq5) (cwV 0 hts gX12_takesName_X12_next rfl rfl rfl (by decide +kernel) ⟨Nat.le_of_ble_eq_true rfl, Nat.le_of_ble_eq_true rfl⟩) hK hP (fun _ _ _ _ => mPw_bl) (fun U hU hW => ⟨by rw [hU], by rw [hU]; exact hP, va_K.moved hW.alike hK, hD.weaken (fun _ _ _ _ => trivial)⟩) rfl rfl hl.1 rfl (lv_room (Nat.le_of_ble_eq_true rfl)) dX12_takesName_12 ⟨Nat.le_refl _, Nat.le_refl _⟩) hD hS hA (fun H locs hP hD hS => ?_)
    refine lv_iconst (v := 1) hx hb dX12_takesName_15 (by decide) ?_
    have hf := Option.some.inj hf
    subst hf
    exact m_zret hx hb hr rfl hlocks hP hK hD hS dX12_takesName_16
  · have hf := (if_pos hb6).symm.trans hf
    refine lv_iconst (v := 0) hx hb dX12_takesName_9 (by decide) ?_
    have hf := Option.some.inj hf
    subst hf
    exact m_zret hx hb hr rfl hlocks hP hK hD hS dX12_takesName_10

abbrev rm_X12_readMachine : Room := { frames := 4, cells := 0, slots := 0, locals := 88 }
set_option maxHeartbeats 4000000 in
set_option maxRecDepth 100000 in
theorem c_X12_readMachine (l : Launch) (dC : Nat → ClassId) (dI : Nat → Nat → Nat) (cB cI cJ cZ : ClassId) (ra : Nat → Nat) (sz : Nat) (M : kD)  (r : (Int32 × kD)) (hf : f_X12_readMachine  M = some r) : Met l yX12_readMachine wsX12_readMachine rm_X12_readMachine (va_Pc [.ref (ra 0)] (mPw dC dI cB cI cJ cZ ra sz M)) (mQi dC dI cB cI cJ cZ ra sz r) 0 0 (mA ra sz) := by
  refine Met.ofW (cc := cX12_readMachine) (maxL := 2) (ret := (some .boolean)) (by decide) rfl ?_
  intro p e s m args below meth c s₁ B hml hv
  obtain ⟨hav, hsz, hP, hK, hD0⟩ := hv
  have hx := B.exec
  have hb := B.bytes
  have hr := B.returns
  have hts := atoms_spec (ws := wsX12_readMachine) B.pre
  have hown : s.vm.findClass RX12 = some m.cls := findClass_of_methodNamed B.named
  have hlocks := B.notSynchronized
  subst hsz
  have hA : ∀ q, s.heap.size ≤ q → mA ra s.heap.size q := fun q h => Or.inr h
  have hD : va_D (mA ra s.heap.size) (mw cB cI cJ cZ ra M) := hD0.weaken (fun k q h _ => mA_in h)
  have hS : va_S (mA ra s.heap.size) s.heap s.heap [] := va_S.rf
  have hin : ∀ w ∈ wsX120, w ∈ wsX12_readMachine := fun w h => List.mem_cons_of_mem _ (List.mem_append_right _ h)
  have k_fieldLink_RX12_37__KeyLettersModel___h____I_ := hts (.fieldLink RX12 37 "KeyLettersModel" "h" "[I") (by decide +kernel)
  have hl := lv_entry ([.ref (ra 0)]) (n := 2) (Nat.le_of_ble_eq_true rfl)
  rw [show entryFrame m args 2 = entryFrame m ([.ref (ra 0)] : List Value).toArray 2 from by rw [hav], lg_entry_eq]
  generalize (lg_sl ([.ref (ra 0)]) ++ List.replicate (2 - (lg_sl ([.ref (ra 0)])).length) Slot.unset).toArray = ls at hl ⊢
  have hl : lv_has ls 2 [(0, .ref (ra 0))] := hl
  unfold f_X12_readMachine at hf
  refine lv_aload_n hx hb dX12_readMachine_0 rfl (lv_at hl 0 rfl) ?_
  refine km_get hx hb hts hin hown hK hP 7 (by decide) (v := .ref (ra 7)) k_fieldLink_RX12_37__KeyLettersModel___h____I_ rfl dX12_readMachine_1 ?_
  refine lv_iconst (v := 0) hx hb dX12_readMachine_4 (by decide) ?_
  refine va_iald hx hb hK hP 3 1 rfl rfl (show ¬ ((0 : Int32) < 0 ∨ 39 ≤ (0 : Int32).toNatClampNeg) by decide +kernel) dX12_readMachine_5 ?_
  obtain ⟨v1, ev1, hf⟩ := bd1_e hf
  refine kt_i ev1 ?_
  refine lv_istore_n (nL := 2) (lv' := [(1, .int v1), (0, .ref (ra 0))]) hx hb dX12_readMachine_6 rfl hl (by decide) rfl (fun ls hl => ?_)
  refine lv_iload_n hx hb dX12_readMachine_7 rfl (lv_at hl 0 rfl) ?_
  refine lv_bipush (v := 6) hx hb dX12_readMachine_8 (by decide) ?_
  refine lv_icmp_ne (tgt := 19) hx hb dX12_readMachine_10 (by decide) (fun hb17 => ?_) (fun hb17 => ?_)
  · have hf := (if_neg hb17).symm.trans hf
    refine lv_aload_n hx hb dX12_readMachine_19 rfl (lv_at hl 1 rfl) ?_
    obtain ⟨M2, hq3, hf⟩ := bo_e hf
    refine km_callwv (M1 := M2) (km_run (As := []) (rest := []) ⟨hx, hb, hml, hown, hts⟩ (c_X12_next l dC dI cB cI cJ cZ ra _ M  M2 hq3) (cwV 0 hts gX12_readMachine_X12_next rfl rfl rfl (by decide +kernel) ⟨Nat.le_of_ble_eq_true rfl, Nat.le_of_ble_eq_true rfl⟩) hK hP (fun _ _ _ _ => mPw_bl) (fun U hU hW => ⟨by rw [hU], by rw [hU]; exact hP, va_K.moved hW.alike hK, hD.weaken (fun _ _ _ _ => trivial)⟩) rfl rfl hl.1 rfl (lv_room (Nat.le_of_ble_eq_true rfl)) dX12_readMachine_20 ⟨Nat.le_refl _, Nat.le_refl _⟩) hD hS hA (fun H locs hP hD hS => ?_)
    refine lv_aload_n hx hb dX12_readMachine_23 rfl (lv_at hl 1 rfl) ?_
    refine lv_bipush (v := 14) hx hb dX12_readMachine_24 (by decide) ?_
    refine lv_iload_n hx hb dX12_readMachine_26 rfl (lv_at hl 0 rfl) ?_
    refine lv_iadd hx hb dX12_readMachine_27 ?_
    obtain ⟨v5, M4, hq6, hf⟩ := bo2_e hf
    refine km_callw (v := v5) (M1 := M4) rfl (km_run (As := [.int ((14 : Int32) + v1)]) (rest := []) ⟨hx, hb, hml, hown, hts⟩ (c_X12_fresh l dC dI cB cI cJ cZ ra _ M2 ((14 : Int32) + v1) (v5, M4) hq6) (cwV 1 hts gX12_readMachine_X12_fresh rfl rfl rfl (by decide +kernel) ⟨Nat.le_of_ble_eq_true rfl, Nat.le_of_ble_eq_true rfl⟩) hK hP (fun _ _ _ _ => mPw_bl) (fun U hU hW => ⟨by rw [hU], by rw [hU]; exact hP, va_K.moved hW.alike hK, hD.weaken (fun _ _ _ _ => trivial)⟩) rfl rfl hl.1 rfl (lv_room (Nat.le_of_ble_eq_true rfl)) dX12_readMachine_28 ⟨Nat.le_refl _, Nat.le_refl _⟩) hD hS hA (fun H locs hP hD hS => ?_)
    refine lv_if_eq (tgt := 48) hx hb dX12_readMachine_31 (by decide) (fun hb12 => ?_) (fun hb12 => ?_)
    · have hf := (if_pos hb12).symm.trans hf
      refine lv_iconst (v := 0) hx hb dX12_readMachine_48 (by decide) ?_
      have hf := Option.some.inj hf
      subst hf
      exact m_zret hx hb hr rfl hlocks hP hK hD hS dX12_readMachine_49
    · have hf := (if_neg hb12).symm.trans hf
      refine lv_aload_n hx hb dX12_readMachine_34 rfl (lv_at hl 1 rfl) ?_
      refine lv_iconst (v := 3) hx hb dX12_readMachine_35 (by decide) ?_
      refine lv_iload_n hx hb dX12_readMachine_36 rfl (lv_at hl 0 rfl) ?_
      refine lv_iadd hx hb dX12_readMachine_37 ?_
      refine lv_iconst (v := 0) hx hb dX12_readMachine_38 (by decide) ?_
      refine lv_sipush (v := 999) hx hb dX12_readMachine_39 (by decide) ?_
      obtain ⟨v8, M7, hq9, hf⟩ := bo2_e hf
      refine km_callw (v := v8) (M1 := M7) rfl (km_run (As := [.int ((3 : Int32) + v1), .int (0 : Int32), .int (999 : Int32)]) (rest := []) ⟨hx, hb, hml, hown, hts⟩ (c_X12_puts l dC dI cB cI cJ cZ ra _ M4 ((3 : Int32) + v1) (0 : Int32) (999 : Int32) (v8, M7) hq9) (cwV 3 hts gX12_readMachine_X12_puts rfl rfl rfl (by decide +kernel) ⟨Nat.le_of_ble_eq_true rfl, Nat.le_of_ble_eq_true rfl⟩) hK hP (fun _ _ _ _ => mPw_bl) (fun U hU hW => ⟨by rw [hU], by rw [hU]; exact hP, va_K.moved hW.alike hK, hD.weaken (fun _ _ _ _ => trivial)⟩) rfl rfl hl.1 rfl (lv_room (Nat.le_of_ble_eq_true rfl)) dX12_readMachine_42 ⟨Nat.le_refl _, Nat.le_refl _⟩) hD hS hA (fun H locs hP hD hS => ?_)
      refine lv_if_ne (tgt := 50) hx hb dX12_readMachine_45 (by decide) (fun hb11 => ?_) (fun hb11 => ?_)
      · have hf := (if_neg hb11).symm.trans hf
        refine lv_aload_n hx hb dX12_readMachine_50 rfl (lv_at hl 1 rfl) ?_
        refine km_get hx hb hts hin hown hK hP 7 (by decide) (v := .ref (ra 7)) k_fieldLink_RX12_37__KeyLettersModel___h____I_ rfl dX12_readMachine_51 ?_
        refine lv_iconst (v := 0) hx hb dX12_readMachine_54 (by decide) ?_
        refine lv_dup2_11 hx hb dX12_readMachine_55 rfl rfl ?_
        refine va_iald hx hb hK hP 3 1 rfl rfl (show ¬ ((0 : Int32) < 0 ∨ 39 ≤ (0 : Int32).toNatClampNeg) by decide +kernel) dX12_readMachine_56 ?_
        refine lv_iconst (v := 1) hx hb dX12_readMachine_57 (by decide) ?_
        refine lv_iadd hx hb dX12_readMachine_58 ?_
        obtain ⟨M10, eM10, hf⟩ := bd1_e hf
        refine va_iast hx hb hK hP hD hS 3 1 rfl rfl (show ¬ ((0 : Int32) < 0 ∨ 39 ≤ (0 : Int32).toNatClampNeg) by decide +kernel) dX12_readMachine_59 (fun H locs hP hD hS => ?_)
        have hP : va_P (dC, dI) vwCl (mw cB cI cJ cZ ra M10) H := by rw [eM10, ← ma_7 cB cI cJ cZ ra M7 (0 : Int32).toNatClampNeg ((M7.1 7 (0 : Int32).toNatClampNeg) + (1 : Int32))]; exact hP
        have hD : va_D (mA ra s.heap.size) (mw cB cI cJ cZ ra M10) := by rw [eM10, ← ma_7 cB cI cJ cZ ra M7 (0 : Int32).toNatClampNeg ((M7.1 7 (0 : Int32).toNatClampNeg) + (1 : Int32))]; exact hD
        refine lv_iconst (v := 1) hx hb dX12_readMachine_60 (by decide) ?_
        have hf := Option.some.inj hf
        subst hf
        exact m_zret hx hb hr rfl hlocks hP hK hD hS dX12_readMachine_61
      · have hf := (if_pos hb11).symm.trans hf
        refine lv_iconst (v := 0) hx hb dX12_readMachine_48 (by decide) ?_
        have hf := Option.some.inj hf
        subst hf
        exact m_zret hx hb hr rfl hlocks hP hK hD hS dX12_readMachine_49
  · have hf := (if_pos hb17).symm.trans hf
    refine lv_aload_n hx hb dX12_readMachine_13 rfl (lv_at hl 1 rfl) ?_
    refine lv_iconst (v := 4) hx hb dX12_readMachine_14 (by decide) ?_
    obtain ⟨v14, M13, hq15, hf⟩ := bo2_e hf
    refine km_callw (v := v14) (M1 := M13) rfl (km_run (As := [.int (4 : Int32)]) (rest := []) ⟨hx, hb, hml, hown, hts⟩ (c_X12_bad l dC dI cB cI cJ cZ ra _ M (4 : Int32) (v14, M13) hq15) (cwV 1 hts gX12_readMachine_X12_bad rfl rfl rfl (by decide +kernel) ⟨Nat.le_of_ble_eq_true rfl, Nat.le_of_ble_eq_true rfl⟩) hK hP (fun _ _ _ _ => mPw_bl) (fun U hU hW => ⟨by rw [hU], by rw [hU]; exact hP, va_K.moved hW.alike hK, hD.weaken (fun _ _ _ _ => trivial)⟩) rfl rfl hl.1 rfl (lv_room (Nat.le_of_ble_eq_true rfl)) dX12_readMachine_15 ⟨Nat.le_refl _, Nat.le_refl _⟩) hD hS hA (fun H locs hP hD hS => ?_)
    obtain ⟨hz16, hf⟩ := ck_e hf
    have hf := Option.some.inj hf
    subst hf
    exact m_zret hx hb hr (kt_z (Decidable.not_not.mp hz16)) hlocks hP hK hD hS dX12_readMachine_18

abbrev rm_X12_readPhrase : Room := { frames := 4, cells := 0, slots := 0, locals := 88 }
set_option maxHeartbeats 4000000 in
set_option maxRecDepth 100000 in
theorem c_X12_readPhrase (l : Launch) (dC : Nat → ClassId) (dI : Nat → Nat → Nat) (cB cI cJ cZ : ClassId) (ra : Nat → Nat) (sz : Nat) (M : kD)  (r : (Int32 × kD)) (hf : f_X12_readPhrase  M = some r) : Met l yX12_readPhrase wsX12_readPhrase rm_X12_readPhrase (va_Pc [.ref (ra 0)] (mPw dC dI cB cI cJ cZ ra sz M)) (mQi dC dI cB cI cJ cZ ra sz r) 0 0 (mA ra sz) := by
  refine Met.ofW (cc := cX12_readPhrase) (maxL := 2) (ret := (some .boolean)) (by decide) rfl ?_
  intro p e s m args below meth c s₁ B hml hv
  obtain ⟨hav, hsz, hP, hK, hD0⟩ := hv
  have hx := B.exec
  have hb := B.bytes
  have hr := B.returns
  have hts := atoms_spec (ws := wsX12_readPhrase) B.pre
  have hown : s.vm.findClass RX12 = some m.cls := findClass_of_methodNamed B.named
  have hlocks := B.notSynchronized
  subst hsz
  have hA : ∀ q, s.heap.size ≤ q → mA ra s.heap.size q := fun q h => Or.inr h
  have hD : va_D (mA ra s.heap.size) (mw cB cI cJ cZ ra M) := hD0.weaken (fun k q h _ => mA_in h)
  have hS : va_S (mA ra s.heap.size) s.heap s.heap [] := va_S.rf
  have hin : ∀ w ∈ wsX120, w ∈ wsX12_readPhrase := fun w h => List.mem_cons_of_mem _ (List.mem_append_right _ h)
  have k_fieldLink_RX12_37__KeyLettersModel___h____I_ := hts (.fieldLink RX12 37 "KeyLettersModel" "h" "[I") (by decide +kernel)
  have hl := lv_entry ([.ref (ra 0)]) (n := 2) (Nat.le_of_ble_eq_true rfl)
  rw [show entryFrame m args 2 = entryFrame m ([.ref (ra 0)] : List Value).toArray 2 from by rw [hav], lg_entry_eq]
  generalize (lg_sl ([.ref (ra 0)]) ++ List.replicate (2 - (lg_sl ([.ref (ra 0)])).length) Slot.unset).toArray = ls at hl ⊢
  have hl : lv_has ls 2 [(0, .ref (ra 0))] := hl
  unfold f_X12_readPhrase at hf
  refine lv_aload_n hx hb dX12_readPhrase_0 rfl (lv_at hl 0 rfl) ?_
  refine km_get hx hb hts hin hown hK hP 7 (by decide) (v := .ref (ra 7)) k_fieldLink_RX12_37__KeyLettersModel___h____I_ rfl dX12_readPhrase_1 ?_
  refine lv_iconst (v := 1) hx hb dX12_readPhrase_4 (by decide) ?_
  refine va_iald hx hb hK hP 3 1 rfl rfl (show ¬ ((1 : Int32) < 0 ∨ 39 ≤ (1 : Int32).toNatClampNeg) by decide +kernel) dX12_readPhrase_5 ?_
  obtain ⟨v1, ev1, hf⟩ := bd1_e hf
  refine kt_i ev1 ?_
  refine lv_istore_n (nL := 2) (lv' := [(1, .int v1), (0, .ref (ra 0))]) hx hb dX12_readPhrase_6 rfl hl (by decide) rfl (fun ls hl => ?_)
  refine lv_iload_n hx hb dX12_readPhrase_7 rfl (lv_at hl 0 rfl) ?_
  refine lv_bipush (v := 8) hx hb dX12_readPhrase_8 (by decide) ?_
  refine lv_icmp_ne (tgt := 19) hx hb dX12_readPhrase_10 (by decide) (fun hb21 => ?_) (fun hb21 => ?_)
  · have hf := (if_neg hb21).symm.trans hf
    refine lv_aload_n hx hb dX12_readPhrase_19 rfl (lv_at hl 1 rfl) ?_
    obtain ⟨M2, hq3, hf⟩ := bo_e hf
    refine km_callwv (M1 := M2) (km_run (As := []) (rest := []) ⟨hx, hb, hml, hown, hts⟩ (c_X12_next l dC dI cB cI cJ cZ ra _ M  M2 hq3) (cwV 0 hts gX12_readPhrase_X12_next rfl rfl rfl (by decide +kernel) ⟨Nat.le_of_ble_eq_true rfl, Nat.le_of_ble_eq_true rfl⟩) hK hP (fun _ _ _ _ => mPw_bl) (fun U hU hW => ⟨by rw [hU], by rw [hU]; exact hP, va_K.moved hW.alike hK, hD.weaken (fun _ _ _ _ => trivial)⟩) rfl rfl hl.1 rfl (lv_room (Nat.le_of_ble_eq_true rfl)) dX12_readPhrase_20 ⟨Nat.le_refl _, Nat.le_refl _⟩) hD hS hA (fun H locs hP hD hS => ?_)
    refine lv_aload_n hx hb dX12_readPhrase_23 rfl (lv_at hl 1 rfl) ?_
    refine lv_bipush (v := 20) hx hb dX12_readPhrase_24 (by decide) ?_
    refine lv_iload_n hx hb dX12_readPhrase_26 rfl (lv_at hl 0 rfl) ?_
    refine lv_iadd hx hb dX12_readPhrase_27 ?_
    obtain ⟨v5, M4, hq6, hf⟩ := bo2_e hf
    refine km_callw (v := v5) (M1 := M4) rfl (km_run (As := [.int ((20 : Int32) + v1)]) (rest := []) ⟨hx, hb, hml, hown, hts⟩ (c_X12_fresh l dC dI cB cI cJ cZ ra _ M2 ((20 : Int32) + v1) (v5, M4) hq6) (cwV 1 hts gX12_readPhrase_X12_fresh rfl rfl rfl (by decide +kernel) ⟨Nat.le_of_ble_eq_true rfl, Nat.le_of_ble_eq_true rfl⟩) hK hP (fun _ _ _ _ => mPw_bl) (fun U hU hW => ⟨by rw [hU], by rw [hU]; exact hP, va_K.moved hW.alike hK, hD.weaken (fun _ _ _ _ => trivial)⟩) rfl rfl hl.1 rfl (lv_room (Nat.le_of_ble_eq_true rfl)) dX12_readPhrase_28 ⟨Nat.le_refl _, Nat.le_refl _⟩) hD hS hA (fun H locs hP hD hS => ?_)
    refine lv_if_eq (tgt := 62) hx hb dX12_readPhrase_31 (by decide) (fun hb16 => ?_) (fun hb16 => ?_)
    · have hf := (if_pos hb16).symm.trans hf
      refine lv_iconst (v := 0) hx hb dX12_readPhrase_62 (by decide) ?_
      have hf := Option.some.inj hf
      subst hf
      exact m_zret hx hb hr rfl hlocks hP hK hD hS dX12_readPhrase_63
    · have hf := (if_neg hb16).symm.trans hf
      refine lv_aload_n hx hb dX12_readPhrase_34 rfl (lv_at hl 1 rfl) ?_
      refine lv_bipush (v := 15) hx hb dX12_readPhrase_35 (by decide) ?_
      refine lv_iload_n hx hb dX12_readPhrase_37 rfl (lv_at hl 0 rfl) ?_
      refine lv_iadd hx hb dX12_readPhrase_38 ?_
      refine lv_iconst (v := 1) hx hb dX12_readPhrase_39 (by decide) ?_
      refine lv_bipush (v := 40) hx hb dX12_readPhrase_40 (by decide) ?_
      obtain ⟨v8, M7, hq9, hf⟩ := bo2_e hf
      refine km_callw (v := v8) (M1 := M7) rfl (km_run (As := [.int ((15 : Int32) + v1), .int (1 : Int32), .int (40 : Int32)]) (rest := []) ⟨hx, hb, hml, hown, hts⟩ (c_X12_puts l dC dI cB cI cJ cZ ra _ M4 ((15 : Int32) + v1) (1 : Int32) (40 : Int32) (v8, M7) hq9) (cwV 3 hts gX12_readPhrase_X12_puts rfl rfl rfl (by decide +kernel) ⟨Nat.le_of_ble_eq_true rfl, Nat.le_of_ble_eq_true rfl⟩) hK hP (fun _ _ _ _ => mPw_bl) (fun U hU hW => ⟨by rw [hU], by rw [hU]; exact hP, va_K.moved hW.alike hK, hD.weaken (fun _ _ _ _ => trivial)⟩) rfl rfl hl.1 rfl (lv_room (Nat.le_of_ble_eq_true rfl)) dX12_readPhrase_42 ⟨Nat.le_refl _, Nat.le_refl _⟩) hD hS hA (fun H locs hP hD hS => ?_)
      refine lv_if_eq (tgt := 62) hx hb dX12_readPhrase_45 (by decide) (fun hb15 => ?_) (fun hb15 => ?_)
      · have hf := (if_pos hb15).symm.trans hf
        refine lv_iconst (v := 0) hx hb dX12_readPhrase_62 (by decide) ?_
        have hf := Option.some.inj hf
        subst hf
        exact m_zret hx hb hr rfl hlocks hP hK hD hS dX12_readPhrase_63
      · have hf := (if_neg hb15).symm.trans hf
        refine lv_aload_n hx hb dX12_readPhrase_48 rfl (lv_at hl 1 rfl) ?_
        refine lv_bipush (v := 23) hx hb dX12_readPhrase_49 (by decide) ?_
        refine lv_iload_n hx hb dX12_readPhrase_51 rfl (lv_at hl 0 rfl) ?_
        refine lv_iadd hx hb dX12_readPhrase_52 ?_
        refine lv_iconst (v := 0) hx hb dX12_readPhrase_53 (by decide) ?_
        refine lv_bipush (v := 99) hx hb dX12_readPhrase_54 (by decide) ?_
        obtain ⟨v11, M10, hq12, hf⟩ := bo2_e hf
        refine km_callw (v := v11) (M1 := M10) rfl (km_run (As := [.int ((23 : Int32) + v1), .int (0 : Int32), .int (99 : Int32)]) (rest := []) ⟨hx, hb, hml, hown, hts⟩ (c_X12_puts l dC dI cB cI cJ cZ ra _ M7 ((23 : Int32) + v1) (0 : Int32) (99 : Int32) (v11, M10) hq12) (cwV 3 hts gX12_readPhrase_X12_puts rfl rfl rfl (by decide +kernel) ⟨Nat.le_of_ble_eq_true rfl, Nat.le_of_ble_eq_true rfl⟩) hK hP (fun _ _ _ _ => mPw_bl) (fun U hU hW => ⟨by rw [hU], by rw [hU]; exact hP, va_K.moved hW.alike hK, hD.weaken (fun _ _ _ _ => trivial)⟩) rfl rfl hl.1 rfl (lv_room (Nat.le_of_ble_eq_true rfl)) dX12_readPhrase_56 ⟨Nat.le_refl _, Nat.le_refl _⟩) hD hS hA (fun H locs hP hD hS => ?_)
        refine lv_if_ne (tgt := 64) hx hb dX12_readPhrase_59 (by decide) (fun hb14 => ?_) (fun hb14 => ?_)
        · have hf := (if_neg hb14).symm.trans hf
          refine lv_aload_n hx hb dX12_readPhrase_64 rfl (lv_at hl 1 rfl) ?_
          refine km_get hx hb hts hin hown hK hP 7 (by decide) (v := .ref (ra 7)) k_fieldLink_RX12_37__KeyLettersModel___h____I_ rfl dX12_readPhrase_65 ?_
          refine lv_iconst (v := 1) hx hb dX12_readPhrase_68 (by decide) ?_
          refine lv_dup2_11 hx hb dX12_readPhrase_69 rfl rfl ?_
          refine va_iald hx hb hK hP 3 1 rfl rfl (show ¬ ((1 : Int32) < 0 ∨ 39 ≤ (1 : Int32).toNatClampNeg) by decide +kernel) dX12_readPhrase_70 ?_
          refine lv_iconst (v := 1) hx hb dX12_readPhrase_71 (by decide) ?_
          refine lv_iadd hx hb dX12_readPhrase_72 ?_
          obtain ⟨M13, eM13, hf⟩ := bd1_e hf
          refine va_iast hx hb hK hP hD hS 3 1 rfl rfl (show ¬ ((1 : Int32) < 0 ∨ 39 ≤ (1 : Int32).toNatClampNeg) by decide +kernel) dX12_readPhrase_73 (fun H locs hP hD hS => ?_)
          have hP : va_P (dC, dI) vwCl (mw cB cI cJ cZ ra M13) H := by rw [eM13, ← ma_7 cB cI cJ cZ ra M10 (1 : Int32).toNatClampNeg ((M10.1 7 (1 : Int32).toNatClampNeg) + (1 : Int32))]; exact hP
          have hD : va_D (mA ra s.heap.size) (mw cB cI cJ cZ ra M13) := by rw [eM13, ← ma_7 cB cI cJ cZ ra M10 (1 : Int32).toNatClampNeg ((M10.1 7 (1 : Int32).toNatClampNeg) + (1 : Int32))]; exact hD
          refine lv_iconst (v := 1) hx hb dX12_readPhrase_74 (by decide) ?_
          have hf := Option.some.inj hf
          subst hf
          exact m_zret hx hb hr rfl hlocks hP hK hD hS dX12_readPhrase_75
        · have hf := (if_pos hb14).symm.trans hf
          refine lv_iconst (v := 0) hx hb dX12_readPhrase_62 (by decide) ?_
          have hf := Option.some.inj hf
          subst hf
          exact m_zret hx hb hr rfl hlocks hP hK hD hS dX12_readPhrase_63
  · have hf := (if_pos hb21).symm.trans hf
    refine lv_aload_n hx hb dX12_readPhrase_13 rfl (lv_at hl 1 rfl) ?_
    refine lv_iconst (v := 4) hx hb dX12_readPhrase_14 (by decide) ?_
    obtain ⟨v18, M17, hq19, hf⟩ := bo2_e hf
    refine km_callw (v := v18) (M1 := M17) rfl (km_run (As := [.int (4 : Int32)]) (rest := []) ⟨hx, hb, hml, hown, hts⟩ (c_X12_bad l dC dI cB cI cJ cZ ra _ M (4 : Int32) (v18, M17) hq19) (cwV 1 hts gX12_readPhrase_X12_bad rfl rfl rfl (by decide +kernel) ⟨Nat.le_of_ble_eq_true rfl, Nat.le_of_ble_eq_true rfl⟩) hK hP (fun _ _ _ _ => mPw_bl) (fun U hU hW => ⟨by rw [hU], by rw [hU]; exact hP, va_K.moved hW.alike hK, hD.weaken (fun _ _ _ _ => trivial)⟩) rfl rfl hl.1 rfl (lv_room (Nat.le_of_ble_eq_true rfl)) dX12_readPhrase_15 ⟨Nat.le_refl _, Nat.le_refl _⟩) hD hS hA (fun H locs hP hD hS => ?_)
    obtain ⟨hz20, hf⟩ := ck_e hf
    have hf := Option.some.inj hf
    subst hf
    exact m_zret hx hb hr (kt_z (Decidable.not_not.mp hz20)) hlocks hP hK hD hS dX12_readPhrase_18

abbrev rm_X12_readKnows : Room := { frames := 3, cells := 0, slots := 0, locals := 67 }
set_option maxHeartbeats 4000000 in
set_option maxRecDepth 100000 in
theorem c_X12_readKnows (l : Launch) (dC : Nat → ClassId) (dI : Nat → Nat → Nat) (cB cI cJ cZ : ClassId) (ra : Nat → Nat) (sz : Nat) (M : kD)  (r : (Int32 × kD)) (hf : f_X12_readKnows  M = some r) : Met l yX12_readKnows wsX12_readKnows rm_X12_readKnows (va_Pc [.ref (ra 0)] (mPw dC dI cB cI cJ cZ ra sz M)) (mQi dC dI cB cI cJ cZ ra sz r) 0 0 (mA ra sz) := by
  refine Met.ofW (cc := cX12_readKnows) (maxL := 2) (ret := (some .boolean)) (by decide) rfl ?_
  intro p e s m args below meth c s₁ B hml hv
  obtain ⟨hav, hsz, hP, hK, hD0⟩ := hv
  have hx := B.exec
  have hb := B.bytes
  have hr := B.returns
  have hts := atoms_spec (ws := wsX12_readKnows) B.pre
  have hown : s.vm.findClass RX12 = some m.cls := findClass_of_methodNamed B.named
  have hlocks := B.notSynchronized
  subst hsz
  have hA : ∀ q, s.heap.size ≤ q → mA ra s.heap.size q := fun q h => Or.inr h
  have hD : va_D (mA ra s.heap.size) (mw cB cI cJ cZ ra M) := hD0.weaken (fun k q h _ => mA_in h)
  have hS : va_S (mA ra s.heap.size) s.heap s.heap [] := va_S.rf
  have hin : ∀ w ∈ wsX120, w ∈ wsX12_readKnows := fun w h => List.mem_cons_of_mem _ (List.mem_append_right _ h)
  have k_fieldLink_RX12_190__KeyLettersModel___got___I_ := hts (.fieldLink RX12 190 "KeyLettersModel" "got" "I") (by decide +kernel)
  have k_fieldLink_RX12_37__KeyLettersModel___h____I_ := hts (.fieldLink RX12 37 "KeyLettersModel" "h" "[I") (by decide +kernel)
  have hl := lv_entry ([.ref (ra 0)]) (n := 2) (Nat.le_of_ble_eq_true rfl)
  rw [show entryFrame m args 2 = entryFrame m ([.ref (ra 0)] : List Value).toArray 2 from by rw [hav], lg_entry_eq]
  generalize (lg_sl ([.ref (ra 0)]) ++ List.replicate (2 - (lg_sl ([.ref (ra 0)])).length) Slot.unset).toArray = ls at hl ⊢
  have hl : lv_has ls 2 [(0, .ref (ra 0))] := hl
  unfold f_X12_readKnows at hf
  refine lv_aload_n hx hb dX12_readKnows_0 rfl (lv_at hl 0 rfl) ?_
  obtain ⟨M1, hq2, hf⟩ := bo_e hf
  refine km_callwv (M1 := M1) (km_run (As := []) (rest := []) ⟨hx, hb, hml, hown, hts⟩ (c_X12_next l dC dI cB cI cJ cZ ra _ M  M1 hq2) (cwV 0 hts gX12_readKnows_X12_next rfl rfl rfl (by decide +kernel) ⟨Nat.le_of_ble_eq_true rfl, Nat.le_of_ble_eq_true rfl⟩) hK hP (fun _ _ _ _ => mPw_bl) (fun U hU hW => ⟨by rw [hU], by rw [hU]; exact hP, va_K.moved hW.alike hK, hD.weaken (fun _ _ _ _ => trivial)⟩) rfl rfl hl.1 rfl (lv_room (Nat.le_of_ble_eq_true rfl)) dX12_readKnows_1 ⟨Nat.le_refl _, Nat.le_refl _⟩) hD hS hA (fun H locs hP hD hS => ?_)
  refine lv_aload_n hx hb dX12_readKnows_4 rfl (lv_at hl 0 rfl) ?_
  refine lv_bipush (v := 14) hx hb dX12_readKnows_5 (by decide) ?_
  refine lv_aload_n hx hb dX12_readKnows_7 rfl (lv_at hl 0 rfl) ?_
  refine km_get hx hb hts hin hown hK hP 7 (by decide) (v := .ref (ra 7)) k_fieldLink_RX12_37__KeyLettersModel___h____I_ rfl dX12_readKnows_8 ?_
  refine lv_iconst (v := 0) hx hb dX12_readKnows_11 (by decide) ?_
  refine va_iald hx hb hK hP 3 1 rfl rfl (show ¬ ((0 : Int32) < 0 ∨ 39 ≤ (0 : Int32).toNatClampNeg) by decide +kernel) dX12_readKnows_12 ?_
  obtain ⟨v4, M3, hq5, hf⟩ := bo2_e hf
  refine km_callw (v := v4) (M1 := M3) rfl (km_run (As := [.int (14 : Int32), .int (M1.1 7 (0 : Int32).toNatClampNeg)]) (rest := []) ⟨hx, hb, hml, hown, hts⟩ (c_X12_takesName l dC dI cB cI cJ cZ ra _ M1 (14 : Int32) (M1.1 7 (0 : Int32).toNatClampNeg) (v4, M3) hq5) (cwV 2 hts gX12_readKnows_X12_takesName rfl rfl rfl (by decide +kernel) ⟨Nat.le_of_ble_eq_true rfl, Nat.le_of_ble_eq_true rfl⟩) hK hP (fun _ _ _ _ => mPw_bl) (fun U hU hW => ⟨by rw [hU], by rw [hU]; exact hP, va_K.moved hW.alike hK, hD.weaken (fun _ _ _ _ => trivial)⟩) rfl rfl hl.1 rfl (lv_room (Nat.le_of_ble_eq_true rfl)) dX12_readKnows_13 ⟨Nat.le_refl _, Nat.le_refl _⟩) hD hS hA (fun H locs hP hD hS => ?_)
  refine lv_if_ne (tgt := 21) hx hb dX12_readKnows_16 (by decide) (fun hb24 => ?_) (fun hb24 => ?_)
  · have hf := (if_neg hb24).symm.trans hf
    refine lv_aload_n hx hb dX12_readKnows_21 rfl (lv_at hl 0 rfl) ?_
    refine km_get hx hb hts hin hown hK hP 18 (by decide) (v := .int (M3.1 0 18)) k_fieldLink_RX12_190__KeyLettersModel___got___I_ rfl dX12_readKnows_22 ?_
    obtain ⟨v6, ev6, hf⟩ := bd1_e hf
    refine kt_i ev6 ?_
    refine lv_istore_n (nL := 2) (lv' := [(1, .int v6), (0, .ref (ra 0))]) hx hb dX12_readKnows_25 rfl hl (by decide) rfl (fun ls hl => ?_)
    refine lv_aload_n hx hb dX12_readKnows_26 rfl (lv_at hl 1 rfl) ?_
    refine lv_bipush (v := 20) hx hb dX12_readKnows_27 (by decide) ?_
    refine lv_aload_n hx hb dX12_readKnows_29 rfl (lv_at hl 1 rfl) ?_
    refine km_get hx hb hts hin hown hK hP 7 (by decide) (v := .ref (ra 7)) k_fieldLink_RX12_37__KeyLettersModel___h____I_ rfl dX12_readKnows_30 ?_
    refine lv_iconst (v := 1) hx hb dX12_readKnows_33 (by decide) ?_
    refine va_iald hx hb hK hP 3 1 rfl rfl (show ¬ ((1 : Int32) < 0 ∨ 39 ≤ (1 : Int32).toNatClampNeg) by decide +kernel) dX12_readKnows_34 ?_
    obtain ⟨v8, M7, hq9, hf⟩ := bo2_e hf
    refine km_callw (v := v8) (M1 := M7) rfl (km_run (As := [.int (20 : Int32), .int (M3.1 7 (1 : Int32).toNatClampNeg)]) (rest := []) ⟨hx, hb, hml, hown, hts⟩ (c_X12_looksAt l dC dI cB cI cJ cZ ra _ M3 (20 : Int32) (M3.1 7 (1 : Int32).toNatClampNeg) (v8, M7) hq9) (cwV 2 hts gX12_readKnows_X12_looksAt rfl rfl rfl (by decide +kernel) ⟨Nat.le_of_ble_eq_true rfl, Nat.le_of_ble_eq_true rfl⟩) hK hP (fun _ _ _ _ => mPw_bl) (fun U hU hW => ⟨by rw [hU], by rw [hU]; exact hP, va_K.moved hW.alike hK, hD.weaken (fun _ _ _ _ => trivial)⟩) rfl rfl hl.1 rfl (lv_room (Nat.le_of_ble_eq_true rfl)) dX12_readKnows_35 ⟨Nat.le_refl _, Nat.le_refl _⟩) hD hS hA (fun H locs hP hD hS => ?_)
    refine lv_if_ne (tgt := 43) hx hb dX12_readKnows_38 (by decide) (fun hb23 => ?_) (fun hb23 => ?_)
    · have hf := (if_neg hb23).symm.trans hf
      refine lv_aload_n hx hb dX12_readKnows_43 rfl (lv_at hl 1 rfl) ?_
      refine km_get hx hb hts hin hown hK hP 7 (by decide) (v := .ref (ra 7)) k_fieldLink_RX12_37__KeyLettersModel___h____I_ rfl dX12_readKnows_44 ?_
      refine lv_bipush (v := 9) hx hb dX12_readKnows_47 (by decide) ?_
      refine lv_iload_n hx hb dX12_readKnows_49 rfl (lv_at hl 0 rfl) ?_
      refine lv_iadd hx hb dX12_readKnows_50 ?_
      obtain ⟨v10, ev10, hf⟩ := bd1_e hf
      refine kt_i ev10 ?_
      obtain ⟨hc11, hf⟩ := ck_e hf
      refine va_iald hx hb hK hP 3 1 rfl rfl hc11 dX12_readKnows_51 ?_
      refine lv_aload_n hx hb dX12_readKnows_52 rfl (lv_at hl 1 rfl) ?_
      refine km_get hx hb hts hin hown hK hP 18 (by decide) (v := .int (M7.1 0 18)) k_fieldLink_RX12_190__KeyLettersModel___got___I_ rfl dX12_readKnows_53 ?_
      refine ko_call (v := some (.int (f_X12_bitOf (M7.1 7 v10.toNatClampNeg) (M7.1 0 18)))) (va_runS (As := [.int (M7.1 7 v10.toNatClampNeg), .int (M7.1 0 18)]) (rest := []) ⟨hx, hb, hml, hown, hts⟩ (c_X12_bitOf l (M7.1 7 v10.toNatClampNeg) (M7.1 0 18) _ rfl) (va_cwS 2 hts gX12_readKnows_X12_bitOf rfl rfl rfl (by decide +kernel) ⟨Nat.le_of_ble_eq_true rfl, Nat.le_of_ble_eq_true rfl⟩) ⟨fun a U g mk q => q, fun U hU hW => ⟨rfl, trivial⟩⟩ rfl rfl hl.1 rfl (lv_room (Nat.le_of_ble_eq_true rfl)) dX12_readKnows_56 ⟨Nat.le_refl _, Nat.le_refl _⟩) ?_
      refine lv_if_eq (tgt := 68) hx hb dX12_readKnows_59 (by decide) (fun hb22 => ?_) (fun hb22 => ?_)
      · have hf := (if_pos hb22).symm.trans hf
        refine lv_aload_n hx hb dX12_readKnows_68 rfl (lv_at hl 1 rfl) ?_
        refine km_get hx hb hts hin hown hK hP 7 (by decide) (v := .ref (ra 7)) k_fieldLink_RX12_37__KeyLettersModel___h____I_ rfl dX12_readKnows_69 ?_
        refine lv_bipush (v := 9) hx hb dX12_readKnows_72 (by decide) ?_
        refine lv_iload_n hx hb dX12_readKnows_74 rfl (lv_at hl 0 rfl) ?_
        refine lv_iadd hx hb dX12_readKnows_75 ?_
        obtain ⟨v12, ev12, hf⟩ := bd1_e hf
        refine kt_i ev12 ?_
        refine lv_dup2_11 hx hb dX12_readKnows_76 rfl rfl ?_
        obtain ⟨hc13, hf⟩ := ck_e hf
        refine va_iald hx hb hK hP 3 1 rfl rfl hc13 dX12_readKnows_77 ?_
        refine lv_iconst (v := 1) hx hb dX12_readKnows_78 (by decide) ?_
        refine lv_aload_n hx hb dX12_readKnows_79 rfl (lv_at hl 1 rfl) ?_
        refine km_get hx hb hts hin hown hK hP 18 (by decide) (v := .int (M7.1 0 18)) k_fieldLink_RX12_190__KeyLettersModel___got___I_ rfl dX12_readKnows_80 ?_
        refine lv_ishl hx hb dX12_readKnows_83 ?_
        refine lv_ior hx hb dX12_readKnows_84 ?_
        obtain ⟨hc14, hf⟩ := ck_e hf
        obtain ⟨M15, eM15, hf⟩ := bd1_e hf
        refine va_iast hx hb hK hP hD hS 3 1 rfl rfl hc14 dX12_readKnows_85 (fun H locs hP hD hS => ?_)
        have hP : va_P (dC, dI) vwCl (mw cB cI cJ cZ ra M15) H := by rw [eM15, ← ma_7 cB cI cJ cZ ra M7 v12.toNatClampNeg ((M7.1 7 v12.toNatClampNeg) ||| ((1 : Int32) <<< ((M7.1 0 18) &&& 31)))]; exact hP
        have hD : va_D (mA ra s.heap.size) (mw cB cI cJ cZ ra M15) := by rw [eM15, ← ma_7 cB cI cJ cZ ra M7 v12.toNatClampNeg ((M7.1 7 v12.toNatClampNeg) ||| ((1 : Int32) <<< ((M7.1 0 18) &&& 31)))]; exact hD
        refine lv_aload_n hx hb dX12_readKnows_86 rfl (lv_at hl 1 rfl) ?_
        obtain ⟨M16, hq17, hf⟩ := bo_e hf
        refine km_callwv (M1 := M16) (km_run (As := []) (rest := []) ⟨hx, hb, hml, hown, hts⟩ (c_X12_next l dC dI cB cI cJ cZ ra _ M15  M16 hq17) (cwV 0 hts gX12_readKnows_X12_next rfl rfl rfl (by decide +kernel) ⟨Nat.le_of_ble_eq_true rfl, Nat.le_of_ble_eq_true rfl⟩) hK hP (fun _ _ _ _ => mPw_bl) (fun U hU hW => ⟨by rw [hU], by rw [hU]; exact hP, va_K.moved hW.alike hK, hD.weaken (fun _ _ _ _ => trivial)⟩) rfl rfl hl.1 rfl (lv_room (Nat.le_of_ble_eq_true rfl)) dX12_readKnows_87 ⟨Nat.le_refl _, Nat.le_refl _⟩) hD hS hA (fun H locs hP hD hS => ?_)
        refine lv_iconst (v := 1) hx hb dX12_readKnows_90 (by decide) ?_
        have hf := Option.some.inj hf
        subst hf
        exact m_zret hx hb hr rfl hlocks hP hK hD hS dX12_readKnows_91
      · have hf := (if_neg hb22).symm.trans hf
        refine lv_aload_n hx hb dX12_readKnows_62 rfl (lv_at hl 1 rfl) ?_
        refine lv_iconst (v := 3) hx hb dX12_readKnows_63 (by decide) ?_
        obtain ⟨v19, M18, hq20, hf⟩ := bo2_e hf
        refine km_callw (v := v19) (M1 := M18) rfl (km_run (As := [.int (3 : Int32)]) (rest := []) ⟨hx, hb, hml, hown, hts⟩ (c_X12_bad l dC dI cB cI cJ cZ ra _ M7 (3 : Int32) (v19, M18) hq20) (cwV 1 hts gX12_readKnows_X12_bad rfl rfl rfl (by decide +kernel) ⟨Nat.le_of_ble_eq_true rfl, Nat.le_of_ble_eq_true rfl⟩) hK hP (fun _ _ _ _ => mPw_bl) (fun U hU hW => ⟨by rw [hU], by rw [hU]; exact hP, va_K.moved hW.alike hK, hD.weaken (fun _ _ _ _ => trivial)⟩) rfl rfl hl.1 rfl (lv_room (Nat.le_of_ble_eq_true rfl)) dX12_readKnows_64 ⟨Nat.le_refl _, Nat.le_refl _⟩) hD hS hA (fun H locs hP hD hS => ?_)
        obtain ⟨hz21, hf⟩ := ck_e hf
        have hf := Option.some.inj hf
        subst hf
        exact m_zret hx hb hr (kt_z (Decidable.not_not.mp hz21)) hlocks hP hK hD hS dX12_readKnows_67
    · have hf := (if_pos hb23).symm.trans hf
      refine lv_iconst (v := 0) hx hb dX12_readKnows_41 (by decide) ?_
      have hf := Option.some.inj hf
      subst hf
      exact m_zret hx hb hr rfl hlocks hP hK hD hS dX12_readKnows_42
  · have hf := (if_pos hb24).symm.trans hf
    refine lv_iconst (v := 0) hx hb dX12_readKnows_19 (by decide) ?_
    have hf := Option.some.inj hf
    subst hf
    exact m_zret hx hb hr rfl hlocks hP hK hD hS dX12_readKnows_20

abbrev rm_X12_readAnswers : Room := { frames := 3, cells := 0, slots := 0, locals := 67 }
set_option maxHeartbeats 4000000 in
set_option maxRecDepth 100000 in
theorem c_X12_readAnswers (l : Launch) (dC : Nat → ClassId) (dI : Nat → Nat → Nat) (cB cI cJ cZ : ClassId) (ra : Nat → Nat) (sz : Nat) (M : kD)  (r : (Int32 × kD)) (hf : f_X12_readAnswers  M = some r) : Met l yX12_readAnswers wsX12_readAnswers rm_X12_readAnswers (va_Pc [.ref (ra 0)] (mPw dC dI cB cI cJ cZ ra sz M)) (mQi dC dI cB cI cJ cZ ra sz r) 0 0 (mA ra sz) := by
  refine Met.ofW (cc := cX12_readAnswers) (maxL := 2) (ret := (some .boolean)) (by decide) rfl ?_
  intro p e s m args below meth c s₁ B hml hv
  obtain ⟨hav, hsz, hP, hK, hD0⟩ := hv
  have hx := B.exec
  have hb := B.bytes
  have hr := B.returns
  have hts := atoms_spec (ws := wsX12_readAnswers) B.pre
  have hown : s.vm.findClass RX12 = some m.cls := findClass_of_methodNamed B.named
  have hlocks := B.notSynchronized
  subst hsz
  have hA : ∀ q, s.heap.size ≤ q → mA ra s.heap.size q := fun q h => Or.inr h
  have hD : va_D (mA ra s.heap.size) (mw cB cI cJ cZ ra M) := hD0.weaken (fun k q h _ => mA_in h)
  have hS : va_S (mA ra s.heap.size) s.heap s.heap [] := va_S.rf
  have hin : ∀ w ∈ wsX120, w ∈ wsX12_readAnswers := fun w h => List.mem_cons_of_mem _ (List.mem_append_right _ h)
  have k_fieldLink_RX12_190__KeyLettersModel___got___I_ := hts (.fieldLink RX12 190 "KeyLettersModel" "got" "I") (by decide +kernel)
  have k_fieldLink_RX12_37__KeyLettersModel___h____I_ := hts (.fieldLink RX12 37 "KeyLettersModel" "h" "[I") (by decide +kernel)
  have hl := lv_entry ([.ref (ra 0)]) (n := 2) (Nat.le_of_ble_eq_true rfl)
  rw [show entryFrame m args 2 = entryFrame m ([.ref (ra 0)] : List Value).toArray 2 from by rw [hav], lg_entry_eq]
  generalize (lg_sl ([.ref (ra 0)]) ++ List.replicate (2 - (lg_sl ([.ref (ra 0)])).length) Slot.unset).toArray = ls at hl ⊢
  have hl : lv_has ls 2 [(0, .ref (ra 0))] := hl
  unfold f_X12_readAnswers at hf
  refine lv_aload_n hx hb dX12_readAnswers_0 rfl (lv_at hl 0 rfl) ?_
  obtain ⟨M1, hq2, hf⟩ := bo_e hf
  refine km_callwv (M1 := M1) (km_run (As := []) (rest := []) ⟨hx, hb, hml, hown, hts⟩ (c_X12_next l dC dI cB cI cJ cZ ra _ M  M1 hq2) (cwV 0 hts gX12_readAnswers_X12_next rfl rfl rfl (by decide +kernel) ⟨Nat.le_of_ble_eq_true rfl, Nat.le_of_ble_eq_true rfl⟩) hK hP (fun _ _ _ _ => mPw_bl) (fun U hU hW => ⟨by rw [hU], by rw [hU]; exact hP, va_K.moved hW.alike hK, hD.weaken (fun _ _ _ _ => trivial)⟩) rfl rfl hl.1 rfl (lv_room (Nat.le_of_ble_eq_true rfl)) dX12_readAnswers_1 ⟨Nat.le_refl _, Nat.le_refl _⟩) hD hS hA (fun H locs hP hD hS => ?_)
  refine lv_aload_n hx hb dX12_readAnswers_4 rfl (lv_at hl 0 rfl) ?_
  refine lv_bipush (v := 20) hx hb dX12_readAnswers_5 (by decide) ?_
  refine lv_aload_n hx hb dX12_readAnswers_7 rfl (lv_at hl 0 rfl) ?_
  refine km_get hx hb hts hin hown hK hP 7 (by decide) (v := .ref (ra 7)) k_fieldLink_RX12_37__KeyLettersModel___h____I_ rfl dX12_readAnswers_8 ?_
  refine lv_iconst (v := 1) hx hb dX12_readAnswers_11 (by decide) ?_
  refine va_iald hx hb hK hP 3 1 rfl rfl (show ¬ ((1 : Int32) < 0 ∨ 39 ≤ (1 : Int32).toNatClampNeg) by decide +kernel) dX12_readAnswers_12 ?_
  obtain ⟨v4, M3, hq5, hf⟩ := bo2_e hf
  refine km_callw (v := v4) (M1 := M3) rfl (km_run (As := [.int (20 : Int32), .int (M1.1 7 (1 : Int32).toNatClampNeg)]) (rest := []) ⟨hx, hb, hml, hown, hts⟩ (c_X12_takesName l dC dI cB cI cJ cZ ra _ M1 (20 : Int32) (M1.1 7 (1 : Int32).toNatClampNeg) (v4, M3) hq5) (cwV 2 hts gX12_readAnswers_X12_takesName rfl rfl rfl (by decide +kernel) ⟨Nat.le_of_ble_eq_true rfl, Nat.le_of_ble_eq_true rfl⟩) hK hP (fun _ _ _ _ => mPw_bl) (fun U hU hW => ⟨by rw [hU], by rw [hU]; exact hP, va_K.moved hW.alike hK, hD.weaken (fun _ _ _ _ => trivial)⟩) rfl rfl hl.1 rfl (lv_room (Nat.le_of_ble_eq_true rfl)) dX12_readAnswers_13 ⟨Nat.le_refl _, Nat.le_refl _⟩) hD hS hA (fun H locs hP hD hS => ?_)
  refine lv_if_ne (tgt := 21) hx hb dX12_readAnswers_16 (by decide) (fun hb25 => ?_) (fun hb25 => ?_)
  · have hf := (if_neg hb25).symm.trans hf
    refine lv_aload_n hx hb dX12_readAnswers_21 rfl (lv_at hl 0 rfl) ?_
    refine km_get hx hb hts hin hown hK hP 18 (by decide) (v := .int (M3.1 0 18)) k_fieldLink_RX12_190__KeyLettersModel___got___I_ rfl dX12_readAnswers_22 ?_
    obtain ⟨v6, ev6, hf⟩ := bd1_e hf
    refine kt_i ev6 ?_
    refine lv_istore_n (nL := 2) (lv' := [(1, .int v6), (0, .ref (ra 0))]) hx hb dX12_readAnswers_25 rfl hl (by decide) rfl (fun ls hl => ?_)
    refine lv_aload_n hx hb dX12_readAnswers_26 rfl (lv_at hl 1 rfl) ?_
    refine lv_bipush (v := 20) hx hb dX12_readAnswers_27 (by decide) ?_
    refine lv_aload_n hx hb dX12_readAnswers_29 rfl (lv_at hl 1 rfl) ?_
    refine km_get hx hb hts hin hown hK hP 7 (by decide) (v := .ref (ra 7)) k_fieldLink_RX12_37__KeyLettersModel___h____I_ rfl dX12_readAnswers_30 ?_
    refine lv_iconst (v := 1) hx hb dX12_readAnswers_33 (by decide) ?_
    refine va_iald hx hb hK hP 3 1 rfl rfl (show ¬ ((1 : Int32) < 0 ∨ 39 ≤ (1 : Int32).toNatClampNeg) by decide +kernel) dX12_readAnswers_34 ?_
    obtain ⟨v8, M7, hq9, hf⟩ := bo2_e hf
    refine km_callw (v := v8) (M1 := M7) rfl (km_run (As := [.int (20 : Int32), .int (M3.1 7 (1 : Int32).toNatClampNeg)]) (rest := []) ⟨hx, hb, hml, hown, hts⟩ (c_X12_looksAt l dC dI cB cI cJ cZ ra _ M3 (20 : Int32) (M3.1 7 (1 : Int32).toNatClampNeg) (v8, M7) hq9) (cwV 2 hts gX12_readAnswers_X12_looksAt rfl rfl rfl (by decide +kernel) ⟨Nat.le_of_ble_eq_true rfl, Nat.le_of_ble_eq_true rfl⟩) hK hP (fun _ _ _ _ => mPw_bl) (fun U hU hW => ⟨by rw [hU], by rw [hU]; exact hP, va_K.moved hW.alike hK, hD.weaken (fun _ _ _ _ => trivial)⟩) rfl rfl hl.1 rfl (lv_room (Nat.le_of_ble_eq_true rfl)) dX12_readAnswers_35 ⟨Nat.le_refl _, Nat.le_refl _⟩) hD hS hA (fun H locs hP hD hS => ?_)
    refine lv_if_ne (tgt := 43) hx hb dX12_readAnswers_38 (by decide) (fun hb24 => ?_) (fun hb24 => ?_)
    · have hf := (if_neg hb24).symm.trans hf
      refine lv_aload_n hx hb dX12_readAnswers_43 rfl (lv_at hl 1 rfl) ?_
      refine km_get hx hb hts hin hown hK hP 7 (by decide) (v := .ref (ra 7)) k_fieldLink_RX12_37__KeyLettersModel___h____I_ rfl dX12_readAnswers_44 ?_
      refine lv_bipush (v := 31) hx hb dX12_readAnswers_47 (by decide) ?_
      refine lv_aload_n hx hb dX12_readAnswers_49 rfl (lv_at hl 1 rfl) ?_
      refine km_get hx hb hts hin hown hK hP 18 (by decide) (v := .int (M7.1 0 18)) k_fieldLink_RX12_190__KeyLettersModel___got___I_ rfl dX12_readAnswers_50 ?_
      refine lv_iadd hx hb dX12_readAnswers_53 ?_
      obtain ⟨v10, ev10, hf⟩ := bd1_e hf
      refine kt_i ev10 ?_
      obtain ⟨hc11, hf⟩ := ck_e hf
      refine va_iald hx hb hK hP 3 1 rfl rfl hc11 dX12_readAnswers_54 ?_
      refine lv_iload_n hx hb dX12_readAnswers_55 rfl (lv_at hl 0 rfl) ?_
      refine ko_call (v := some (.int (f_X12_bitOf (M7.1 7 v10.toNatClampNeg) v6))) (va_runS (As := [.int (M7.1 7 v10.toNatClampNeg), .int v6]) (rest := []) ⟨hx, hb, hml, hown, hts⟩ (c_X12_bitOf l (M7.1 7 v10.toNatClampNeg) v6 _ rfl) (va_cwS 2 hts gX12_readAnswers_X12_bitOf rfl rfl rfl (by decide +kernel) ⟨Nat.le_of_ble_eq_true rfl, Nat.le_of_ble_eq_true rfl⟩) ⟨fun a U g mk q => q, fun U hU hW => ⟨rfl, trivial⟩⟩ rfl rfl hl.1 rfl (lv_room (Nat.le_of_ble_eq_true rfl)) dX12_readAnswers_56 ⟨Nat.le_refl _, Nat.le_refl _⟩) ?_
      refine lv_if_eq (tgt := 68) hx hb dX12_readAnswers_59 (by decide) (fun hb23 => ?_) (fun hb23 => ?_)
      · have hf := (if_pos hb23).symm.trans hf
        refine lv_aload_n hx hb dX12_readAnswers_68 rfl (lv_at hl 1 rfl) ?_
        refine km_get hx hb hts hin hown hK hP 7 (by decide) (v := .ref (ra 7)) k_fieldLink_RX12_37__KeyLettersModel___h____I_ rfl dX12_readAnswers_69 ?_
        refine lv_bipush (v := 31) hx hb dX12_readAnswers_72 (by decide) ?_
        refine lv_aload_n hx hb dX12_readAnswers_74 rfl (lv_at hl 1 rfl) ?_
        refine km_get hx hb hts hin hown hK hP 18 (by decide) (v := .int (M7.1 0 18)) k_fieldLink_RX12_190__KeyLettersModel___got___I_ rfl dX12_readAnswers_75 ?_
        refine lv_iadd hx hb dX12_readAnswers_78 ?_
        obtain ⟨v12, ev12, hf⟩ := bd1_e hf
        refine kt_i ev12 ?_
        refine lv_dup2_11 hx hb dX12_readAnswers_79 rfl rfl ?_
        obtain ⟨hc13, hf⟩ := ck_e hf
        refine va_iald hx hb hK hP 3 1 rfl rfl hc13 dX12_readAnswers_80 ?_
        refine lv_iconst (v := 1) hx hb dX12_readAnswers_81 (by decide) ?_
        refine lv_iload_n hx hb dX12_readAnswers_82 rfl (lv_at hl 0 rfl) ?_
        refine lv_ishl hx hb dX12_readAnswers_83 ?_
        refine lv_ior hx hb dX12_readAnswers_84 ?_
        obtain ⟨hc14, hf⟩ := ck_e hf
        obtain ⟨M15, eM15, hf⟩ := bd1_e hf
        refine va_iast hx hb hK hP hD hS 3 1 rfl rfl hc14 dX12_readAnswers_85 (fun H locs hP hD hS => ?_)
        have hP : va_P (dC, dI) vwCl (mw cB cI cJ cZ ra M15) H := by rw [eM15, ← ma_7 cB cI cJ cZ ra M7 v12.toNatClampNeg ((M7.1 7 v12.toNatClampNeg) ||| ((1 : Int32) <<< (v6 &&& 31)))]; exact hP
        have hD : va_D (mA ra s.heap.size) (mw cB cI cJ cZ ra M15) := by rw [eM15, ← ma_7 cB cI cJ cZ ra M7 v12.toNatClampNeg ((M7.1 7 v12.toNatClampNeg) ||| ((1 : Int32) <<< (v6 &&& 31)))]; exact hD
        refine lv_aload_n hx hb dX12_readAnswers_86 rfl (lv_at hl 1 rfl) ?_
        refine km_get hx hb hts hin hown hK hP 7 (by decide) (v := .ref (ra 7)) k_fieldLink_RX12_37__KeyLettersModel___h____I_ rfl dX12_readAnswers_87 ?_
        refine lv_iconst (v := 2) hx hb dX12_readAnswers_90 (by decide) ?_
        refine lv_dup2_11 hx hb dX12_readAnswers_91 rfl rfl ?_
        refine va_iald hx hb hK hP 3 1 rfl rfl (show ¬ ((2 : Int32) < 0 ∨ 39 ≤ (2 : Int32).toNatClampNeg) by decide +kernel) dX12_readAnswers_92 ?_
        refine lv_iconst (v := 1) hx hb dX12_readAnswers_93 (by decide) ?_
        refine lv_iadd hx hb dX12_readAnswers_94 ?_
        obtain ⟨M16, eM16, hf⟩ := bd1_e hf
        refine va_iast hx hb hK hP hD hS 3 1 rfl rfl (show ¬ ((2 : Int32) < 0 ∨ 39 ≤ (2 : Int32).toNatClampNeg) by decide +kernel) dX12_readAnswers_95 (fun H locs hP hD hS => ?_)
        have hP : va_P (dC, dI) vwCl (mw cB cI cJ cZ ra M16) H := by rw [eM16, ← ma_7 cB cI cJ cZ ra M15 (2 : Int32).toNatClampNeg ((M15.1 7 (2 : Int32).toNatClampNeg) + (1 : Int32))]; exact hP
        have hD : va_D (mA ra s.heap.size) (mw cB cI cJ cZ ra M16) := by rw [eM16, ← ma_7 cB cI cJ cZ ra M15 (2 : Int32).toNatClampNeg ((M15.1 7 (2 : Int32).toNatClampNeg) + (1 : Int32))]; exact hD
        refine lv_aload_n hx hb dX12_readAnswers_96 rfl (lv_at hl 1 rfl) ?_
        obtain ⟨M17, hq18, hf⟩ := bo_e hf
        refine km_callwv (M1 := M17) (km_run (As := []) (rest := []) ⟨hx, hb, hml, hown, hts⟩ (c_X12_next l dC dI cB cI cJ cZ ra _ M16  M17 hq18) (cwV 0 hts gX12_readAnswers_X12_next rfl rfl rfl (by decide +kernel) ⟨Nat.le_of_ble_eq_true rfl, Nat.le_of_ble_eq_true rfl⟩) hK hP (fun _ _ _ _ => mPw_bl) (fun U hU hW => ⟨by rw [hU], by rw [hU]; exact hP, va_K.moved hW.alike hK, hD.weaken (fun _ _ _ _ => trivial)⟩) rfl rfl hl.1 rfl (lv_room (Nat.le_of_ble_eq_true rfl)) dX12_readAnswers_97 ⟨Nat.le_refl _, Nat.le_refl _⟩) hD hS hA (fun H locs hP hD hS => ?_)
        refine lv_iconst (v := 1) hx hb dX12_readAnswers_100 (by decide) ?_
        have hf := Option.some.inj hf
        subst hf
        exact m_zret hx hb hr rfl hlocks hP hK hD hS dX12_readAnswers_101
      · have hf := (if_neg hb23).symm.trans hf
        refine lv_aload_n hx hb dX12_readAnswers_62 rfl (lv_at hl 1 rfl) ?_
        refine lv_iconst (v := 3) hx hb dX12_readAnswers_63 (by decide) ?_
        obtain ⟨v20, M19, hq21, hf⟩ := bo2_e hf
        refine km_callw (v := v20) (M1 := M19) rfl (km_run (As := [.int (3 : Int32)]) (rest := []) ⟨hx, hb, hml, hown, hts⟩ (c_X12_bad l dC dI cB cI cJ cZ ra _ M7 (3 : Int32) (v20, M19) hq21) (cwV 1 hts gX12_readAnswers_X12_bad rfl rfl rfl (by decide +kernel) ⟨Nat.le_of_ble_eq_true rfl, Nat.le_of_ble_eq_true rfl⟩) hK hP (fun _ _ _ _ => mPw_bl) (fun U hU hW => ⟨by rw [hU], by rw [hU]; exact hP, va_K.moved hW.alike hK, hD.weaken (fun _ _ _ _ => trivial)⟩) rfl rfl hl.1 rfl (lv_room (Nat.le_of_ble_eq_true rfl)) dX12_readAnswers_64 ⟨Nat.le_refl _, Nat.le_refl _⟩) hD hS hA (fun H locs hP hD hS => ?_)
        obtain ⟨hz22, hf⟩ := ck_e hf
        have hf := Option.some.inj hf
        subst hf
        exact m_zret hx hb hr (kt_z (Decidable.not_not.mp hz22)) hlocks hP hK hD hS dX12_readAnswers_67
    · have hf := (if_pos hb24).symm.trans hf
      refine lv_iconst (v := 0) hx hb dX12_readAnswers_41 (by decide) ?_
      have hf := Option.some.inj hf
      subst hf
      exact m_zret hx hb hr rfl hlocks hP hK hD hS dX12_readAnswers_42
  · have hf := (if_pos hb25).symm.trans hf
    refine lv_iconst (v := 0) hx hb dX12_readAnswers_19 (by decide) ?_
    have hf := Option.some.inj hf
    subst hf
    exact m_zret hx hb hr rfl hlocks hP hK hD hS dX12_readAnswers_20

abbrev rm_X12_readLine : Room := { frames := 5, cells := 0, slots := 0, locals := 109 }
set_option maxHeartbeats 4000000 in
set_option maxRecDepth 100000 in
theorem c_X12_readLine (l : Launch) (dC : Nat → ClassId) (dI : Nat → Nat → Nat) (cB cI cJ cZ : ClassId) (ra : Nat → Nat) (sz : Nat) (M : kD)  (r : (Int32 × kD)) (hf : f_X12_readLine  M = some r) : Met l yX12_readLine wsX12_readLine rm_X12_readLine (va_Pc [.ref (ra 0)] (mPw dC dI cB cI cJ cZ ra sz M)) (mQi dC dI cB cI cJ cZ ra sz r) 0 0 (mA ra sz) := by
  refine Met.ofW (cc := cX12_readLine) (maxL := 1) (ret := (some .boolean)) (by decide) rfl ?_
  intro p e s m args below meth c s₁ B hml hv
  obtain ⟨hav, hsz, hP, hK, hD0⟩ := hv
  have hx := B.exec
  have hb := B.bytes
  have hr := B.returns
  have hts := atoms_spec (ws := wsX12_readLine) B.pre
  have hown : s.vm.findClass RX12 = some m.cls := findClass_of_methodNamed B.named
  have hlocks := B.notSynchronized
  subst hsz
  have hA : ∀ q, s.heap.size ≤ q → mA ra s.heap.size q := fun q h => Or.inr h
  have hD : va_D (mA ra s.heap.size) (mw cB cI cJ cZ ra M) := hD0.weaken (fun k q h _ => mA_in h)
  have hS : va_S (mA ra s.heap.size) s.heap s.heap [] := va_S.rf
  have hin : ∀ w ∈ wsX120, w ∈ wsX12_readLine := fun w h => List.mem_cons_of_mem _ (List.mem_append_right _ h)
  have k_constantLong_RX12_101_123593897898853 := hts (.constantLong RX12 101 123593897898853) (by decide +kernel)
  have k_constantLong_RX12_103_461414299507 := hts (.constantLong RX12 103 461414299507) (by decide +kernel)
  have k_constantLong_RX12_105_27424514944365171 := hts (.constantLong RX12 105 27424514944365171) (by decide +kernel)
  have k_constantLong_RX12_99_30787852042858085 := hts (.constantLong RX12 99 30787852042858085) (by decide +kernel)
  have hl := lv_entry ([.ref (ra 0)]) (n := 1) (Nat.le_of_ble_eq_true rfl)
  rw [show entryFrame m args 1 = entryFrame m ([.ref (ra 0)] : List Value).toArray 1 from by rw [hav], lg_entry_eq]
  generalize (lg_sl ([.ref (ra 0)]) ++ List.replicate (1 - (lg_sl ([.ref (ra 0)])).length) Slot.unset).toArray = ls at hl ⊢
  have hl : lv_has ls 1 [(0, .ref (ra 0))] := hl
  unfold f_X12_readLine at hf
  refine lv_aload_n hx hb dX12_readLine_0 rfl (lv_at hl 0 rfl) ?_
  refine lv_ldc2 (v := 30787852042858085) hx hb hown k_constantLong_RX12_99_30787852042858085 dX12_readLine_1 ?_
  refine ko_call (v := some (.int (f_X12_isWord (30787852042858085 : Int64) M))) (km_run (As := [.long (30787852042858085 : Int64)]) (rest := []) ⟨hx, hb, hml, hown, hts⟩ (c_X12_isWord l dC dI cB cI cJ cZ ra M (30787852042858085 : Int64) _ rfl) (cwV 1 hts gX12_readLine_X12_isWord rfl rfl rfl (by decide +kernel) ⟨Nat.le_of_ble_eq_true rfl, Nat.le_of_ble_eq_true rfl⟩) hK hP (fun _ _ _ _ => mPr_bl) (fun U hU hW => ⟨by rw [hU]; exact hP, va_K.moved hW.alike hK⟩) rfl rfl hl.1 rfl (lv_room (Nat.le_of_ble_eq_true rfl)) dX12_readLine_4 ⟨Nat.le_refl _, Nat.le_refl _⟩) ?_
  refine lv_if_eq (tgt := 15) hx hb dX12_readLine_7 (by decide) (fun hb24 => ?_) (fun hb24 => ?_)
  · have hf := (if_pos hb24).symm.trans hf
    refine lv_aload_n hx hb dX12_readLine_15 rfl (lv_at hl 0 rfl) ?_
    refine lv_ldc2 (v := 123593897898853) hx hb hown k_constantLong_RX12_101_123593897898853 dX12_readLine_16 ?_
    refine ko_call (v := some (.int (f_X12_isWord (123593897898853 : Int64) M))) (km_run (As := [.long (123593897898853 : Int64)]) (rest := []) ⟨hx, hb, hml, hown, hts⟩ (c_X12_isWord l dC dI cB cI cJ cZ ra M (123593897898853 : Int64) _ rfl) (cwV 1 hts gX12_readLine_X12_isWord rfl rfl rfl (by decide +kernel) ⟨Nat.le_of_ble_eq_true rfl, Nat.le_of_ble_eq_true rfl⟩) hK hP (fun _ _ _ _ => mPr_bl) (fun U hU hW => ⟨by rw [hU]; exact hP, va_K.moved hW.alike hK⟩) rfl rfl hl.1 rfl (lv_room (Nat.le_of_ble_eq_true rfl)) dX12_readLine_19 ⟨Nat.le_refl _, Nat.le_refl _⟩) ?_
    refine lv_if_eq (tgt := 30) hx hb dX12_readLine_22 (by decide) (fun hb19 => ?_) (fun hb19 => ?_)
    · have hf := (if_pos hb19).symm.trans hf
      refine lv_aload_n hx hb dX12_readLine_30 rfl (lv_at hl 0 rfl) ?_
      refine lv_ldc2 (v := 461414299507) hx hb hown k_constantLong_RX12_103_461414299507 dX12_readLine_31 ?_
      refine ko_call (v := some (.int (f_X12_isWord (461414299507 : Int64) M))) (km_run (As := [.long (461414299507 : Int64)]) (rest := []) ⟨hx, hb, hml, hown, hts⟩ (c_X12_isWord l dC dI cB cI cJ cZ ra M (461414299507 : Int64) _ rfl) (cwV 1 hts gX12_readLine_X12_isWord rfl rfl rfl (by decide +kernel) ⟨Nat.le_of_ble_eq_true rfl, Nat.le_of_ble_eq_true rfl⟩) hK hP (fun _ _ _ _ => mPr_bl) (fun U hU hW => ⟨by rw [hU]; exact hP, va_K.moved hW.alike hK⟩) rfl rfl hl.1 rfl (lv_room (Nat.le_of_ble_eq_true rfl)) dX12_readLine_34 ⟨Nat.le_refl _, Nat.le_refl _⟩) ?_
      refine lv_if_eq (tgt := 45) hx hb dX12_readLine_37 (by decide) (fun hb14 => ?_) (fun hb14 => ?_)
      · have hf := (if_pos hb14).symm.trans hf
        refine lv_aload_n hx hb dX12_readLine_45 rfl (lv_at hl 0 rfl) ?_
        refine lv_ldc2 (v := 27424514944365171) hx hb hown k_constantLong_RX12_105_27424514944365171 dX12_readLine_46 ?_
        refine ko_call (v := some (.int (f_X12_isWord (27424514944365171 : Int64) M))) (km_run (As := [.long (27424514944365171 : Int64)]) (rest := []) ⟨hx, hb, hml, hown, hts⟩ (c_X12_isWord l dC dI cB cI cJ cZ ra M (27424514944365171 : Int64) _ rfl) (cwV 1 hts gX12_readLine_X12_isWord rfl rfl rfl (by decide +kernel) ⟨Nat.le_of_ble_eq_true rfl, Nat.le_of_ble_eq_true rfl⟩) hK hP (fun _ _ _ _ => mPr_bl) (fun U hU hW => ⟨by rw [hU]; exact hP, va_K.moved hW.alike hK⟩) rfl rfl hl.1 rfl (lv_room (Nat.le_of_ble_eq_true rfl)) dX12_readLine_49 ⟨Nat.le_refl _, Nat.le_refl _⟩) ?_
        refine lv_if_eq (tgt := 62) hx hb dX12_readLine_52 (by decide) (fun hb9 => ?_) (fun hb9 => ?_)
        · have hf := (if_pos hb9).symm.trans hf
          refine lv_aload_n hx hb dX12_readLine_62 rfl (lv_at hl 0 rfl) ?_
          refine lv_iconst (v := 1) hx hb dX12_readLine_63 (by decide) ?_
          obtain ⟨v2, M1, hq3, hf⟩ := bo2_e hf
          refine km_callw (v := v2) (M1 := M1) rfl (km_run (As := [.int (1 : Int32)]) (rest := []) ⟨hx, hb, hml, hown, hts⟩ (c_X12_bad l dC dI cB cI cJ cZ ra _ M (1 : Int32) (v2, M1) hq3) (cwV 1 hts gX12_readLine_X12_bad rfl rfl rfl (by decide +kernel) ⟨Nat.le_of_ble_eq_true rfl, Nat.le_of_ble_eq_true rfl⟩) hK hP (fun _ _ _ _ => mPw_bl) (fun U hU hW => ⟨by rw [hU], by rw [hU]; exact hP, va_K.moved hW.alike hK, hD.weaken (fun _ _ _ _ => trivial)⟩) rfl rfl hl.1 rfl (lv_room (Nat.le_of_ble_eq_true rfl)) dX12_readLine_64 ⟨Nat.le_refl _, Nat.le_refl _⟩) hD hS hA (fun H locs hP hD hS => ?_)
          obtain ⟨hz4, hf⟩ := ck_e hf
          have hf := Option.some.inj hf
          subst hf
          exact m_zret hx hb hr (kt_z (Decidable.not_not.mp hz4)) hlocks hP hK hD hS dX12_readLine_67
        · have hf := (if_neg hb9).symm.trans hf
          refine lv_aload_n hx hb dX12_readLine_55 rfl (lv_at hl 0 rfl) ?_
          obtain ⟨v6, M5, hq7, hf⟩ := bo2_e hf
          refine km_callw (v := v6) (M1 := M5) rfl (km_run (As := []) (rest := []) ⟨hx, hb, hml, hown, hts⟩ (c_X12_readAnswers l dC dI cB cI cJ cZ ra _ M  (v6, M5) hq7) (cwV 0 hts gX12_readLine_X12_readAnswers rfl rfl rfl (by decide +kernel) ⟨Nat.le_of_ble_eq_true rfl, Nat.le_of_ble_eq_true rfl⟩) hK hP (fun _ _ _ _ => mPw_bl) (fun U hU hW => ⟨by rw [hU], by rw [hU]; exact hP, va_K.moved hW.alike hK, hD.weaken (fun _ _ _ _ => trivial)⟩) rfl rfl hl.1 rfl (lv_room (Nat.le_of_ble_eq_true rfl)) dX12_readLine_56 ⟨Nat.le_refl _, Nat.le_refl _⟩) hD hS hA (fun H locs hP hD hS => ?_)
          refine lv_goto (tgt := 67) hx hb dX12_readLine_59 (by decide) ?_
          obtain ⟨hz8, hf⟩ := ck_e hf
          have hf := Option.some.inj hf
          subst hf
          exact m_zret hx hb hr (kt_z (Decidable.not_not.mp hz8)) hlocks hP hK hD hS dX12_readLine_67
      · have hf := (if_neg hb14).symm.trans hf
        refine lv_aload_n hx hb dX12_readLine_40 rfl (lv_at hl 0 rfl) ?_
        obtain ⟨v11, M10, hq12, hf⟩ := bo2_e hf
        refine km_callw (v := v11) (M1 := M10) rfl (km_run (As := []) (rest := []) ⟨hx, hb, hml, hown, hts⟩ (c_X12_readKnows l dC dI cB cI cJ cZ ra _ M  (v11, M10) hq12) (cwV 0 hts gX12_readLine_X12_readKnows rfl rfl rfl (by decide +kernel) ⟨Nat.le_of_ble_eq_true rfl, Nat.le_of_ble_eq_true rfl⟩) hK hP (fun _ _ _ _ => mPw_bl) (fun U hU hW => ⟨by rw [hU], by rw [hU]; exact hP, va_K.moved hW.alike hK, hD.weaken (fun _ _ _ _ => trivial)⟩) rfl rfl hl.1 rfl (lv_room (Nat.le_of_ble_eq_true rfl)) dX12_readLine_41 ⟨Nat.le_refl _, Nat.le_refl _⟩) hD hS hA (fun H locs hP hD hS => ?_)
        obtain ⟨hz13, hf⟩ := ck_e hf
        have hf := Option.some.inj hf
        subst hf
        exact m_zret hx hb hr (kt_z (Decidable.not_not.mp hz13)) hlocks hP hK hD hS dX12_readLine_44
    · have hf := (if_neg hb19).symm.trans hf
      refine lv_aload_n hx hb dX12_readLine_25 rfl (lv_at hl 0 rfl) ?_
      obtain ⟨v16, M15, hq17, hf⟩ := bo2_e hf
      refine km_callw (v := v16) (M1 := M15) rfl (km_run (As := []) (rest := []) ⟨hx, hb, hml, hown, hts⟩ (c_X12_readPhrase l dC dI cB cI cJ cZ ra _ M  (v16, M15) hq17) (cwV 0 hts gX12_readLine_X12_readPhrase rfl rfl rfl (by decide +kernel) ⟨Nat.le_of_ble_eq_true rfl, Nat.le_of_ble_eq_true rfl⟩) hK hP (fun _ _ _ _ => mPw_bl) (fun U hU hW => ⟨by rw [hU], by rw [hU]; exact hP, va_K.moved hW.alike hK, hD.weaken (fun _ _ _ _ => trivial)⟩) rfl rfl hl.1 rfl (lv_room (Nat.le_of_ble_eq_true rfl)) dX12_readLine_26 ⟨Nat.le_refl _, Nat.le_refl _⟩) hD hS hA (fun H locs hP hD hS => ?_)
      obtain ⟨hz18, hf⟩ := ck_e hf
      have hf := Option.some.inj hf
      subst hf
      exact m_zret hx hb hr (kt_z (Decidable.not_not.mp hz18)) hlocks hP hK hD hS dX12_readLine_29
  · have hf := (if_neg hb24).symm.trans hf
    refine lv_aload_n hx hb dX12_readLine_10 rfl (lv_at hl 0 rfl) ?_
    obtain ⟨v21, M20, hq22, hf⟩ := bo2_e hf
    refine km_callw (v := v21) (M1 := M20) rfl (km_run (As := []) (rest := []) ⟨hx, hb, hml, hown, hts⟩ (c_X12_readMachine l dC dI cB cI cJ cZ ra _ M  (v21, M20) hq22) (cwV 0 hts gX12_readLine_X12_readMachine rfl rfl rfl (by decide +kernel) ⟨Nat.le_of_ble_eq_true rfl, Nat.le_of_ble_eq_true rfl⟩) hK hP (fun _ _ _ _ => mPw_bl) (fun U hU hW => ⟨by rw [hU], by rw [hU]; exact hP, va_K.moved hW.alike hK, hD.weaken (fun _ _ _ _ => trivial)⟩) rfl rfl hl.1 rfl (lv_room (Nat.le_of_ble_eq_true rfl)) dX12_readLine_11 ⟨Nat.le_refl _, Nat.le_refl _⟩) hD hS hA (fun H locs hP hD hS => ?_)
    obtain ⟨hz23, hf⟩ := ck_e hf
    have hf := Option.some.inj hf
    subst hf
    exact m_zret hx hb hr (kt_z (Decidable.not_not.mp hz23)) hlocks hP hK hD hS dX12_readLine_14

abbrev rm_X12_office : Room := { frames := 6, cells := 0, slots := 0, locals := 129 }
set_option maxHeartbeats 4000000 in
set_option maxRecDepth 100000 in
theorem c_X12_office (l : Launch) (dC : Nat → ClassId) (dI : Nat → Nat → Nat) (cB cI cJ cZ : ClassId) (ra : Nat → Nat) (sz : Nat) (M : kD)  (r : (Int32 × kD)) (hf : f_X12_office  M = some r) : Met l yX12_office wsX12_office rm_X12_office (va_Pc [.ref (ra 0)] (mPw dC dI cB cI cJ cZ ra sz M)) (mQi dC dI cB cI cJ cZ ra sz r) 0 0 (mA ra sz) := by
  refine Met.ofW (cc := cX12_office) (maxL := 2) (ret := (some .int)) (by decide) rfl ?_
  intro p e s m args below meth c s₁ B hml hv
  obtain ⟨hav, hsz, hP, hK, hD0⟩ := hv
  have hx := B.exec
  have hb := B.bytes
  have hr := B.returns
  have hts := atoms_spec (ws := wsX12_office) B.pre
  have hown : s.vm.findClass RX12 = some m.cls := findClass_of_methodNamed B.named
  have hlocks := B.notSynchronized
  subst hsz
  have hA : ∀ q, s.heap.size ≤ q → mA ra s.heap.size q := fun q h => Or.inr h
  have hD : va_D (mA ra s.heap.size) (mw cB cI cJ cZ ra M) := hD0.weaken (fun k q h _ => mA_in h)
  have hS : va_S (mA ra s.heap.size) s.heap s.heap [] := va_S.rf
  have hin : ∀ w ∈ wsX120, w ∈ wsX12_office := fun w h => List.mem_cons_of_mem _ (List.mem_append_right _ h)
  have k_fieldLink_RX12_154__KeyLettersModel___token___I_ := hts (.fieldLink RX12 154 "KeyLettersModel" "token" "I") (by decide +kernel)
  have k_fieldLink_RX12_171__KeyLettersModel___fault___I_ := hts (.fieldLink RX12 171 "KeyLettersModel" "fault" "I") (by decide +kernel)
  have k_fieldLink_RX12_174__KeyLettersModel___faultAt___I_ := hts (.fieldLink RX12 174 "KeyLettersModel" "faultAt" "I") (by decide +kernel)
  have k_fieldLink_RX12_1__KeyLettersModel___thrown___I_ := hts (.fieldLink RX12 1 "KeyLettersModel" "thrown" "I") (by decide +kernel)
  have k_fieldLink_RX12_239__KeyLettersModel___lines___I_ := hts (.fieldLink RX12 239 "KeyLettersModel" "lines" "I") (by decide +kernel)
  have k_fieldLink_RX12_248__KeyLettersModel___undoMany___I_ := hts (.fieldLink RX12 248 "KeyLettersModel" "undoMany" "I") (by decide +kernel)
  have k_fieldLink_RX12_33__KeyLettersModel___s____I_ := hts (.fieldLink RX12 33 "KeyLettersModel" "s" "[I") (by decide +kernel)
  have k_fieldLink_RX12_37__KeyLettersModel___h____I_ := hts (.fieldLink RX12 37 "KeyLettersModel" "h" "[I") (by decide +kernel)
  have k_fieldLink_RX12_43__KeyLettersModel___names____J_ := hts (.fieldLink RX12 43 "KeyLettersModel" "names" "[J") (by decide +kernel)
  have hl := lv_entry ([.ref (ra 0)]) (n := 2) (Nat.le_of_ble_eq_true rfl)
  rw [show entryFrame m args 2 = entryFrame m ([.ref (ra 0)] : List Value).toArray 2 from by rw [hav], lg_entry_eq]
  generalize (lg_sl ([.ref (ra 0)]) ++ List.replicate (2 - (lg_sl ([.ref (ra 0)])).length) Slot.unset).toArray = ls at hl ⊢
  have hl : lv_has ls 2 [(0, .ref (ra 0))] := hl
  unfold f_X12_office at hf
  have h_73 : ∀ (M_73 : kD) (ls : Array Slot) (H : Heap) (locs : List Loc), lv_has ls 2 [(0, .ref (ra 0))] → va_P (dC, dI) vwCl (mw cB cI cJ cZ ra M_73) H → va_D (mA ra s.heap.size) (mw cB cI cJ cZ ra M_73) → va_S (mA ra s.heap.size) s.heap H locs → g_X12_office_73  M_73 = some r → W p l e (headSpec wsX12_office rm_X12_office).room s m args below meth c H locs 0 0 (MQ below (mQi dC dI cB cI cJ cZ ra s.heap.size r) args s 0 0 (mA ra s.heap.size)) (F0 m 73 ls []) := by
    intro  M_73 ls H locs hl hP hD hS hf
    unfold g_X12_office_73 at hf
    have h_110 : ∀ (M_110 : kD) (ls : Array Slot) (H : Heap) (locs : List Loc), lv_has ls 2 [(0, .ref (ra 0))] → va_P (dC, dI) vwCl (mw cB cI cJ cZ ra M_110) H → va_D (mA ra s.heap.size) (mw cB cI cJ cZ ra M_110) → va_S (mA ra s.heap.size) s.heap H locs → g_X12_office_110  M_110 = some r → W p l e (headSpec wsX12_office rm_X12_office).room s m args below meth c H locs 0 0 (MQ below (mQi dC dI cB cI cJ cZ ra s.heap.size r) args s 0 0 (mA ra s.heap.size)) (F0 m 110 ls []) := by
      intro  M_110 ls H locs hl hP hD hS hf
      unfold g_X12_office_110 at hf
      have h_139 : ∀ (M_139 : kD) (ls : Array Slot) (H : Heap) (locs : List Loc), lv_has ls 2 [(0, .ref (ra 0))] → va_P (dC, dI) vwCl (mw cB cI cJ cZ ra M_139) H → va_D (mA ra s.heap.size) (mw cB cI cJ cZ ra M_139) → va_S (mA ra s.heap.size) s.heap H locs → g_X12_office_139  M_139 = some r → W p l e (headSpec wsX12_office rm_X12_office).room s m args below meth c H locs 0 0 (MQ below (mQi dC dI cB cI cJ cZ ra s.heap.size r) args s 0 0 (mA ra s.heap.size)) (F0 m 139 ls []) := by
        intro  M_139 ls H locs hl hP hD hS hf
        unfold g_X12_office_139 at hf
        have h_170 : ∀ (M_170 : kD) (ls : Array Slot) (H : Heap) (locs : List Loc), lv_has ls 2 [(0, .ref (ra 0))] → va_P (dC, dI) vwCl (mw cB cI cJ cZ ra M_170) H → va_D (mA ra s.heap.size) (mw cB cI cJ cZ ra M_170) → va_S (mA ra s.heap.size) s.heap H locs → g_X12_office_170  M_170 = some r → W p l e (headSpec wsX12_office rm_X12_office).room s m args below meth c H locs 0 0 (MQ below (mQi dC dI cB cI cJ cZ ra s.heap.size r) args s 0 0 (mA ra s.heap.size)) (F0 m 170 ls []) := by
          intro  M_170 ls H locs hl hP hD hS hf
          unfold g_X12_office_170 at hf
          refine lv_aload_n hx hb dX12_office_170 rfl (lv_at hl 0 rfl) ?_
          refine lv_iconst (v := 0) hx hb dX12_office_171 (by decide) ?_
          obtain ⟨M1, eM1, hf⟩ := bd1_e hf
          refine km_put hx hb hts hin hown hK hP hD hS 22 (by decide) k_fieldLink_RX12_248__KeyLettersModel___undoMany___I_ rfl (ty := .int) (v := .int (0 : Int32)) (by decide +kernel) rfl rfl (M1 := M1) (by rw [eM1]; exact mo_22 cB cI cJ cZ ra M_170 (0 : Int32)) dX12_office_172 (fun H locs hP hD hS => ?_)
          refine lv_aload_n hx hb dX12_office_175 rfl (lv_at hl 0 rfl) ?_
          refine km_get hx hb hts hin hown hK hP 19 (by decide) (v := .int (M1.1 0 19)) k_fieldLink_RX12_239__KeyLettersModel___lines___I_ rfl dX12_office_176 ?_
          have hf := Option.some.inj hf
          subst hf
          exact m_iret hx hb hr hlocks hP hK hD hS dX12_office_179
        have h_141 := lp_ind (z := (fun _ _ => none)) (b := (g_X12_office_141)) (fun (rc_141 : Int32 → kD → Option (Int32 × kD)) => ∀ (x1_141 : Int32) (M_141 : kD) (ls : Array Slot) (H : Heap) (locs : List Loc), lv_has ls 2 [(0, .ref (ra 0)), (1, .int x1_141)] → va_P (dC, dI) vwCl (mw cB cI cJ cZ ra M_141) H → va_D (mA ra s.heap.size) (mw cB cI cJ cZ ra M_141) → va_S (mA ra s.heap.size) s.heap H locs → rc_141 x1_141 M_141 = some r → W p l e (headSpec wsX12_office rm_X12_office).room s m args below meth c H locs 0 0 (MQ below (mQi dC dI cB cI cJ cZ ra s.heap.size r) args s 0 0 (mA ra s.heap.size)) (F0 m 141 ls [])) (by
            intro x1_141 M_141 ls H locs hl hP hD hS hf
            cases hf) (by
            intro rc_141 ih_141 x1_141 M_141 ls H locs hl hP hD hS hf
            unfold g_X12_office_141 at hf
            refine lv_iload_n hx hb dX12_office_141 rfl (lv_at hl 1 rfl) ?_
            refine lv_bipush (v := 6) hx hb dX12_office_142 (by decide) ?_
            refine lv_icmp_ge (tgt := 170) hx hb dX12_office_144 (by decide) (fun hb7 => ?_) (fun hb7 => ?_)
            · have hf := (if_pos hb7).symm.trans hf
              exact h_170  M_141 ls _ _ (lv_sub hl [0] rfl) hP hD hS hf
            · have hf := (if_neg hb7).symm.trans hf
              refine lv_aload_n hx hb dX12_office_147 rfl (lv_at hl 0 rfl) ?_
              refine km_get hx hb hts hin hown hK hP 6 (by decide) (v := .ref (ra 6)) k_fieldLink_RX12_33__KeyLettersModel___s____I_ rfl dX12_office_148 ?_
              refine lv_bipush (v := 44) hx hb dX12_office_151 (by decide) ?_
              refine lv_iload_n hx hb dX12_office_153 rfl (lv_at hl 1 rfl) ?_
              refine lv_iadd hx hb dX12_office_154 ?_
              refine lv_aload_n hx hb dX12_office_155 rfl (lv_at hl 0 rfl) ?_
              refine km_get hx hb hts hin hown hK hP 6 (by decide) (v := .ref (ra 6)) k_fieldLink_RX12_33__KeyLettersModel___s____I_ rfl dX12_office_156 ?_
              refine lv_iconst (v := 3) hx hb dX12_office_159 (by decide) ?_
              refine lv_iload_n hx hb dX12_office_160 rfl (lv_at hl 1 rfl) ?_
              refine lv_iadd hx hb dX12_office_161 ?_
              obtain ⟨v2, ev2, hf⟩ := bd1_e hf
              refine kt_i ev2 ?_
              obtain ⟨hc3, hf⟩ := ck_e hf
              refine va_iald hx hb hK hP 2 1 rfl rfl hc3 dX12_office_162 ?_
              obtain ⟨hc4, hf⟩ := ck_e hf
              obtain ⟨M5, eM5, hf⟩ := bd1_e hf
              refine va_iast hx hb hK hP hD hS 2 1 rfl rfl hc4 dX12_office_163 (fun H locs hP hD hS => ?_)
              have hP : va_P (dC, dI) vwCl (mw cB cI cJ cZ ra M5) H := by rw [eM5, ← ma_6 cB cI cJ cZ ra M_141 ((44 : Int32) + x1_141).toNatClampNeg (M_141.1 6 v2.toNatClampNeg)]; exact hP
              have hD : va_D (mA ra s.heap.size) (mw cB cI cJ cZ ra M5) := by rw [eM5, ← ma_6 cB cI cJ cZ ra M_141 ((44 : Int32) + x1_141).toNatClampNeg (M_141.1 6 v2.toNatClampNeg)]; exact hD
              obtain ⟨v6, ev6, hf⟩ := bd1_e hf
              refine lv_iinc (k := 1) (x := x1_141) (v := v6) (nL := 2) (lv' := [(1, .int v6), (0, .ref (ra 0))]) hx hb dX12_office_164 hl rfl (kt_inc (w := 1) (by decide) ev6) (by decide) rfl (fun ls hl => ?_)
              refine lv_goto (tgt := 141) hx hb dX12_office_167 (by decide) ?_
              exact ih_141 v6 M5 ls _ _ (lv_sub hl [1, 0] rfl) hP hD hS hf) 2000
        refine lv_iconst (v := 0) hx hb dX12_office_139 (by decide) ?_
        refine lv_istore_n (nL := 2) (lv' := [(1, .int (0 : Int32)), (0, .ref (ra 0))]) hx hb dX12_office_140 rfl hl (by decide) rfl (fun ls hl => ?_)
        exact h_141 (0 : Int32) M_139 ls _ _ (lv_sub hl [1, 0] rfl) hP hD hS hf
      have h_112 := lp_ind (z := (fun _ _ => none)) (b := (g_X12_office_112)) (fun (rc_112 : Int32 → kD → Option (Int32 × kD)) => ∀ (x1_112 : Int32) (M_112 : kD) (ls : Array Slot) (H : Heap) (locs : List Loc), lv_has ls 2 [(0, .ref (ra 0)), (1, .int x1_112)] → va_P (dC, dI) vwCl (mw cB cI cJ cZ ra M_112) H → va_D (mA ra s.heap.size) (mw cB cI cJ cZ ra M_112) → va_S (mA ra s.heap.size) s.heap H locs → rc_112 x1_112 M_112 = some r → W p l e (headSpec wsX12_office rm_X12_office).room s m args below meth c H locs 0 0 (MQ below (mQi dC dI cB cI cJ cZ ra s.heap.size r) args s 0 0 (mA ra s.heap.size)) (F0 m 112 ls [])) (by
          intro x1_112 M_112 ls H locs hl hP hD hS hf
          cases hf) (by
          intro rc_112 ih_112 x1_112 M_112 ls H locs hl hP hD hS hf
          unfold g_X12_office_112 at hf
          refine lv_iload_n hx hb dX12_office_112 rfl (lv_at hl 1 rfl) ?_
          refine lv_bipush (v := 14) hx hb dX12_office_113 (by decide) ?_
          refine lv_icmp_ge (tgt := 139) hx hb dX12_office_115 (by decide) (fun hb13 => ?_) (fun hb13 => ?_)
          · have hf := (if_pos hb13).symm.trans hf
            exact h_139  M_112 ls _ _ (lv_sub hl [0] rfl) hP hD hS hf
          · have hf := (if_neg hb13).symm.trans hf
            refine lv_aload_n hx hb dX12_office_118 rfl (lv_at hl 0 rfl) ?_
            refine km_get hx hb hts hin hown hK hP 9 (by decide) (v := .ref (ra 9)) k_fieldLink_RX12_43__KeyLettersModel___names____J_ rfl dX12_office_119 ?_
            refine lv_iload_n hx hb dX12_office_122 rfl (lv_at hl 1 rfl) ?_
            refine lv_aload_n hx hb dX12_office_123 rfl (lv_at hl 0 rfl) ?_
            refine km_get hx hb hts hin hown hK hP 9 (by decide) (v := .ref (ra 9)) k_fieldLink_RX12_43__KeyLettersModel___names____J_ rfl dX12_office_124 ?_
            refine lv_bipush (v := 14) hx hb dX12_office_127 (by decide) ?_
            refine lv_iload_n hx hb dX12_office_129 rfl (lv_at hl 1 rfl) ?_
            refine lv_iadd hx hb dX12_office_130 ?_
            obtain ⟨v8, ev8, hf⟩ := bd1_e hf
            refine kt_i ev8 ?_
            obtain ⟨hc9, hf⟩ := ck_e hf
            refine va_lald hx hb hK hP 5 2 rfl rfl hc9 dX12_office_131 ?_
            obtain ⟨hc10, hf⟩ := ck_e hf
            obtain ⟨M11, eM11, hf⟩ := bd1_e hf
            refine va_last hx hb hK hP hD hS 5 2 rfl rfl hc10 dX12_office_132 (fun H locs hP hD hS => ?_)
            have hP : va_P (dC, dI) vwCl (mw cB cI cJ cZ ra M11) H := by rw [eM11, ← ma_9 cB cI cJ cZ ra M_112 x1_112.toNatClampNeg (M_112.2 9 v8.toNatClampNeg)]; exact hP
            have hD : va_D (mA ra s.heap.size) (mw cB cI cJ cZ ra M11) := by rw [eM11, ← ma_9 cB cI cJ cZ ra M_112 x1_112.toNatClampNeg (M_112.2 9 v8.toNatClampNeg)]; exact hD
            obtain ⟨v12, ev12, hf⟩ := bd1_e hf
            refine lv_iinc (k := 1) (x := x1_112) (v := v12) (nL := 2) (lv' := [(1, .int v12), (0, .ref (ra 0))]) hx hb dX12_office_133 hl rfl (kt_inc (w := 1) (by decide) ev12) (by decide) rfl (fun ls hl => ?_)
            refine lv_goto (tgt := 112) hx hb dX12_office_136 (by decide) ?_
            exact ih_112 v12 M11 ls _ _ (lv_sub hl [1, 0] rfl) hP hD hS hf) 2000
      refine lv_iconst (v := 0) hx hb dX12_office_110 (by decide) ?_
      refine lv_istore_n (nL := 2) (lv' := [(1, .int (0 : Int32)), (0, .ref (ra 0))]) hx hb dX12_office_111 rfl hl (by decide) rfl (fun ls hl => ?_)
      exact h_112 (0 : Int32) M_110 ls _ _ (lv_sub hl [1, 0] rfl) hP hD hS hf
    have h_75 := lp_ind (z := (fun _ _ => none)) (b := (g_X12_office_75)) (fun (rc_75 : Int32 → kD → Option (Int32 × kD)) => ∀ (x1_75 : Int32) (M_75 : kD) (ls : Array Slot) (H : Heap) (locs : List Loc), lv_has ls 2 [(0, .ref (ra 0)), (1, .int x1_75)] → va_P (dC, dI) vwCl (mw cB cI cJ cZ ra M_75) H → va_D (mA ra s.heap.size) (mw cB cI cJ cZ ra M_75) → va_S (mA ra s.heap.size) s.heap H locs → rc_75 x1_75 M_75 = some r → W p l e (headSpec wsX12_office rm_X12_office).room s m args below meth c H locs 0 0 (MQ below (mQi dC dI cB cI cJ cZ ra s.heap.size r) args s 0 0 (mA ra s.heap.size)) (F0 m 75 ls [])) (by
        intro x1_75 M_75 ls H locs hl hP hD hS hf
        cases hf) (by
        intro rc_75 ih_75 x1_75 M_75 ls H locs hl hP hD hS hf
        unfold g_X12_office_75 at hf
        have h_103 : ∀ (x1_103 : Int32) (t1_103 : Int32) (t2_103 : Int32) (M_103 : kD) (ls : Array Slot) (H : Heap) (locs : List Loc), lv_has ls 2 [(0, .ref (ra 0)), (1, .int x1_103)] → va_P (dC, dI) vwCl (mw cB cI cJ cZ ra M_103) H → va_D (mA ra s.heap.size) (mw cB cI cJ cZ ra M_103) → va_S (mA ra s.heap.size) s.heap H locs → g_X12_office_103 rc_75 x1_103 t1_103 t2_103 M_103 = some r → W p l e (headSpec wsX12_office rm_X12_office).room s m args below meth c H locs 0 0 (MQ below (mQi dC dI cB cI cJ cZ ra s.heap.size r) args s 0 0 (mA ra s.heap.size)) (F0 m 103 ls [.int t2_103, .int t1_103, .ref (ra 6)]) := by
          intro x1_103 t1_103 t2_103 M_103 ls H locs hl hP hD hS hf
          unfold g_X12_office_103 at hf
          obtain ⟨hc14, hf⟩ := ck_e hf
          obtain ⟨M15, eM15, hf⟩ := bd1_e hf
          refine va_iast hx hb hK hP hD hS 2 1 rfl rfl hc14 dX12_office_103 (fun H locs hP hD hS => ?_)
          have hP : va_P (dC, dI) vwCl (mw cB cI cJ cZ ra M15) H := by rw [eM15, ← ma_6 cB cI cJ cZ ra M_103 t1_103.toNatClampNeg t2_103]; exact hP
          have hD : va_D (mA ra s.heap.size) (mw cB cI cJ cZ ra M15) := by rw [eM15, ← ma_6 cB cI cJ cZ ra M_103 t1_103.toNatClampNeg t2_103]; exact hD
          obtain ⟨v16, ev16, hf⟩ := bd1_e hf
          refine lv_iinc (k := 1) (x := x1_103) (v := v16) (nL := 2) (lv' := [(1, .int v16), (0, .ref (ra 0))]) hx hb dX12_office_104 hl rfl (kt_inc (w := 1) (by decide) ev16) (by decide) rfl (fun ls hl => ?_)
          refine lv_goto (tgt := 75) hx hb dX12_office_107 (by decide) ?_
          exact ih_75 v16 M15 ls _ _ (lv_sub hl [1, 0] rfl) hP hD hS hf
        refine lv_iload_n hx hb dX12_office_75 rfl (lv_at hl 1 rfl) ?_
        refine lv_sipush (v := 279) hx hb dX12_office_76 (by decide) ?_
        refine lv_icmp_ge (tgt := 110) hx hb dX12_office_79 (by decide) (fun hb19 => ?_) (fun hb19 => ?_)
        · have hf := (if_pos hb19).symm.trans hf
          exact h_110  M_75 ls _ _ (lv_sub hl [0] rfl) hP hD hS hf
        · have hf := (if_neg hb19).symm.trans hf
          refine lv_aload_n hx hb dX12_office_82 rfl (lv_at hl 0 rfl) ?_
          refine km_get hx hb hts hin hown hK hP 6 (by decide) (v := .ref (ra 6)) k_fieldLink_RX12_33__KeyLettersModel___s____I_ rfl dX12_office_83 ?_
          refine lv_iload_n hx hb dX12_office_86 rfl (lv_at hl 1 rfl) ?_
          refine lv_iload_n hx hb dX12_office_87 rfl (lv_at hl 1 rfl) ?_
          refine lv_bipush (v := 39) hx hb dX12_office_88 (by decide) ?_
          refine lv_icmp_ge (tgt := 102) hx hb dX12_office_90 (by decide) (fun hb18 => ?_) (fun hb18 => ?_)
          · have hf := (if_pos hb18).symm.trans hf
            refine lv_iconst (v := 0) hx hb dX12_office_102 (by decide) ?_
            exact h_103 x1_75 x1_75 (0 : Int32) M_75 ls _ _ hl hP hD hS hf
          · have hf := (if_neg hb18).symm.trans hf
            refine lv_aload_n hx hb dX12_office_93 rfl (lv_at hl 0 rfl) ?_
            refine km_get hx hb hts hin hown hK hP 7 (by decide) (v := .ref (ra 7)) k_fieldLink_RX12_37__KeyLettersModel___h____I_ rfl dX12_office_94 ?_
            refine lv_iload_n hx hb dX12_office_97 rfl (lv_at hl 1 rfl) ?_
            obtain ⟨hc17, hf⟩ := ck_e hf
            refine va_iald hx hb hK hP 3 1 rfl rfl hc17 dX12_office_98 ?_
            refine lv_goto (tgt := 103) hx hb dX12_office_99 (by decide) ?_
            exact h_103 x1_75 x1_75 (M_75.1 7 x1_75.toNatClampNeg) M_75 ls _ _ hl hP hD hS hf) 2000
    refine lv_iconst (v := 0) hx hb dX12_office_73 (by decide) ?_
    refine lv_istore_n (nL := 2) (lv' := [(1, .int (0 : Int32)), (0, .ref (ra 0))]) hx hb dX12_office_74 rfl hl (by decide) rfl (fun ls hl => ?_)
    exact h_75 (0 : Int32) M_73 ls _ _ (lv_sub hl [1, 0] rfl) hP hD hS hf
  have h_30 := lp_ind (z := (fun _ => none)) (b := (g_X12_office_30)) (fun (rc_30 : kD → Option (Int32 × kD)) => ∀ (M_30 : kD) (ls : Array Slot) (H : Heap) (locs : List Loc), lv_has ls 2 [(0, .ref (ra 0))] → va_P (dC, dI) vwCl (mw cB cI cJ cZ ra M_30) H → va_D (mA ra s.heap.size) (mw cB cI cJ cZ ra M_30) → va_S (mA ra s.heap.size) s.heap H locs → rc_30  M_30 = some r → W p l e (headSpec wsX12_office rm_X12_office).room s m args below meth c H locs 0 0 (MQ below (mQi dC dI cB cI cJ cZ ra s.heap.size r) args s 0 0 (mA ra s.heap.size)) (F0 m 30 ls [])) (by
      intro  M_30 ls H locs hl hP hD hS hf
      cases hf) (by
      intro rc_30 ih_30  M_30 ls H locs hl hP hD hS hf
      unfold g_X12_office_30 at hf
      refine lv_aload_n hx hb dX12_office_30 rfl (lv_at hl 0 rfl) ?_
      refine km_get hx hb hts hin hown hK hP 11 (by decide) (v := .int (M_30.1 0 11)) k_fieldLink_RX12_154__KeyLettersModel___token___I_ rfl dX12_office_31 ?_
      refine lv_if_eq (tgt := 73) hx hb dX12_office_34 (by decide) (fun hb29 => ?_) (fun hb29 => ?_)
      · have hf := (if_pos hb29).symm.trans hf
        exact h_73  M_30 ls _ _ hl hP hD hS hf
      · have hf := (if_neg hb29).symm.trans hf
        refine lv_aload_n hx hb dX12_office_37 rfl (lv_at hl 0 rfl) ?_
        obtain ⟨v21, M20, hq22, hf⟩ := bo2_e hf
        refine km_callw (v := v21) (M1 := M20) rfl (km_run (As := []) (rest := []) ⟨hx, hb, hml, hown, hts⟩ (c_X12_readLine l dC dI cB cI cJ cZ ra _ M_30  (v21, M20) hq22) (cwV 0 hts gX12_office_X12_readLine rfl rfl rfl (by decide +kernel) ⟨Nat.le_of_ble_eq_true rfl, Nat.le_of_ble_eq_true rfl⟩) hK hP (fun _ _ _ _ => mPw_bl) (fun U hU hW => ⟨by rw [hU], by rw [hU]; exact hP, va_K.moved hW.alike hK, hD.weaken (fun _ _ _ _ => trivial)⟩) rfl rfl hl.1 rfl (lv_room (Nat.le_of_ble_eq_true rfl)) dX12_office_38 ⟨Nat.le_refl _, Nat.le_refl _⟩) hD hS hA (fun H locs hP hD hS => ?_)
        refine lv_if_eq (tgt := 53) hx hb dX12_office_41 (by decide) (fun hb28 => ?_) (fun hb28 => ?_)
        · have hf := (if_pos hb28).symm.trans hf
          refine lv_iconst (v := -1) hx hb dX12_office_53 (by decide) ?_
          refine lv_aload_n hx hb dX12_office_54 rfl (lv_at hl 0 rfl) ?_
          refine km_get hx hb hts hin hown hK hP 16 (by decide) (v := .int (M20.1 0 16)) k_fieldLink_RX12_174__KeyLettersModel___faultAt___I_ rfl dX12_office_55 ?_
          refine lv_isub hx hb dX12_office_58 ?_
          have hf := Option.some.inj hf
          subst hf
          exact m_iret hx hb hr hlocks hP hK hD hS dX12_office_59
        · have hf := (if_neg hb28).symm.trans hf
          refine lv_aload_n hx hb dX12_office_44 rfl (lv_at hl 0 rfl) ?_
          refine lv_bipush (v := 59) hx hb dX12_office_45 (by decide) ?_
          obtain ⟨v24, M23, hq25, hf⟩ := bo2_e hf
          refine km_callw (v := v24) (M1 := M23) rfl (km_run (As := [.int (59 : Int32)]) (rest := []) ⟨hx, hb, hml, hown, hts⟩ (c_X12_sign l dC dI cB cI cJ cZ ra _ M20 (59 : Int32) (v24, M23) hq25) (cwV 1 hts gX12_office_X12_sign rfl rfl rfl (by decide +kernel) ⟨Nat.le_of_ble_eq_true rfl, Nat.le_of_ble_eq_true rfl⟩) hK hP (fun _ _ _ _ => mPw_bl) (fun U hU hW => ⟨by rw [hU], by rw [hU]; exact hP, va_K.moved hW.alike hK, hD.weaken (fun _ _ _ _ => trivial)⟩) rfl rfl hl.1 rfl (lv_room (Nat.le_of_ble_eq_true rfl)) dX12_office_47 ⟨Nat.le_refl _, Nat.le_refl _⟩) hD hS hA (fun H locs hP hD hS => ?_)
          refine lv_if_ne (tgt := 60) hx hb dX12_office_50 (by decide) (fun hb27 => ?_) (fun hb27 => ?_)
          · have hf := (if_neg hb27).symm.trans hf
            refine lv_aload_n hx hb dX12_office_60 rfl (lv_at hl 0 rfl) ?_
            refine lv_dup hx hb dX12_office_61 rfl ?_
            refine km_get hx hb hts hin hown hK hP 19 (by decide) (v := .int (M23.1 0 19)) k_fieldLink_RX12_239__KeyLettersModel___lines___I_ rfl dX12_office_62 ?_
            refine lv_iconst (v := 1) hx hb dX12_office_65 (by decide) ?_
            refine lv_iadd hx hb dX12_office_66 ?_
            obtain ⟨M26, eM26, hf⟩ := bd1_e hf
            refine km_put hx hb hts hin hown hK hP hD hS 19 (by decide) k_fieldLink_RX12_239__KeyLettersModel___lines___I_ rfl (ty := .int) (v := .int ((M23.1 0 19) + (1 : Int32))) (by decide +kernel) rfl rfl (M1 := M26) (by rw [eM26]; exact mo_19 cB cI cJ cZ ra M23 ((M23.1 0 19) + (1 : Int32))) dX12_office_67 (fun H locs hP hD hS => ?_)
            refine lv_goto (tgt := 30) hx hb dX12_office_70 (by decide) ?_
            exact ih_30  M26 ls _ _ hl hP hD hS hf
          · have hf := (if_pos hb27).symm.trans hf
            refine lv_iconst (v := -1) hx hb dX12_office_53 (by decide) ?_
            refine lv_aload_n hx hb dX12_office_54 rfl (lv_at hl 0 rfl) ?_
            refine km_get hx hb hts hin hown hK hP 16 (by decide) (v := .int (M23.1 0 16)) k_fieldLink_RX12_174__KeyLettersModel___faultAt___I_ rfl dX12_office_55 ?_
            refine lv_isub hx hb dX12_office_58 ?_
            have hf := Option.some.inj hf
            subst hf
            exact m_iret hx hb hr hlocks hP hK hD hS dX12_office_59) 2000
  refine lv_aload_n hx hb dX12_office_0 rfl (lv_at hl 0 rfl) ?_
  refine lv_iconst (v := 0) hx hb dX12_office_1 (by decide) ?_
  obtain ⟨M30, eM30, hf⟩ := bd1_e hf
  refine km_put hx hb hts hin hown hK hP hD hS 0 (by decide) k_fieldLink_RX12_1__KeyLettersModel___thrown___I_ rfl (ty := .int) (v := .int (0 : Int32)) (by decide +kernel) rfl rfl (M1 := M30) (by rw [eM30]; exact mo_0 cB cI cJ cZ ra M (0 : Int32)) dX12_office_2 (fun H locs hP hD hS => ?_)
  refine lv_aload_n hx hb dX12_office_5 rfl (lv_at hl 0 rfl) ?_
  refine lv_sipush (v := 900) hx hb dX12_office_6 (by decide) ?_
  obtain ⟨M31, hq32, hf⟩ := bo_e hf
  refine km_callwv (M1 := M31) (km_run (As := [.int (900 : Int32)]) (rest := []) ⟨hx, hb, hml, hown, hts⟩ (c_X12_taken l dC dI cB cI cJ cZ ra _ M30 (900 : Int32) M31 hq32) (cwV 1 hts gX12_office_X12_taken rfl rfl rfl (by decide +kernel) ⟨Nat.le_of_ble_eq_true rfl, Nat.le_of_ble_eq_true rfl⟩) hK hP (fun _ _ _ _ => mPw_bl) (fun U hU hW => ⟨by rw [hU], by rw [hU]; exact hP, va_K.moved hW.alike hK, hD.weaken (fun _ _ _ _ => trivial)⟩) rfl rfl hl.1 rfl (lv_room (Nat.le_of_ble_eq_true rfl)) dX12_office_9 ⟨Nat.le_refl _, Nat.le_refl _⟩) hD hS hA (fun H locs hP hD hS => ?_)
  refine lv_aload_n hx hb dX12_office_12 rfl (lv_at hl 0 rfl) ?_
  refine lv_iconst (v := 0) hx hb dX12_office_13 (by decide) ?_
  obtain ⟨M33, eM33, hf⟩ := bd1_e hf
  refine km_put hx hb hts hin hown hK hP hD hS 15 (by decide) k_fieldLink_RX12_171__KeyLettersModel___fault___I_ rfl (ty := .int) (v := .int (0 : Int32)) (by decide +kernel) rfl rfl (M1 := M33) (by rw [eM33]; exact mo_15 cB cI cJ cZ ra M31 (0 : Int32)) dX12_office_14 (fun H locs hP hD hS => ?_)
  refine lv_aload_n hx hb dX12_office_17 rfl (lv_at hl 0 rfl) ?_
  refine lv_iconst (v := 0) hx hb dX12_office_18 (by decide) ?_
  obtain ⟨M34, eM34, hf⟩ := bd1_e hf
  refine km_put hx hb hts hin hown hK hP hD hS 19 (by decide) k_fieldLink_RX12_239__KeyLettersModel___lines___I_ rfl (ty := .int) (v := .int (0 : Int32)) (by decide +kernel) rfl rfl (M1 := M34) (by rw [eM34]; exact mo_19 cB cI cJ cZ ra M33 (0 : Int32)) dX12_office_19 (fun H locs hP hD hS => ?_)
  refine lv_aload_n hx hb dX12_office_22 rfl (lv_at hl 0 rfl) ?_
  obtain ⟨M35, hq36, hf⟩ := bo_e hf
  refine km_callwv (M1 := M35) (km_run (As := []) (rest := []) ⟨hx, hb, hml, hown, hts⟩ (c_X12_clears l dC dI cB cI cJ cZ ra _ M34  M35 hq36) (cwV 0 hts gX12_office_X12_clears rfl rfl rfl (by decide +kernel) ⟨Nat.le_of_ble_eq_true rfl, Nat.le_of_ble_eq_true rfl⟩) hK hP (fun _ _ _ _ => mPw_bl) (fun U hU hW => ⟨by rw [hU], by rw [hU]; exact hP, va_K.moved hW.alike hK, hD.weaken (fun _ _ _ _ => trivial)⟩) rfl rfl hl.1 rfl (lv_room (Nat.le_of_ble_eq_true rfl)) dX12_office_23 ⟨Nat.le_refl _, Nat.le_refl _⟩) hD hS hA (fun H locs hP hD hS => ?_)
  refine lv_aload_n hx hb dX12_office_26 rfl (lv_at hl 0 rfl) ?_
  obtain ⟨M37, hq38, hf⟩ := bo_e hf
  refine km_callwv (M1 := M37) (km_run (As := []) (rest := []) ⟨hx, hb, hml, hown, hts⟩ (c_X12_next l dC dI cB cI cJ cZ ra _ M35  M37 hq38) (cwV 0 hts gX12_office_X12_next rfl rfl rfl (by decide +kernel) ⟨Nat.le_of_ble_eq_true rfl, Nat.le_of_ble_eq_true rfl⟩) hK hP (fun _ _ _ _ => mPw_bl) (fun U hU hW => ⟨by rw [hU], by rw [hU]; exact hP, va_K.moved hW.alike hK, hD.weaken (fun _ _ _ _ => trivial)⟩) rfl rfl hl.1 rfl (lv_room (Nat.le_of_ble_eq_true rfl)) dX12_office_27 ⟨Nat.le_refl _, Nat.le_refl _⟩) hD hS hA (fun H locs hP hD hS => ?_)
  exact h_30  M37 ls _ _ hl hP hD hS hf

