def ww_X4_seesEnd (cs : Nat → ClassId) (ad : Nat → Nat) (raR : Nat → Nat) (raT : Nat) (xR : Nat) (nT : Nat) (R : kD) (T : Nat → Int32) : va_W := (wX4 cs ad raR xR raT R ++ ([(raT, .inl (cs 1, nT, .inl T))]))
abbrev rm_X4_seesEnd : Room := { frames := 0, cells := 0, slots := 0, locals := 0 }
set_option maxHeartbeats 4000000 in
set_option maxRecDepth 100000 in
theorem c_X4_seesEnd (l : Launch) (dC : Nat → ClassId) (dI : Nat → Nat → Nat) (cs : Nat → ClassId) (ad : Nat → Nat) (raR : Nat → Nat) (raT : Nat) (xR : Nat) (nT : Nat) (R : kD) (T : Nat → Int32) (r : Int32) (hf : f_X4_seesEnd nT R T = r) : Met l yX4_seesEnd wsX4_seesEnd rm_X4_seesEnd (va_Pc [.ref (raR 0)] (cPr dC dI cs (ww_X4_seesEnd cs ad raR raT xR nT R T))) (kQ (some (.int r))) 0 0 (kF) := by
  refine Met.ofW (cc := cX4_seesEnd) (maxL := 1) (ret := (some .boolean)) (by decide) rfl ?_
  intro p e s m args below meth c s₁ B hml hv
  obtain ⟨hav, hP, hK, hN⟩ := hv
  have hx := B.exec
  have hb := B.bytes
  have hr := B.returns
  have hts := atoms_spec (ws := wsX4_seesEnd) B.pre
  have hown : s.vm.findClass RX4 = some m.cls := findClass_of_methodNamed B.named
  have hlocks := B.notSynchronized
  have hinX4 := (show ∀ w ∈ wsX40, w ∈ wsX4_seesEnd from fun w h => List.mem_cons_of_mem _ (List.mem_append_right _ h))
  have k_fieldLink_RX4_52__KeyLetters_Reader___sort___I_ := hts (.fieldLink RX4 52 "KeyLetters$Reader" "sort" "I") (List.mem_of_getElem? (i := 1) rfl)
  have hl := lv_entry ([.ref (raR 0)]) (n := 1) (Nat.le_of_ble_eq_true rfl)
  rw [show entryFrame m args 1 = entryFrame m ([.ref (raR 0)] : List Value).toArray 1 from by rw [hav], lg_entry_eq]
  generalize (lg_sl ([.ref (raR 0)]) ++ List.replicate (1 - (lg_sl ([.ref (raR 0)])).length) Slot.unset).toArray = ls at hl ⊢
  have hl : lv_has ls 1 [(0, .ref (raR 0))] := hl
  unfold f_X4_seesEnd at hf
  refine lv_aload_n hx hb dX4_seesEnd_0 rfl (lv_at hl 0 rfl) ?_
  refine va_get (D := (dC, dI)) (ci := 5) (C := RX4) (T := TX4) (N := 11) hx hb hts hinX4 hown hK hP 0 rfl rfl 4 (by decide) (v := .int (R.1 0 4)) k_fieldLink_RX4_52__KeyLetters_Reader___sort___I_ (fun _ h9 => h9) rfl dX4_seesEnd_1 ?_
  refine lv_iconst (v := 1) hx hb dX4_seesEnd_4 (by decide) ?_
  refine lv_icmp_ne (tgt := 12) hx hb dX4_seesEnd_5 (by decide) (fun hb1 => ?_) (fun hb1 => ?_)
  · have hf := (if_neg hb1).symm.trans hf
    refine lv_iconst (v := 0) hx hb dX4_seesEnd_12 (by decide) ?_
    subst hf
    exact W.zret (v := (0 : Int32)) (ty := .boolean) hx hb hr rfl (fun t ht hW => ⟨rfl, ht⟩) (fun _ h => nomatch h) dX4_seesEnd_13
  · have hf := (if_pos hb1).symm.trans hf
    refine lv_iconst (v := 1) hx hb dX4_seesEnd_8 (by decide) ?_
    refine lv_goto (tgt := 13) hx hb dX4_seesEnd_9 (by decide) ?_
    subst hf
    exact W.zret (v := (1 : Int32)) (ty := .boolean) hx hb hr rfl (fun t ht hW => ⟨rfl, ht⟩) (fun _ h => nomatch h) dX4_seesEnd_13
theorem z_X4_seesEnd (nT : Nat) (R : kD) (T : Nat → Int32) : f_X4_seesEnd nT R T = 0 ∨ f_X4_seesEnd nT R T = 1 := by
  unfold f_X4_seesEnd
  repeat' split
  all_goals first | exact Or.inl rfl | exact Or.inr rfl

def ww_X4_seesWord (cs : Nat → ClassId) (ad : Nat → Nat) (raR : Nat → Nat) (raT : Nat) (xR : Nat) (nT : Nat) (R : kD) (T : Nat → Int32) : va_W := (wX4 cs ad raR xR raT R ++ ([(raT, .inl (cs 1, nT, .inl T))]))
abbrev rm_X4_seesWord : Room := { frames := 0, cells := 0, slots := 0, locals := 0 }
set_option maxHeartbeats 4000000 in
set_option maxRecDepth 100000 in
theorem c_X4_seesWord (l : Launch) (dC : Nat → ClassId) (dI : Nat → Nat → Nat) (cs : Nat → ClassId) (ad : Nat → Nat) (raR : Nat → Nat) (raT : Nat) (xR : Nat) (nT : Nat) (R : kD) (T : Nat → Int32) (a0 : Int32) (r : Int32) (hf : f_X4_seesWord a0 nT R T = some r) : Met l yX4_seesWord wsX4_seesWord rm_X4_seesWord (va_Pc [.ref (raR 0), .ref (ad a0.toNatClampNeg)] (cPe ad (kF) (cPr dC dI cs (ww_X4_seesWord cs ad raR raT xR nT R T)))) (kQ (some (.int r))) 0 0 (kF) := by
  refine Met.ofW (cc := cX4_seesWord) (maxL := 2) (ret := (some .boolean)) (by decide) rfl ?_
  intro p e s m args below meth c s₁ B hml hv
  obtain ⟨hav, hE, hP, hK, hN⟩ := hv
  have hx := B.exec
  have hb := B.bytes
  have hr := B.returns
  have hts := atoms_spec (ws := wsX4_seesWord) B.pre
  have hown : s.vm.findClass RX4 = some m.cls := findClass_of_methodNamed B.named
  have hlocks := B.notSynchronized
  have hinX4 := (show ∀ w ∈ wsX40, w ∈ wsX4_seesWord from fun w h => List.mem_cons_of_mem _ (List.mem_append_right _ h))
  have k_fieldLink_RX4_52__KeyLetters_Reader___sort___I_ := hts (.fieldLink RX4 52 "KeyLetters$Reader" "sort" "I") (List.mem_of_getElem? (i := 1) rfl)
  have kldLink_RX4_21__KeyLetters_Reader___word___LKeyLetters_Word__ := hts (.fieldLink RX4 21 "KeyLetters$Reader" "word" "LKeyLetters$Word;") (List.mem_of_getElem? (i := 2) rfl)
  have hl := lv_entry ([.ref (raR 0), .ref (ad a0.toNatClampNeg)]) (n := 2) (Nat.le_of_ble_eq_true rfl)
  rw [show entryFrame m args 2 = entryFrame m ([.ref (raR 0), .ref (ad a0.toNatClampNeg)] : List Value).toArray 2 from by rw [hav], lg_entry_eq]
  generalize (lg_sl ([.ref (raR 0), .ref (ad a0.toNatClampNeg)]) ++ List.replicate (2 - (lg_sl ([.ref (raR 0), .ref (ad a0.toNatClampNeg)])).length) Slot.unset).toArray = ls at hl ⊢
  have hl : lv_has ls 2 [(0, .ref (raR 0)), (1, .ref (ad a0.toNatClampNeg))] := hl
  unfold f_X4_seesWord at hf
  refine lv_aload_n hx hb dX4_seesWord_0 rfl (lv_at hl 0 rfl) ?_
  refine va_get (D := (dC, dI)) (ci := 5) (C := RX4) (T := TX4) (N := 11) hx hb hts hinX4 hown hK hP 0 rfl rfl 4 (by decide) (v := .int (R.1 0 4)) k_fieldLink_RX4_52__KeyLetters_Reader___sort___I_ (fun _ h9 => h9) rfl dX4_seesWord_1 ?_
  refine lv_iconst (v := 2) hx hb dX4_seesWord_4 (by decide) ?_
  refine lv_icmp_ne (tgt := 20) hx hb dX4_seesWord_5 (by decide) (fun hb4 => ?_) (fun hb4 => ?_)
  · have hf := (if_neg hb4).symm.trans hf
    refine lv_iconst (v := 0) hx hb dX4_seesWord_20 (by decide) ?_
    have hf := Option.some.inj hf
    subst hf
    exact W.zret (v := (0 : Int32)) (ty := .boolean) hx hb hr rfl (fun t ht hW => ⟨rfl, ht⟩) (fun _ h => nomatch h) dX4_seesWord_21
  · have hf := (if_pos hb4).symm.trans hf
    refine lv_aload_n hx hb dX4_seesWord_8 rfl (lv_at hl 0 rfl) ?_
    refine va_get (D := (dC, dI)) (ci := 5) (C := RX4) (T := TX4) (N := 11) hx hb hts hinX4 hown hK hP 0 rfl rfl 6 (by decide) (v := va_rf (kW ad (R.1 0 6))) kldLink_RX4_21__KeyLetters_Reader___word___LKeyLetters_Word__ (fun _ h9 => h9) rfl dX4_seesWord_9 ?_
    obtain ⟨hc1, hf⟩ := ck_e hf
    rw [kW_in ad hc1]
    refine lv_aload_n hx hb dX4_seesWord_12 rfl (lv_at hl 1 rfl) ?_
    obtain ⟨hc2, hf⟩ := ck_e hf
    refine ke_acmp_ne (x := (R.1 0 6)) (y := a0) hE hc1 hc2 (tgt := 20) hx hb dX4_seesWord_13 (by decide) (fun hb3 => ?_) (fun hb3 => ?_)
    · have hf := (if_neg hb3).symm.trans hf
      refine lv_iconst (v := 0) hx hb dX4_seesWord_20 (by decide) ?_
      have hf := Option.some.inj hf
      subst hf
      exact W.zret (v := (0 : Int32)) (ty := .boolean) hx hb hr rfl (fun t ht hW => ⟨rfl, ht⟩) (fun _ h => nomatch h) dX4_seesWord_21
    · have hf := (if_pos hb3).symm.trans hf
      refine lv_iconst (v := 1) hx hb dX4_seesWord_16 (by decide) ?_
      refine lv_goto (tgt := 21) hx hb dX4_seesWord_17 (by decide) ?_
      have hf := Option.some.inj hf
      subst hf
      exact W.zret (v := (1 : Int32)) (ty := .boolean) hx hb hr rfl (fun t ht hW => ⟨rfl, ht⟩) (fun _ h => nomatch h) dX4_seesWord_21

def ww_X4_refuse (cs : Nat → ClassId) (ad : Nat → Nat) (raR : Nat → Nat) (raT : Nat) (xR : Nat) (nT : Nat) (R : kD) (T : Nat → Int32) : va_W := (wX4 cs ad raR xR raT R ++ ([(raT, .inl (cs 1, nT, .inl T))]))
abbrev rm_X4_refuse : Room := { frames := 0, cells := 0, slots := 0, locals := 0 }
set_option maxHeartbeats 4000000 in
set_option maxRecDepth 100000 in
theorem c_X4_refuse (l : Launch) (dC : Nat → ClassId) (dI : Nat → Nat → Nat) (cs : Nat → ClassId) (ad : Nat → Nat) (raR : Nat → Nat) (raT : Nat) (xR : Nat) (nT : Nat) (sz : Nat) (R : kD) (T : Nat → Int32) (a0 : Int32) (r : Int32 × kD) (hf : f_X4_refuse a0 nT R T = some r) : Met l yX4_refuse wsX4_refuse rm_X4_refuse (va_Pc [.ref (raR 0), .int a0] (cPw dC dI cs sz (ww_X4_refuse cs ad raR raT xR nT R T))) (cQi dC dI cs (va_A (ww_X4_refuse cs ad raR raT xR nT zD (fun _ => 0)) sz) r.1 (ww_X4_refuse cs ad raR raT xR nT r.2 T)) 0 0 (va_A (ww_X4_refuse cs ad raR raT xR nT zD (fun _ => 0)) sz) := by
  refine Met.ofW (cc := cX4_refuse) (maxL := 2) (ret := (some .boolean)) (by decide) rfl ?_
  intro p e s m args below meth c s₁ B hml hv
  obtain ⟨hav, hsz, hP, hK, hD0, hN⟩ := hv
  have hx := B.exec
  have hb := B.bytes
  have hr := B.returns
  have hts := atoms_spec (ws := wsX4_refuse) B.pre
  have hown : s.vm.findClass RX4 = some m.cls := findClass_of_methodNamed B.named
  have hlocks := B.notSynchronized
  subst hsz
  have hA : ∀ q, s.heap.size ≤ q → va_A (ww_X4_refuse cs ad raR raT xR nT zD (fun _ => 0)) s.heap.size q := fun q h => Or.inr h
  have hD : va_D (va_A (ww_X4_refuse cs ad raR raT xR nT zD (fun _ => 0)) s.heap.size) (ww_X4_refuse cs ad raR raT xR nT R T) := hD0.weaken (fun k q h _ => cA_in (ws := (ww_X4_refuse cs ad raR raT xR nT R T)) (ws' := (ww_X4_refuse cs ad raR raT xR nT zD (fun _ => 0))) rfl h)
  have hS : va_S (va_A (ww_X4_refuse cs ad raR raT xR nT zD (fun _ => 0)) s.heap.size) s.heap s.heap [] := va_S.rf
  have hinX4 := (show ∀ w ∈ wsX40, w ∈ wsX4_refuse from fun w h => List.mem_cons_of_mem _ (List.mem_append_right _ h))
  have k_fieldLink_RX4_40__KeyLetters_Reader___faultKind___I_ := hts (.fieldLink RX4 40 "KeyLetters$Reader" "faultKind" "I") (List.mem_of_getElem? (i := 1) rfl)
  have k_fieldLink_RX4_43__KeyLetters_Reader___faultPlace___I_ := hts (.fieldLink RX4 43 "KeyLetters$Reader" "faultPlace" "I") (List.mem_of_getElem? (i := 3) rfl)
  have k_fieldLink_RX4_49__KeyLetters_Reader___place___I_ := hts (.fieldLink RX4 49 "KeyLetters$Reader" "place" "I") (List.mem_of_getElem? (i := 2) rfl)
  have hl := lv_entry ([.ref (raR 0), .int a0]) (n := 2) (Nat.le_of_ble_eq_true rfl)
  rw [show entryFrame m args 2 = entryFrame m ([.ref (raR 0), .int a0] : List Value).toArray 2 from by rw [hav], lg_entry_eq]
  generalize (lg_sl ([.ref (raR 0), .int a0]) ++ List.replicate (2 - (lg_sl ([.ref (raR 0), .int a0])).length) Slot.unset).toArray = ls at hl ⊢
  have hl : lv_has ls 2 [(0, .ref (raR 0)), (1, .int a0)] := hl
  unfold f_X4_refuse at hf
  refine lv_aload_n hx hb dX4_refuse_0 rfl (lv_at hl 0 rfl) ?_
  refine lv_iload_n hx hb dX4_refuse_1 rfl (lv_at hl 1 rfl) ?_
  obtain ⟨Rv1, eRv1, hf⟩ := bd1_e hf
  refine g_put (D := (dC, dI)) (ci := 5) (C := RX4) (T := TX4) (N := 11) hx hb hts hinX4 tyX4 tyX4_ok nmX4 hown hK hP hD hS 0 rfl rfl 9 (by decide) k_fieldLink_RX4_40__KeyLetters_Reader___faultKind___I_ (fun _ h9 => h9) rfl (ty := .int) (v := .int a0) (by decide +kernel) rfl rfl (Nat.le_of_ble_eq_true rfl) (ws' := (ww_X4_refuse cs ad raR raT xR nT Rv1 T)) (by rw [eRv1]; rfl) dX4_refuse_2 (fun H locs hP hD hS => ?_)
  refine lv_aload_n hx hb dX4_refuse_5 rfl (lv_at hl 0 rfl) ?_
  refine lv_aload_n hx hb dX4_refuse_6 rfl (lv_at hl 0 rfl) ?_
  refine va_get (D := (dC, dI)) (ci := 5) (C := RX4) (T := TX4) (N := 11) hx hb hts hinX4 hown hK hP 0 rfl rfl 5 (by decide) (v := .int (Rv1.1 0 5)) k_fieldLink_RX4_49__KeyLetters_Reader___place___I_ (fun _ h9 => h9) rfl dX4_refuse_7 ?_
  obtain ⟨Rv2, eRv2, hf⟩ := bd1_e hf
  refine g_put (D := (dC, dI)) (ci := 5) (C := RX4) (T := TX4) (N := 11) hx hb hts hinX4 tyX4 tyX4_ok nmX4 hown hK hP hD hS 0 rfl rfl 10 (by decide) k_fieldLink_RX4_43__KeyLetters_Reader___faultPlace___I_ (fun _ h9 => h9) rfl (ty := .int) (v := .int (Rv1.1 0 5)) (by decide +kernel) rfl rfl (Nat.le_of_ble_eq_true rfl) (ws' := (ww_X4_refuse cs ad raR raT xR nT Rv2 T)) (by rw [eRv2]; rfl) dX4_refuse_10 (fun H locs hP hD hS => ?_)
  refine lv_iconst (v := 0) hx hb dX4_refuse_13 (by decide) ?_
  have hf := Option.some.inj hf
  subst hf
  exact c_zret (v := (0 : Int32)) hx hb hr rfl hlocks hP hK hD hS dX4_refuse_14

def ww_X11_placeOf (cs : Nat → ClassId) (ad : Nat → Nat) (raA : Nat) (nA : Nat) (A : Nat → Int64) : va_W := ([(raA, .inl (cs 2, nA, .inr (.inl A)))])
abbrev rm_X11_placeOf : Room := { frames := 0, cells := 0, slots := 0, locals := 0 }
set_option maxHeartbeats 4000000 in
set_option maxRecDepth 100000 in
theorem c_X11_placeOf (l : Launch) (dC : Nat → ClassId) (dI : Nat → Nat → Nat) (cs : Nat → ClassId) (ad : Nat → Nat) (raA : Nat) (nA : Nat) (A : Nat → Int64) (a0 : Int64) (a2 : Int32) (r : Int32) (hf : f_X11_placeOf a0 a2 nA A = some r) : Met l yX11_placeOf wsX11_placeOf rm_X11_placeOf (va_Pc [.long a0, .ref raA, .int a2] (cPr dC dI cs (ww_X11_placeOf cs ad raA nA A))) (kQ (some (.int r))) 0 0 (kF) := by
  refine Met.ofW (cc := cX11_placeOf) (maxL := 5) (ret := (some .int)) (by decide) rfl ?_
  intro p e s m args below meth c s₁ B hml hv
  obtain ⟨hav, hP, hK, hN⟩ := hv
  have hx := B.exec
  have hb := B.bytes
  have hr := B.returns
  have hts := atoms_spec (ws := wsX11_placeOf) B.pre
  have hown : s.vm.findClass RX11 = some m.cls := findClass_of_methodNamed B.named
  have hlocks := B.notSynchronized
  have hl := lv_entry ([.long a0, .ref raA, .int a2]) (n := 5) (Nat.le_of_ble_eq_true rfl)
  rw [show entryFrame m args 5 = entryFrame m ([.long a0, .ref raA, .int a2] : List Value).toArray 5 from by rw [hav], lg_entry_eq]
  generalize (lg_sl ([.long a0, .ref raA, .int a2]) ++ List.replicate (5 - (lg_sl ([.long a0, .ref raA, .int a2])).length) Slot.unset).toArray = ls at hl ⊢
  have hl : lv_has ls 5 [(0, .long a0), (2, .ref raA), (3, .int a2)] := hl
  unfold f_X11_placeOf at hf
  have h_3 := lp_ind (z := (fun _ _ _ => none)) (b := (g_X11_placeOf_3 nA A)) (fun (rc_3 : Int64 → Int32 → Int32 → Option Int32) => ∀ (x0_3 : Int64) (x3_3 : Int32) (x4_3 : Int32) (ls : Array Slot), lv_has ls 5 [(0, .long x0_3), (2, .ref raA), (3, .int x3_3), (4, .int x4_3)] → rc_3 x0_3 x3_3 x4_3 = some r → W p l e (headSpec wsX11_placeOf rm_X11_placeOf).room s m args below meth c s.heap [] 0 0 (MQ below (kQ (some (.int r))) args s 0 0 (kF)) (F0 m 3 ls [])) (by
      intro x0_3 x3_3 x4_3 ls hl hf
      cases hf) (by
      intro rc_3 ih_3 x0_3 x3_3 x4_3 ls hl hf
      unfold g_X11_placeOf_3 at hf
      refine lv_iload hx hb dX11_placeOf_3 (lv_at hl 3 rfl) ?_
      refine lv_iload_n hx hb dX11_placeOf_5 rfl (lv_at hl 2 rfl) ?_
      refine lv_icmp_ge (tgt := 34) hx hb dX11_placeOf_6 (by decide) (fun hb5 => ?_) (fun hb5 => ?_)
      · have hf := (if_pos hb5).symm.trans hf
        refine lv_iconst (v := -1) hx hb dX11_placeOf_34 (by decide) ?_
        have hf := Option.some.inj hf
        subst hf
        exact W.iret (v := (-1 : Int32)) hx hb hr (fun t ht hW => ⟨rfl, ht⟩) (fun _ h => nomatch h) dX11_placeOf_35
      · have hf := (if_neg hb5).symm.trans hf
        refine lv_iload hx hb dX11_placeOf_9 (lv_at hl 3 rfl) ?_
        refine lv_aload_n hx hb dX11_placeOf_11 rfl (lv_at hl 1 rfl) ?_
        refine va_alen hx hb hK hP 0 2 rfl rfl (v := (Int32.ofNat nA)) rfl dX11_placeOf_12 ?_
        refine lv_icmp_ge (tgt := 34) hx hb dX11_placeOf_13 (by decide) (fun hb4 => ?_) (fun hb4 => ?_)
        · have hf := (if_pos hb4).symm.trans hf
          refine lv_iconst (v := -1) hx hb dX11_placeOf_34 (by decide) ?_
          have hf := Option.some.inj hf
          subst hf
          exact W.iret (v := (-1 : Int32)) hx hb hr (fun t ht hW => ⟨rfl, ht⟩) (fun _ h => nomatch h) dX11_placeOf_35
        · have hf := (if_neg hb4).symm.trans hf
          refine lv_aload_n hx hb dX11_placeOf_16 rfl (lv_at hl 1 rfl) ?_
          refine lv_iload hx hb dX11_placeOf_17 (lv_at hl 3 rfl) ?_
          obtain ⟨hc1, hf⟩ := ck_e hf
          refine va_lald hx hb hK hP 0 2 rfl rfl hc1 dX11_placeOf_19 ?_
          refine lv_lload_n hx hb dX11_placeOf_20 rfl (lv_at hl 0 rfl) ?_
          refine W.lcmp hx hb dX11_placeOf_21 ?_
          refine lv_if_ne (tgt := 28) hx hb dX11_placeOf_22 (by decide) (fun hb3 => ?_) (fun hb3 => ?_)
          · have hf := (if_neg hb3).symm.trans hf
            obtain ⟨v2, ev2, hf⟩ := bd1_e hf
            refine lv_iinc (k := 3) (x := x4_3) (v := v2) (nL := 5) (lv' := [(4, .int v2), (0, .long x0_3), (2, .ref raA), (3, .int x3_3)]) hx hb dX11_placeOf_28 hl rfl (kt_inc (w := 1) (by decide) ev2) (by decide) rfl (fun ls hl => ?_)
            refine lv_goto (tgt := 3) hx hb dX11_placeOf_31 (by decide) ?_
            exact ih_3 x0_3 x3_3 v2 ls (lv_sub hl [1, 2, 3, 0] rfl) hf
          · have hf := (if_pos hb3).symm.trans hf
            refine lv_iload hx hb dX11_placeOf_25 (lv_at hl 3 rfl) ?_
            have hf := Option.some.inj hf
            subst hf
            exact W.iret (v := x4_3) hx hb hr (fun t ht hW => ⟨rfl, ht⟩) (fun _ h => nomatch h) dX11_placeOf_27) 2000
  refine lv_iconst (v := 0) hx hb dX11_placeOf_0 (by decide) ?_
  refine lv_istore (nL := 5) (lv' := [(4, .int (0 : Int32)), (0, .long a0), (2, .ref raA), (3, .int a2)]) hx hb dX11_placeOf_1 hl (by decide) rfl (fun ls hl => ?_)
  exact h_3 a0 a2 (0 : Int32) ls (lv_sub hl [1, 2, 3, 0] rfl) hf

def ww_X4_neededOf (cs : Nat → ClassId) (ad : Nat → Nat) (raR : Nat → Nat) (raA : Nat) (raT : Nat) (xR : Nat) (nA : Nat) (nT : Nat) (R : kD) (A : Nat → Int64) (T : Nat → Int32) : va_W := (wX4 cs ad raR xR raT R ++ ([(raA, .inl (cs 2, nA, .inr (.inl A)))] ++ ([(raT, .inl (cs 1, nT, .inl T))])))
abbrev rm_X4_neededOf : Room := { frames := 1, cells := 0, slots := 0, locals := 24 }
set_option maxHeartbeats 4000000 in
set_option maxRecDepth 100000 in
theorem c_X4_neededOf (l : Launch) (dC : Nat → ClassId) (dI : Nat → Nat → Nat) (cs : Nat → ClassId) (ad : Nat → Nat) (raR : Nat → Nat) (raA : Nat) (raT : Nat) (xR : Nat) (nA : Nat) (nT : Nat) (sz : Nat) (R : kD) (A : Nat → Int64) (T : Nat → Int32) (a1 : Int32) (r : Int32 × kD) (hf : f_X4_neededOf a1 nA nT R A T = some r) : Met l yX4_neededOf wsX4_neededOf rm_X4_neededOf (va_Pc [.ref (raR 0), .ref raA, .int a1] (cPe ad (va_A (ww_X4_neededOf cs ad raR raA raT xR nA nT zD (fun _ => 0) (fun _ => 0)) sz) (cPw dC dI cs sz (ww_X4_neededOf cs ad raR raA raT xR nA nT R A T)))) (cQi dC dI cs (va_A (ww_X4_neededOf cs ad raR raA raT xR nA nT zD (fun _ => 0) (fun _ => 0)) sz) r.1 (ww_X4_neededOf cs ad raR raA raT xR nA nT r.2 A T)) 0 0 (va_A (ww_X4_neededOf cs ad raR raA raT xR nA nT zD (fun _ => 0) (fun _ => 0)) sz) := by
  refine Met.ofW (cc := cX4_neededOf) (maxL := 4) (ret := (some .int)) (by decide) rfl ?_
  intro p e s m args below meth c s₁ B hml hv
  obtain ⟨hav, hE, hsz, hP, hK, hD0, hN⟩ := hv
  have hx := B.exec
  have hb := B.bytes
  have hr := B.returns
  have hts := atoms_spec (ws := wsX4_neededOf) B.pre
  have hown : s.vm.findClass RX4 = some m.cls := findClass_of_methodNamed B.named
  have hlocks := B.notSynchronized
  subst hsz
  have hA : ∀ q, s.heap.size ≤ q → va_A (ww_X4_neededOf cs ad raR raA raT xR nA nT zD (fun _ => 0) (fun _ => 0)) s.heap.size q := fun q h => Or.inr h
  have hD : va_D (va_A (ww_X4_neededOf cs ad raR raA raT xR nA nT zD (fun _ => 0) (fun _ => 0)) s.heap.size) (ww_X4_neededOf cs ad raR raA raT xR nA nT R A T) := hD0.weaken (fun k q h _ => cA_in (ws := (ww_X4_neededOf cs ad raR raA raT xR nA nT R A T)) (ws' := (ww_X4_neededOf cs ad raR raA raT xR nA nT zD (fun _ => 0) (fun _ => 0))) rfl h)
  have hS : va_S (va_A (ww_X4_neededOf cs ad raR raA raT xR nA nT zD (fun _ => 0) (fun _ => 0)) s.heap.size) s.heap s.heap [] := va_S.rf
  have hinX4 := (show ∀ w ∈ wsX40, w ∈ wsX4_neededOf from fun w h => List.mem_cons_of_mem _ (List.mem_append_right _ h))
  have k_fieldLink_RX4_69__KeyLetters_Reader___name___J_ := hts (.fieldLink RX4 69 "KeyLetters$Reader" "name" "J") (List.mem_of_getElem? (i := 2) rfl)
  have k_initialized_RX11 := hts (.initialized RX11) (List.mem_of_getElem? (i := 18) rfl)
  have k_static_yX11_placeOf := hts (.static yX11_placeOf) (List.mem_of_getElem? (i := 17) rfl)
  have keldLink_RX4_15__KeyLetters_Word___OTHER___LKeyLetters_Word__ := hts (.fieldLink RX4 15 "KeyLetters$Word" "OTHER" "LKeyLetters$Word;") (List.mem_of_getElem? (i := 1) rfl)
  have hl := lv_entry ([.ref (raR 0), .ref raA, .int a1]) (n := 4) (Nat.le_of_ble_eq_true rfl)
  rw [show entryFrame m args 4 = entryFrame m ([.ref (raR 0), .ref raA, .int a1] : List Value).toArray 4 from by rw [hav], lg_entry_eq]
  generalize (lg_sl ([.ref (raR 0), .ref raA, .int a1]) ++ List.replicate (4 - (lg_sl ([.ref (raR 0), .ref raA, .int a1])).length) Slot.unset).toArray = ls at hl ⊢
  have hl : lv_has ls 4 [(0, .ref (raR 0)), (1, .ref raA), (2, .int a1)] := hl
  unfold f_X4_neededOf at hf
  refine lv_aload_n hx hb dX4_neededOf_0 rfl (lv_at hl 0 rfl) ?_
  refine va_gets hx hb (show va_Z "KeyLetters$Word" "OTHER" "LKeyLetters$Word;" (.ref (ad 0)) _ s s.heap from (hE.1.1 0 (by decide)).1) hS hown keldLink_RX4_15__KeyLetters_Word___OTHER___LKeyLetters_Word__ (fun _ h9 => h9) dX4_neededOf_1 ?_
  obtain ⟨v2, hq1, hf⟩ := bo_e hf
  have hEc := cE_subF hE hS
  refine ko_call (v := some (.int v2)) (va_runV (As := [.ref (ad (0 : Int32).toNatClampNeg)]) (rest := []) ⟨hx, hb, hml, hown, hts⟩ (c_X4_seesWord l dC dI cs ad raR raT xR nT R T (0 : Int32) v2 hq1) (cwV 1 hts gX4_neededOf_X4_seesWord rfl rfl rfl (by decide +kernel) ⟨Nat.le_of_ble_eq_true rfl, Nat.le_of_ble_eq_true rfl⟩) ⟨fun a U g mk q => ⟨q.1, (fun _ _ _ _ => cPe_bl (fun h => cPr_bl h)) a U g mk q.2⟩, va_recv hK hP (ci := 5) (q0 := 0) rfl rfl, fun U hU hW => ⟨rfl, ⟨hEc U hU hW, ⟨by rw [hU]; exact (hP.sub (ws' := (ww_X4_seesWord cs ad raR raT xR nT R T)) [0, 2] rfl), va_K.moved hW.alike hK, kN_warm hW hN⟩⟩⟩⟩ rfl rfl hl.1 rfl (lv_room (Nat.le_of_ble_eq_true rfl)) dX4_neededOf_4 ⟨Nat.le_refl _, Nat.le_refl _⟩) ?_
  refine lv_if_ne (tgt := 18) hx hb dX4_neededOf_7 (by decide) (fun hb12 => ?_) (fun hb12 => ?_)
  · have hf := (if_neg hb12).symm.trans hf
    refine lv_aload_n hx hb dX4_neededOf_18 rfl (lv_at hl 0 rfl) ?_
    refine va_get (D := (dC, dI)) (ci := 5) (C := RX4) (T := TX4) (N := 11) hx hb hts hinX4 hown hK hP 0 rfl rfl 7 (by decide) (v := .long (R.2 0 7)) k_fieldLink_RX4_69__KeyLetters_Reader___name___J_ (fun _ h9 => h9) rfl dX4_neededOf_19 ?_
    refine lv_aload_n hx hb dX4_neededOf_22 rfl (lv_at hl 1 rfl) ?_
    refine lv_iload_n hx hb dX4_neededOf_23 rfl (lv_at hl 2 rfl) ?_
    obtain ⟨v4, hq3, hf⟩ := bo_e hf
    refine ko_call (v := some (.int v4)) (va_runSN (As := [.long (R.2 0 7), .ref raA, .int a1]) (rest := []) ⟨hx, hb, hml, hown, hts⟩ (c_X11_placeOf l dC dI cs ad raA nA A (R.2 0 7) a1 v4 hq3) ⟨va_cnB 3 hts gX4_neededOf_X11_placeOf_n101 rfl rfl rfl (hN _ (List.mem_of_getElem? (i := 81) rfl)) k_initialized_RX11 (by decide +kernel) ⟨Nat.le_of_ble_eq_true rfl, Nat.le_of_ble_eq_true rfl⟩, k_static_yX11_placeOf, trivial⟩ ⟨fun a U g mk q => ⟨q.1, (fun _ _ _ _ => cPr_bl) a U g mk q.2⟩, fun U hU hW => ⟨rfl, ⟨by rw [hU]; exact (hP.sub (ws' := (ww_X11_placeOf cs ad raA nA A)) [1] rfl), va_K.moved hW.alike hK, kN_warm hW hN⟩⟩⟩ rfl rfl hl.1 rfl (lv_room (Nat.le_of_ble_eq_true rfl)) dX4_neededOf_24 ⟨Nat.le_refl _, Nat.le_refl _⟩) ?_
    refine lv_istore_n (nL := 4) (lv' := [(3, .int v4), (0, .ref (raR 0)), (1, .ref raA), (2, .int a1)]) hx hb dX4_neededOf_27 rfl hl (by decide) rfl (fun ls hl => ?_)
    refine lv_iload_n hx hb dX4_neededOf_28 rfl (lv_at hl 0 rfl) ?_
    refine lv_iconst (v := -1) hx hb dX4_neededOf_29 (by decide) ?_
    refine lv_icmp_ne (tgt := 39) hx hb dX4_neededOf_30 (by decide) (fun hb8 => ?_) (fun hb8 => ?_)
    · have hf := (if_neg hb8).symm.trans hf
      refine lv_iload_n hx hb dX4_neededOf_39 rfl (lv_at hl 0 rfl) ?_
      have hf := Option.some.inj hf
      subst hf
      exact c_iret (v := v4) hx hb hr hlocks hP hK hD hS dX4_neededOf_40
    · have hf := (if_pos hb8).symm.trans hf
      refine lv_aload_n hx hb dX4_neededOf_33 rfl (lv_at hl 1 rfl) ?_
      refine lv_iconst (v := 3) hx hb dX4_neededOf_34 (by decide) ?_
      obtain ⟨v6, Rv7, hq5, hf⟩ := bo2_e hf
      refine g_callw (isC := [0, 2]) (isR := [1]) (wc := (ww_X4_refuse cs ad raR raT xR nT R T)) (wz := (ww_X4_refuse cs ad raR raT xR nT zD (fun _ => 0))) (w1 := (ww_X4_refuse cs ad raR raT xR nT Rv7 T)) (ws' := (ww_X4_neededOf cs ad raR raA raT xR nA nT Rv7 A T)) (v := v6) (va_runV (As := [.int (3 : Int32)]) (rest := []) ⟨hx, hb, hml, hown, hts⟩ (c_X4_refuse l dC dI cs ad raR raT xR nT _ R T (3 : Int32) (v6, Rv7) hq5) (cwV 1 hts gX4_neededOf_X4_refuse rfl rfl rfl (by decide +kernel) ⟨Nat.le_of_ble_eq_true rfl, Nat.le_of_ble_eq_true rfl⟩) ⟨fun a U g mk q => ⟨q.1, (fun _ _ _ _ => cPw_bl) a U g mk q.2⟩, va_recv hK hP (ci := 5) (q0 := 0) rfl rfl, fun U hU hW => ⟨rfl, ⟨by rw [hU], by rw [hU]; exact (hP.sub (ws' := (ww_X4_refuse cs ad raR raT xR nT R T)) [0, 2] rfl), va_K.moved hW.alike hK, (hD.sub (ws' := (ww_X4_refuse cs ad raR raT xR nT R T)) [0, 2] (by decide) rfl).weaken (fun _ _ _ _ => trivial), kN_warm hW hN⟩⟩⟩ rfl rfl hl.1 rfl (lv_room (Nat.le_of_ble_eq_true rfl)) dX4_neededOf_35 ⟨Nat.le_refl _, Nat.le_refl _⟩) hP hD hS hA rfl rfl (wr := (([(raA, .inl (cs 2, nA, .inr (.inl A)))]))) rfl rfl rfl (nw := 3) rfl (by decide +kernel) rfl (fun H locs hP hD hS => ?_)
      refine lv_pop hx hb dX4_neededOf_38 rfl ?_
      refine lv_iload_n hx hb dX4_neededOf_39 rfl (lv_at hl 0 rfl) ?_
      have hf := Option.some.inj hf
      subst hf
      exact c_iret (v := v4) hx hb hr hlocks hP hK hD hS dX4_neededOf_40
  · have hf := (if_pos hb12).symm.trans hf
    refine lv_aload_n hx hb dX4_neededOf_10 rfl (lv_at hl 0 rfl) ?_
    refine lv_iconst (v := 1) hx hb dX4_neededOf_11 (by decide) ?_
    obtain ⟨v10, Rv11, hq9, hf⟩ := bo2_e hf
    refine g_callw (isC := [0, 2]) (isR := [1]) (wc := (ww_X4_refuse cs ad raR raT xR nT R T)) (wz := (ww_X4_refuse cs ad raR raT xR nT zD (fun _ => 0))) (w1 := (ww_X4_refuse cs ad raR raT xR nT Rv11 T)) (ws' := (ww_X4_neededOf cs ad raR raA raT xR nA nT Rv11 A T)) (v := v10) (va_runV (As := [.int (1 : Int32)]) (rest := []) ⟨hx, hb, hml, hown, hts⟩ (c_X4_refuse l dC dI cs ad raR raT xR nT _ R T (1 : Int32) (v10, Rv11) hq9) (cwV 1 hts gX4_neededOf_X4_refuse rfl rfl rfl (by decide +kernel) ⟨Nat.le_of_ble_eq_true rfl, Nat.le_of_ble_eq_true rfl⟩) ⟨fun a U g mk q => ⟨q.1, (fun _ _ _ _ => cPw_bl) a U g mk q.2⟩, va_recv hK hP (ci := 5) (q0 := 0) rfl rfl, fun U hU hW => ⟨rfl, ⟨by rw [hU], by rw [hU]; exact (hP.sub (ws' := (ww_X4_refuse cs ad raR raT xR nT R T)) [0, 2] rfl), va_K.moved hW.alike hK, (hD.sub (ws' := (ww_X4_refuse cs ad raR raT xR nT R T)) [0, 2] (by decide) rfl).weaken (fun _ _ _ _ => trivial), kN_warm hW hN⟩⟩⟩ rfl rfl hl.1 rfl (lv_room (Nat.le_of_ble_eq_true rfl)) dX4_neededOf_12 ⟨Nat.le_refl _, Nat.le_refl _⟩) hP hD hS hA rfl rfl (wr := (([(raA, .inl (cs 2, nA, .inr (.inl A)))]))) rfl rfl rfl (nw := 3) rfl (by decide +kernel) rfl (fun H locs hP hD hS => ?_)
    refine lv_pop hx hb dX4_neededOf_15 rfl ?_
    refine lv_iconst (v := -1) hx hb dX4_neededOf_16 (by decide) ?_
    have hf := Option.some.inj hf
    subst hf
    exact c_iret (v := (-1 : Int32)) hx hb hr hlocks hP hK hD hS dX4_neededOf_17

def ww_X4_readRun (cs : Nat → ClassId) (ad : Nat → Nat) (raR : Nat → Nat) (raT : Nat) (xR : Nat) (nT : Nat) (R : kD) (T : Nat → Int32) : va_W := (wX4 cs ad raR xR raT R ++ ([(raT, .inl (cs 1, nT, .inl T))]))
abbrev rm_X4_readRun : Room := { frames := 0, cells := 0, slots := 0, locals := 0 }
set_option maxHeartbeats 4000000 in
set_option maxRecDepth 100000 in
theorem c_X4_readRun (l : Launch) (dC : Nat → ClassId) (dI : Nat → Nat → Nat) (cs : Nat → ClassId) (ad : Nat → Nat) (raR : Nat → Nat) (raT : Nat) (xR : Nat) (nT : Nat) (sz : Nat) (R : kD) (T : Nat → Int32) (r : kD) (hf : f_X4_readRun nT R T = some r) : Met l yX4_readRun wsX4_readRun rm_X4_readRun (va_Pc [.ref (raR 0)] (cPw dC dI cs sz (ww_X4_readRun cs ad raR raT xR nT R T))) (cQv dC dI cs (va_A (ww_X4_readRun cs ad raR raT xR nT zD (fun _ => 0)) sz) (ww_X4_readRun cs ad raR raT xR nT r T)) 0 0 (va_A (ww_X4_readRun cs ad raR raT xR nT zD (fun _ => 0)) sz) := by
  refine Met.ofW (cc := cX4_readRun) (maxL := 3) (ret := none) (by decide) rfl ?_
  intro p e s m args below meth c s₁ B hml hv
  obtain ⟨hav, hsz, hP, hK, hD0, hN⟩ := hv
  have hx := B.exec
  have hb := B.bytes
  have hr := B.returns
  have hts := atoms_spec (ws := wsX4_readRun) B.pre
  have hown : s.vm.findClass RX4 = some m.cls := findClass_of_methodNamed B.named
  have hlocks := B.notSynchronized
  subst hsz
  have hA : ∀ q, s.heap.size ≤ q → va_A (ww_X4_readRun cs ad raR raT xR nT zD (fun _ => 0)) s.heap.size q := fun q h => Or.inr h
  have hD : va_D (va_A (ww_X4_readRun cs ad raR raT xR nT zD (fun _ => 0)) s.heap.size) (ww_X4_readRun cs ad raR raT xR nT R T) := hD0.weaken (fun k q h _ => cA_in (ws := (ww_X4_readRun cs ad raR raT xR nT R T)) (ws' := (ww_X4_readRun cs ad raR raT xR nT zD (fun _ => 0))) rfl h)
  have hS : va_S (va_A (ww_X4_readRun cs ad raR raT xR nT zD (fun _ => 0)) s.heap.size) s.heap s.heap [] := va_S.rf
  have hinX4 := (show ∀ w ∈ wsX40, w ∈ wsX4_readRun from fun w h => List.mem_cons_of_mem _ (List.mem_append_right _ h))
  have k_fieldLink_RX4_30__KeyLetters_Reader___bytes___I_ := hts (.fieldLink RX4 30 "KeyLetters$Reader" "bytes" "I") (List.mem_of_getElem? (i := 4) rfl)
  have k_fieldLink_RX4_37__KeyLetters_Reader___next___I_ := hts (.fieldLink RX4 37 "KeyLetters$Reader" "next" "I") (List.mem_of_getElem? (i := 3) rfl)
  have k_fieldLink_RX4_52__KeyLetters_Reader___sort___I_ := hts (.fieldLink RX4 52 "KeyLetters$Reader" "sort" "I") (List.mem_of_getElem? (i := 6) rfl)
  have k_fieldLink_RX4_58__KeyLetters_Reader___value___I_ := hts (.fieldLink RX4 58 "KeyLetters$Reader" "value" "I") (List.mem_of_getElem? (i := 2) rfl)
  have k_fieldLink_RX4_69__KeyLetters_Reader___name___J_ := hts (.fieldLink RX4 69 "KeyLetters$Reader" "name" "J") (List.mem_of_getElem? (i := 1) rfl)
  have k_fieldLink_RX4_9__KeyLetters_Reader___text____I_ := hts (.fieldLink RX4 9 "KeyLetters$Reader" "text" "[I") (List.mem_of_getElem? (i := 5) rfl)
  have hl := lv_entry ([.ref (raR 0)]) (n := 3) (Nat.le_of_ble_eq_true rfl)
  rw [show entryFrame m args 3 = entryFrame m ([.ref (raR 0)] : List Value).toArray 3 from by rw [hav], lg_entry_eq]
  generalize (lg_sl ([.ref (raR 0)]) ++ List.replicate (3 - (lg_sl ([.ref (raR 0)])).length) Slot.unset).toArray = ls at hl ⊢
  have hl : lv_has ls 3 [(0, .ref (raR 0))] := hl
  unfold f_X4_readRun at hf
  have h_186 : ∀ (x1_186 : Int32) (x2_186 : Int32) (R_186 : kD) (ls : Array Slot) (H : Heap) (locs : List Loc), lv_has ls 3 [(0, .ref (raR 0)), (1, .int x1_186), (2, .int x2_186)] → va_P (dC, dI) vwCl (ww_X4_readRun cs ad raR raT xR nT R_186 T) H → va_D (va_A (ww_X4_readRun cs ad raR raT xR nT zD (fun _ => 0)) s.heap.size) (ww_X4_readRun cs ad raR raT xR nT R_186 T) → va_S (va_A (ww_X4_readRun cs ad raR raT xR nT zD (fun _ => 0)) s.heap.size) s.heap H locs → g_X4_readRun_186 nT T x1_186 x2_186 R_186 = some r → W p l e (headSpec wsX4_readRun rm_X4_readRun).room s m args below meth c H locs 0 0 (MQ below (cQv dC dI cs (va_A (ww_X4_readRun cs ad raR raT xR nT zD (fun _ => 0)) s.heap.size) (ww_X4_readRun cs ad raR raT xR nT r T)) args s 0 0 (va_A (ww_X4_readRun cs ad raR raT xR nT zD (fun _ => 0)) s.heap.size)) (F0 m 186 ls []) := by
    intro x1_186 x2_186 R_186 ls H locs hl hP hD hS hf
    unfold g_X4_readRun_186 at hf
    have h_204 : ∀ (x1_204 : Int32) (x2_204 : Int32) (R_204 : kD) (ls : Array Slot) (H : Heap) (locs : List Loc), lv_has ls 3 [(0, .ref (raR 0)), (1, .int x1_204), (2, .int x2_204)] → va_P (dC, dI) vwCl (ww_X4_readRun cs ad raR raT xR nT R_204 T) H → va_D (va_A (ww_X4_readRun cs ad raR raT xR nT zD (fun _ => 0)) s.heap.size) (ww_X4_readRun cs ad raR raT xR nT R_204 T) → va_S (va_A (ww_X4_readRun cs ad raR raT xR nT zD (fun _ => 0)) s.heap.size) s.heap H locs → g_X4_readRun_204 nT T x1_204 x2_204 R_204 = some r → W p l e (headSpec wsX4_readRun rm_X4_readRun).room s m args below meth c H locs 0 0 (MQ below (cQv dC dI cs (va_A (ww_X4_readRun cs ad raR raT xR nT zD (fun _ => 0)) s.heap.size) (ww_X4_readRun cs ad raR raT xR nT r T)) args s 0 0 (va_A (ww_X4_readRun cs ad raR raT xR nT zD (fun _ => 0)) s.heap.size)) (F0 m 204 ls []) := by
      intro x1_204 x2_204 R_204 ls H locs hl hP hD hS hf
      unfold g_X4_readRun_204 at hf
      refine lv_aload_n hx hb dX4_readRun_204 rfl (lv_at hl 0 rfl) ?_
      refine lv_iload_n hx hb dX4_readRun_205 rfl (lv_at hl 1 rfl) ?_
      refine lv_if_ne (tgt := 218) hx hb dX4_readRun_206 (by decide) (fun hb5 => ?_) (fun hb5 => ?_)
      · have hf := (if_neg hb5).symm.trans hf
        refine lv_iconst (v := 0) hx hb dX4_readRun_218 (by decide) ?_
        obtain ⟨Rv1, eRv1, hf⟩ := bd1_e hf
        refine g_put (D := (dC, dI)) (ci := 5) (C := RX4) (T := TX4) (N := 11) hx hb hts hinX4 tyX4 tyX4_ok nmX4 hown hK hP hD hS 0 rfl rfl 4 (by decide) k_fieldLink_RX4_52__KeyLetters_Reader___sort___I_ (fun _ h9 => h9) rfl (ty := .int) (v := .int (0 : Int32)) (by decide +kernel) rfl rfl (Nat.le_of_ble_eq_true rfl) (ws' := (ww_X4_readRun cs ad raR raT xR nT Rv1 T)) (by rw [eRv1]; rfl) dX4_readRun_219 (fun H locs hP hD hS => ?_)
        have hf := Option.some.inj hf
        subst hf
        exact c_vret hx hb hr hlocks hP hK hD hS dX4_readRun_222
      · have hf := (if_pos hb5).symm.trans hf
        refine lv_iload_n hx hb dX4_readRun_209 rfl (lv_at hl 2 rfl) ?_
        refine lv_iconst (v := 3) hx hb dX4_readRun_210 (by decide) ?_
        refine lv_icmp_gt (tgt := 218) hx hb dX4_readRun_211 (by decide) (fun hb4 => ?_) (fun hb4 => ?_)
        · have hf := (if_pos hb4).symm.trans hf
          refine lv_iconst (v := 0) hx hb dX4_readRun_218 (by decide) ?_
          obtain ⟨Rv2, eRv2, hf⟩ := bd1_e hf
          refine g_put (D := (dC, dI)) (ci := 5) (C := RX4) (T := TX4) (N := 11) hx hb hts hinX4 tyX4 tyX4_ok nmX4 hown hK hP hD hS 0 rfl rfl 4 (by decide) k_fieldLink_RX4_52__KeyLetters_Reader___sort___I_ (fun _ h9 => h9) rfl (ty := .int) (v := .int (0 : Int32)) (by decide +kernel) rfl rfl (Nat.le_of_ble_eq_true rfl) (ws' := (ww_X4_readRun cs ad raR raT xR nT Rv2 T)) (by rw [eRv2]; rfl) dX4_readRun_219 (fun H locs hP hD hS => ?_)
          have hf := Option.some.inj hf
          subst hf
          exact c_vret hx hb hr hlocks hP hK hD hS dX4_readRun_222
        · have hf := (if_neg hb4).symm.trans hf
          refine lv_iconst (v := 3) hx hb dX4_readRun_214 (by decide) ?_
          refine lv_goto (tgt := 219) hx hb dX4_readRun_215 (by decide) ?_
          obtain ⟨Rv3, eRv3, hf⟩ := bd1_e hf
          refine g_put (D := (dC, dI)) (ci := 5) (C := RX4) (T := TX4) (N := 11) hx hb hts hinX4 tyX4 tyX4_ok nmX4 hown hK hP hD hS 0 rfl rfl 4 (by decide) k_fieldLink_RX4_52__KeyLetters_Reader___sort___I_ (fun _ h9 => h9) rfl (ty := .int) (v := .int (3 : Int32)) (by decide +kernel) rfl rfl (Nat.le_of_ble_eq_true rfl) (ws' := (ww_X4_readRun cs ad raR raT xR nT Rv3 T)) (by rw [eRv3]; rfl) dX4_readRun_219 (fun H locs hP hD hS => ?_)
          have hf := Option.some.inj hf
          subst hf
          exact c_vret hx hb hr hlocks hP hK hD hS dX4_readRun_222
    refine lv_iload_n hx hb dX4_readRun_186 rfl (lv_at hl 2 rfl) ?_
    refine lv_if_ne (tgt := 204) hx hb dX4_readRun_187 (by decide) (fun hb8 => ?_) (fun hb8 => ?_)
    · have hf := (if_neg hb8).symm.trans hf
      exact h_204 x1_186 x2_186 R_186 ls _ _ hl hP hD hS hf
    · have hf := (if_pos hb8).symm.trans hf
      refine lv_iload_n hx hb dX4_readRun_190 rfl (lv_at hl 1 rfl) ?_
      refine lv_bipush (v := 7) hx hb dX4_readRun_191 (by decide) ?_
      refine lv_icmp_gt (tgt := 204) hx hb dX4_readRun_193 (by decide) (fun hb7 => ?_) (fun hb7 => ?_)
      · have hf := (if_pos hb7).symm.trans hf
        exact h_204 x1_186 x2_186 R_186 ls _ _ hl hP hD hS hf
      · have hf := (if_neg hb7).symm.trans hf
        refine lv_aload_n hx hb dX4_readRun_196 rfl (lv_at hl 0 rfl) ?_
        refine lv_iconst (v := 2) hx hb dX4_readRun_197 (by decide) ?_
        obtain ⟨Rv6, eRv6, hf⟩ := bd1_e hf
        refine g_put (D := (dC, dI)) (ci := 5) (C := RX4) (T := TX4) (N := 11) hx hb hts hinX4 tyX4 tyX4_ok nmX4 hown hK hP hD hS 0 rfl rfl 4 (by decide) k_fieldLink_RX4_52__KeyLetters_Reader___sort___I_ (fun _ h9 => h9) rfl (ty := .int) (v := .int (2 : Int32)) (by decide +kernel) rfl rfl (Nat.le_of_ble_eq_true rfl) (ws' := (ww_X4_readRun cs ad raR raT xR nT Rv6 T)) (by rw [eRv6]; rfl) dX4_readRun_198 (fun H locs hP hD hS => ?_)
        refine lv_goto (tgt := 222) hx hb dX4_readRun_201 (by decide) ?_
        have hf := Option.some.inj hf
        subst hf
        exact c_vret hx hb hr hlocks hP hK hD hS dX4_readRun_222
  have h_14 := lp_ind (z := (fun _ _ _ => none)) (b := (g_X4_readRun_14 nT T)) (fun (rc_14 : Int32 → Int32 → kD → Option kD) => ∀ (x1_14 : Int32) (x2_14 : Int32) (R_14 : kD) (ls : Array Slot) (H : Heap) (locs : List Loc), lv_has ls 3 [(0, .ref (raR 0)), (1, .int x1_14), (2, .int x2_14)] → va_P (dC, dI) vwCl (ww_X4_readRun cs ad raR raT xR nT R_14 T) H → va_D (va_A (ww_X4_readRun cs ad raR raT xR nT zD (fun _ => 0)) s.heap.size) (ww_X4_readRun cs ad raR raT xR nT R_14 T) → va_S (va_A (ww_X4_readRun cs ad raR raT xR nT zD (fun _ => 0)) s.heap.size) s.heap H locs → rc_14 x1_14 x2_14 R_14 = some r → W p l e (headSpec wsX4_readRun rm_X4_readRun).room s m args below meth c H locs 0 0 (MQ below (cQv dC dI cs (va_A (ww_X4_readRun cs ad raR raT xR nT zD (fun _ => 0)) s.heap.size) (ww_X4_readRun cs ad raR raT xR nT r T)) args s 0 0 (va_A (ww_X4_readRun cs ad raR raT xR nT zD (fun _ => 0)) s.heap.size)) (F0 m 14 ls [])) (by
      intro x1_14 x2_14 R_14 ls H locs hl hP hD hS hf
      cases hf) (by
      intro rc_14 ih_14 x1_14 x2_14 R_14 ls H locs hl hP hD hS hf
      unfold g_X4_readRun_14 at hf
      have h_81 : ∀ (x1_81 : Int32) (x2_81 : Int32) (R_81 : kD) (ls : Array Slot) (H : Heap) (locs : List Loc), lv_has ls 3 [(0, .ref (raR 0)), (1, .int x1_81), (2, .int x2_81)] → va_P (dC, dI) vwCl (ww_X4_readRun cs ad raR raT xR nT R_81 T) H → va_D (va_A (ww_X4_readRun cs ad raR raT xR nT zD (fun _ => 0)) s.heap.size) (ww_X4_readRun cs ad raR raT xR nT R_81 T) → va_S (va_A (ww_X4_readRun cs ad raR raT xR nT zD (fun _ => 0)) s.heap.size) s.heap H locs → g_X4_readRun_81 rc_14 nT T x1_81 x2_81 R_81 = some r → W p l e (headSpec wsX4_readRun rm_X4_readRun).room s m args below meth c H locs 0 0 (MQ below (cQv dC dI cs (va_A (ww_X4_readRun cs ad raR raT xR nT zD (fun _ => 0)) s.heap.size) (ww_X4_readRun cs ad raR raT xR nT r T)) args s 0 0 (va_A (ww_X4_readRun cs ad raR raT xR nT zD (fun _ => 0)) s.heap.size)) (F0 m 81 ls []) := by
        intro x1_81 x2_81 R_81 ls H locs hl hP hD hS hf
        unfold g_X4_readRun_81 at hf
        have h_173 : ∀ (x1_173 : Int32) (x2_173 : Int32) (R_173 : kD) (ls : Array Slot) (H : Heap) (locs : List Loc), lv_has ls 3 [(0, .ref (raR 0)), (1, .int x1_173), (2, .int x2_173)] → va_P (dC, dI) vwCl (ww_X4_readRun cs ad raR raT xR nT R_173 T) H → va_D (va_A (ww_X4_readRun cs ad raR raT xR nT zD (fun _ => 0)) s.heap.size) (ww_X4_readRun cs ad raR raT xR nT R_173 T) → va_S (va_A (ww_X4_readRun cs ad raR raT xR nT zD (fun _ => 0)) s.heap.size) s.heap H locs → g_X4_readRun_173 rc_14 nT T x1_173 x2_173 R_173 = some r → W p l e (headSpec wsX4_readRun rm_X4_readRun).room s m args below meth c H locs 0 0 (MQ below (cQv dC dI cs (va_A (ww_X4_readRun cs ad raR raT xR nT zD (fun _ => 0)) s.heap.size) (ww_X4_readRun cs ad raR raT xR nT r T)) args s 0 0 (va_A (ww_X4_readRun cs ad raR raT xR nT zD (fun _ => 0)) s.heap.size)) (F0 m 173 ls []) := by
          intro x1_173 x2_173 R_173 ls H locs hl hP hD hS hf
          unfold g_X4_readRun_173 at hf
          refine lv_aload_n hx hb dX4_readRun_173 rfl (lv_at hl 0 rfl) ?_
          refine lv_dup hx hb dX4_readRun_174 rfl ?_
          refine va_get (D := (dC, dI)) (ci := 5) (C := RX4) (T := TX4) (N := 11) hx hb hts hinX4 hown hK hP 0 rfl rfl 3 (by decide) (v := .int (R_173.1 0 3)) k_fieldLink_RX4_37__KeyLetters_Reader___next___I_ (fun _ h9 => h9) rfl dX4_readRun_175 ?_
          refine lv_iconst (v := 1) hx hb dX4_readRun_178 (by decide) ?_
          refine lv_iadd hx hb dX4_readRun_179 ?_
          obtain ⟨Rv9, eRv9, hf⟩ := bd1_e hf
          refine g_put (D := (dC, dI)) (ci := 5) (C := RX4) (T := TX4) (N := 11) hx hb hts hinX4 tyX4 tyX4_ok nmX4 hown hK hP hD hS 0 rfl rfl 3 (by decide) k_fieldLink_RX4_37__KeyLetters_Reader___next___I_ (fun _ h9 => h9) rfl (ty := .int) (v := .int ((R_173.1 0 3) + (1 : Int32))) (by decide +kernel) rfl rfl (Nat.le_of_ble_eq_true rfl) (ws' := (ww_X4_readRun cs ad raR raT xR nT Rv9 T)) (by rw [eRv9]; rfl) dX4_readRun_180 (fun H locs hP hD hS => ?_)
          refine lv_goto (tgt := 14) hx hb dX4_readRun_183 (by decide) ?_
          exact ih_14 x1_173 x2_173 Rv9 ls _ _ hl hP hD hS hf
        have h_167 : ∀ (x1_167 : Int32) (x2_167 : Int32) (t1_167 : Int32) (R_167 : kD) (ls : Array Slot) (H : Heap) (locs : List Loc), lv_has ls 3 [(0, .ref (raR 0)), (1, .int x1_167), (2, .int x2_167)] → va_P (dC, dI) vwCl (ww_X4_readRun cs ad raR raT xR nT R_167 T) H → va_D (va_A (ww_X4_readRun cs ad raR raT xR nT zD (fun _ => 0)) s.heap.size) (ww_X4_readRun cs ad raR raT xR nT R_167 T) → va_S (va_A (ww_X4_readRun cs ad raR raT xR nT zD (fun _ => 0)) s.heap.size) s.heap H locs → g_X4_readRun_167 rc_14 nT T x1_167 x2_167 t1_167 R_167 = some r → W p l e (headSpec wsX4_readRun rm_X4_readRun).room s m args below meth c H locs 0 0 (MQ below (cQv dC dI cs (va_A (ww_X4_readRun cs ad raR raT xR nT zD (fun _ => 0)) s.heap.size) (ww_X4_readRun cs ad raR raT xR nT r T)) args s 0 0 (va_A (ww_X4_readRun cs ad raR raT xR nT zD (fun _ => 0)) s.heap.size)) (F0 m 167 ls [.int t1_167, .ref (raR 0)]) := by
          intro x1_167 x2_167 t1_167 R_167 ls H locs hl hP hD hS hf
          unfold g_X4_readRun_167 at hf
          obtain ⟨Rv10, eRv10, hf⟩ := bd1_e hf
          refine g_put (D := (dC, dI)) (ci := 5) (C := RX4) (T := TX4) (N := 11) hx hb hts hinX4 tyX4 tyX4_ok nmX4 hown hK hP hD hS 0 rfl rfl 8 (by decide) k_fieldLink_RX4_58__KeyLetters_Reader___value___I_ (fun _ h9 => h9) rfl (ty := .int) (v := .int t1_167) (by decide +kernel) rfl rfl (Nat.le_of_ble_eq_true rfl) (ws' := (ww_X4_readRun cs ad raR raT xR nT Rv10 T)) (by rw [eRv10]; rfl) dX4_readRun_167 (fun H locs hP hD hS => ?_)
          obtain ⟨v11, ev11, hf⟩ := bd1_e hf
          refine lv_iinc (k := 2) (x := x2_167) (v := v11) (nL := 3) (lv' := [(2, .int v11), (0, .ref (raR 0)), (1, .int x1_167)]) hx hb dX4_readRun_170 hl rfl (kt_inc (w := 1) (by decide) ev11) (by decide) rfl (fun ls hl => ?_)
          exact h_173 x1_167 v11 Rv10 ls _ _ (lv_sub hl [1, 2, 0] rfl) hP hD hS hf
        have h_128 : ∀ (x1_128 : Int32) (x2_128 : Int32) (R_128 : kD) (ls : Array Slot) (H : Heap) (locs : List Loc), lv_has ls 3 [(0, .ref (raR 0)), (1, .int x1_128), (2, .int x2_128)] → va_P (dC, dI) vwCl (ww_X4_readRun cs ad raR raT xR nT R_128 T) H → va_D (va_A (ww_X4_readRun cs ad raR raT xR nT zD (fun _ => 0)) s.heap.size) (ww_X4_readRun cs ad raR raT xR nT R_128 T) → va_S (va_A (ww_X4_readRun cs ad raR raT xR nT zD (fun _ => 0)) s.heap.size) s.heap H locs → g_X4_readRun_128 rc_14 nT T x1_128 x2_128 R_128 = some r → W p l e (headSpec wsX4_readRun rm_X4_readRun).room s m args below meth c H locs 0 0 (MQ below (cQv dC dI cs (va_A (ww_X4_readRun cs ad raR raT xR nT zD (fun _ => 0)) s.heap.size) (ww_X4_readRun cs ad raR raT xR nT r T)) args s 0 0 (va_A (ww_X4_readRun cs ad raR raT xR nT zD (fun _ => 0)) s.heap.size)) (F0 m 128 ls []) := by
          intro x1_128 x2_128 R_128 ls H locs hl hP hD hS hf
          unfold g_X4_readRun_128 at hf
          obtain ⟨v12, ev12, hf⟩ := bd1_e hf
          refine lv_iinc (k := 1) (x := x1_128) (v := v12) (nL := 3) (lv' := [(1, .int v12), (0, .ref (raR 0)), (2, .int x2_128)]) hx hb dX4_readRun_128 hl rfl (kt_inc (w := 1) (by decide) ev12) (by decide) rfl (fun ls hl => ?_)
          refine lv_goto (tgt := 173) hx hb dX4_readRun_131 (by decide) ?_
          exact h_173 v12 x2_128 R_128 ls _ _ (lv_sub hl [1, 0, 2] rfl) hP hD hS hf
        refine lv_aload_n hx hb dX4_readRun_81 rfl (lv_at hl 0 rfl) ?_
        obtain ⟨hc13, hf⟩ := ck_e hf
        refine va_get (D := (dC, dI)) (ci := 5) (C := RX4) (T := TX4) (N := 11) hx hb hts hinX4 hown hK hP 0 rfl rfl 0 (by decide) (v := .ref (kTx xR raT (R_81.1 0 0))) k_fieldLink_RX4_9__KeyLetters_Reader___text____I_ (fun _ h9 => h9) rfl dX4_readRun_82 ?_
        rw [kTx_1 xR raT (Decidable.not_not.mp hc13)]
        refine lv_aload_n hx hb dX4_readRun_85 rfl (lv_at hl 0 rfl) ?_
        refine va_get (D := (dC, dI)) (ci := 5) (C := RX4) (T := TX4) (N := 11) hx hb hts hinX4 hown hK hP 0 rfl rfl 3 (by decide) (v := .int (R_81.1 0 3)) k_fieldLink_RX4_37__KeyLetters_Reader___next___I_ (fun _ h9 => h9) rfl dX4_readRun_86 ?_
        obtain ⟨v14, ev14, hf⟩ := bd1_e hf
        refine kt_i ev14 ?_
        obtain ⟨hc15, hf⟩ := ck_e hf
        refine va_iald hx hb hK hP 1 1 rfl rfl hc15 dX4_readRun_89 ?_
        refine lv_bipush (v := 97) hx hb dX4_readRun_90 (by decide) ?_
        refine lv_icmp_lt (tgt := 134) hx hb dX4_readRun_92 (by decide) (fun hb25 => ?_) (fun hb25 => ?_)
        · have hf := (if_pos hb25).symm.trans hf
          refine lv_aload_n hx hb dX4_readRun_134 rfl (lv_at hl 0 rfl) ?_
          refine lv_iload_n hx hb dX4_readRun_135 rfl (lv_at hl 2 rfl) ?_
          refine lv_iconst (v := 3) hx hb dX4_readRun_136 (by decide) ?_
          refine lv_icmp_ge (tgt := 163) hx hb dX4_readRun_137 (by decide) (fun hb19 => ?_) (fun hb19 => ?_)
          · have hf := (if_pos hb19).symm.trans hf
            refine lv_aload_n hx hb dX4_readRun_163 rfl (lv_at hl 0 rfl) ?_
            refine va_get (D := (dC, dI)) (ci := 5) (C := RX4) (T := TX4) (N := 11) hx hb hts hinX4 hown hK hP 0 rfl rfl 8 (by decide) (v := .int (R_81.1 0 8)) k_fieldLink_RX4_58__KeyLetters_Reader___value___I_ (fun _ h9 => h9) rfl dX4_readRun_164 ?_
            exact h_167 x1_81 x2_81 (R_81.1 0 8) R_81 ls _ _ hl hP hD hS hf
          · have hf := (if_neg hb19).symm.trans hf
            refine lv_aload_n hx hb dX4_readRun_140 rfl (lv_at hl 0 rfl) ?_
            refine va_get (D := (dC, dI)) (ci := 5) (C := RX4) (T := TX4) (N := 11) hx hb hts hinX4 hown hK hP 0 rfl rfl 8 (by decide) (v := .int (R_81.1 0 8)) k_fieldLink_RX4_58__KeyLetters_Reader___value___I_ (fun _ h9 => h9) rfl dX4_readRun_141 ?_
            refine lv_bipush (v := 10) hx hb dX4_readRun_144 (by decide) ?_
            refine lv_imul hx hb dX4_readRun_146 ?_
            refine lv_aload_n hx hb dX4_readRun_147 rfl (lv_at hl 0 rfl) ?_
            obtain ⟨hc16, hf⟩ := ck_e hf
            refine va_get (D := (dC, dI)) (ci := 5) (C := RX4) (T := TX4) (N := 11) hx hb hts hinX4 hown hK hP 0 rfl rfl 0 (by decide) (v := .ref (kTx xR raT (R_81.1 0 0))) k_fieldLink_RX4_9__KeyLetters_Reader___text____I_ (fun _ h9 => h9) rfl dX4_readRun_148 ?_
            rw [kTx_1 xR raT (Decidable.not_not.mp hc16)]
            refine lv_aload_n hx hb dX4_readRun_151 rfl (lv_at hl 0 rfl) ?_
            refine va_get (D := (dC, dI)) (ci := 5) (C := RX4) (T := TX4) (N := 11) hx hb hts hinX4 hown hK hP 0 rfl rfl 3 (by decide) (v := .int (R_81.1 0 3)) k_fieldLink_RX4_37__KeyLetters_Reader___next___I_ (fun _ h9 => h9) rfl dX4_readRun_152 ?_
            obtain ⟨v17, ev17, hf⟩ := bd1_e hf
            refine kt_i ev17 ?_
            obtain ⟨hc18, hf⟩ := ck_e hf
            refine va_iald hx hb hK hP 1 1 rfl rfl hc18 dX4_readRun_155 ?_
            refine lv_iadd hx hb dX4_readRun_156 ?_
            refine lv_bipush (v := 48) hx hb dX4_readRun_157 (by decide) ?_
            refine lv_isub hx hb dX4_readRun_159 ?_
            refine lv_goto (tgt := 167) hx hb dX4_readRun_160 (by decide) ?_
            exact h_167 x1_81 x2_81 ((((R_81.1 0 8) * (10 : Int32)) + (T v17.toNatClampNeg)) - (48 : Int32)) R_81 ls _ _ hl hP hD hS hf
        · have hf := (if_neg hb25).symm.trans hf
          refine lv_iload_n hx hb dX4_readRun_95 rfl (lv_at hl 1 rfl) ?_
          refine lv_bipush (v := 7) hx hb dX4_readRun_96 (by decide) ?_
          refine lv_icmp_ge (tgt := 128) hx hb dX4_readRun_98 (by decide) (fun hb24 => ?_) (fun hb24 => ?_)
          · have hf := (if_pos hb24).symm.trans hf
            exact h_128 x1_81 x2_81 R_81 ls _ _ hl hP hD hS hf
          · have hf := (if_neg hb24).symm.trans hf
            refine lv_aload_n hx hb dX4_readRun_101 rfl (lv_at hl 0 rfl) ?_
            refine lv_dup hx hb dX4_readRun_102 rfl ?_
            refine va_get (D := (dC, dI)) (ci := 5) (C := RX4) (T := TX4) (N := 11) hx hb hts hinX4 hown hK hP 0 rfl rfl 7 (by decide) (v := .long (R_81.2 0 7)) k_fieldLink_RX4_69__KeyLetters_Reader___name___J_ (fun _ h9 => h9) rfl dX4_readRun_103 ?_
            refine lv_aload_n hx hb dX4_readRun_106 rfl (lv_at hl 0 rfl) ?_
            obtain ⟨hc20, hf⟩ := ck_e hf
            refine va_get (D := (dC, dI)) (ci := 5) (C := RX4) (T := TX4) (N := 11) hx hb hts hinX4 hown hK hP 0 rfl rfl 0 (by decide) (v := .ref (kTx xR raT (R_81.1 0 0))) k_fieldLink_RX4_9__KeyLetters_Reader___text____I_ (fun _ h9 => h9) rfl dX4_readRun_107 ?_
            rw [kTx_1 xR raT (Decidable.not_not.mp hc20)]
            refine lv_aload_n hx hb dX4_readRun_110 rfl (lv_at hl 0 rfl) ?_
            refine va_get (D := (dC, dI)) (ci := 5) (C := RX4) (T := TX4) (N := 11) hx hb hts hinX4 hown hK hP 0 rfl rfl 3 (by decide) (v := .int (R_81.1 0 3)) k_fieldLink_RX4_37__KeyLetters_Reader___next___I_ (fun _ h9 => h9) rfl dX4_readRun_111 ?_
            obtain ⟨v21, ev21, hf⟩ := bd1_e hf
            refine kt_i ev21 ?_
            obtain ⟨hc22, hf⟩ := ck_e hf
            refine va_iald hx hb hK hP 1 1 rfl rfl hc22 dX4_readRun_114 ?_
            refine lv_i2l (v := ((T v21.toNatClampNeg).toInt64)) hx hb dX4_readRun_115 rfl ?_
            refine lv_bipush (v := 8) hx hb dX4_readRun_116 (by decide) ?_
            refine lv_bipush (v := 6) hx hb dX4_readRun_118 (by decide) ?_
            refine lv_iload_n hx hb dX4_readRun_120 rfl (lv_at hl 1 rfl) ?_
            refine lv_isub hx hb dX4_readRun_121 ?_
            refine lv_imul hx hb dX4_readRun_122 ?_
            refine lv_lshl (v := (((T v21.toNatClampNeg).toInt64) <<< (((8 : Int32) * ((6 : Int32) - x1_81)).toInt64 &&& 63))) hx hb dX4_readRun_123 rfl ?_
            refine lv_lor hx hb dX4_readRun_124 ?_
            obtain ⟨Rv23, eRv23, hf⟩ := bd1_e hf
            refine g_put (D := (dC, dI)) (ci := 5) (C := RX4) (T := TX4) (N := 11) hx hb hts hinX4 tyX4 tyX4_ok nmX4 hown hK hP hD hS 0 rfl rfl 7 (by decide) k_fieldLink_RX4_69__KeyLetters_Reader___name___J_ (fun _ h9 => h9) rfl (ty := .long) (v := .long ((R_81.2 0 7) ||| (((T v21.toNatClampNeg).toInt64) <<< (((8 : Int32) * ((6 : Int32) - x1_81)).toInt64 &&& 63)))) (by decide +kernel) rfl rfl (Nat.le_of_ble_eq_true rfl) (ws' := (ww_X4_readRun cs ad raR raT xR nT Rv23 T)) (by rw [eRv23]; rfl) dX4_readRun_125 (fun H locs hP hD hS => ?_)
            exact h_128 x1_81 x2_81 Rv23 ls _ _ hl hP hD hS hf
      have h_53 : ∀ (x1_53 : Int32) (x2_53 : Int32) (R_53 : kD) (ls : Array Slot) (H : Heap) (locs : List Loc), lv_has ls 3 [(0, .ref (raR 0)), (1, .int x1_53), (2, .int x2_53)] → va_P (dC, dI) vwCl (ww_X4_readRun cs ad raR raT xR nT R_53 T) H → va_D (va_A (ww_X4_readRun cs ad raR raT xR nT zD (fun _ => 0)) s.heap.size) (ww_X4_readRun cs ad raR raT xR nT R_53 T) → va_S (va_A (ww_X4_readRun cs ad raR raT xR nT zD (fun _ => 0)) s.heap.size) s.heap H locs → g_X4_readRun_53 rc_14 nT T x1_53 x2_53 R_53 = some r → W p l e (headSpec wsX4_readRun rm_X4_readRun).room s m args below meth c H locs 0 0 (MQ below (cQv dC dI cs (va_A (ww_X4_readRun cs ad raR raT xR nT zD (fun _ => 0)) s.heap.size) (ww_X4_readRun cs ad raR raT xR nT r T)) args s 0 0 (va_A (ww_X4_readRun cs ad raR raT xR nT zD (fun _ => 0)) s.heap.size)) (F0 m 53 ls []) := by
        intro x1_53 x2_53 R_53 ls H locs hl hP hD hS hf
        unfold g_X4_readRun_53 at hf
        refine lv_aload_n hx hb dX4_readRun_53 rfl (lv_at hl 0 rfl) ?_
        obtain ⟨hc26, hf⟩ := ck_e hf
        refine va_get (D := (dC, dI)) (ci := 5) (C := RX4) (T := TX4) (N := 11) hx hb hts hinX4 hown hK hP 0 rfl rfl 0 (by decide) (v := .ref (kTx xR raT (R_53.1 0 0))) k_fieldLink_RX4_9__KeyLetters_Reader___text____I_ (fun _ h9 => h9) rfl dX4_readRun_54 ?_
        rw [kTx_1 xR raT (Decidable.not_not.mp hc26)]
        refine lv_aload_n hx hb dX4_readRun_57 rfl (lv_at hl 0 rfl) ?_
        refine va_get (D := (dC, dI)) (ci := 5) (C := RX4) (T := TX4) (N := 11) hx hb hts hinX4 hown hK hP 0 rfl rfl 3 (by decide) (v := .int (R_53.1 0 3)) k_fieldLink_RX4_37__KeyLetters_Reader___next___I_ (fun _ h9 => h9) rfl dX4_readRun_58 ?_
        obtain ⟨v27, ev27, hf⟩ := bd1_e hf
        refine kt_i ev27 ?_
        obtain ⟨hc28, hf⟩ := ck_e hf
        refine va_iald hx hb hK hP 1 1 rfl rfl hc28 dX4_readRun_61 ?_
        refine lv_bipush (v := 48) hx hb dX4_readRun_62 (by decide) ?_
        refine lv_icmp_lt (tgt := 186) hx hb dX4_readRun_64 (by decide) (fun hb33 => ?_) (fun hb33 => ?_)
        · have hf := (if_pos hb33).symm.trans hf
          exact h_186 x1_53 x2_53 R_53 ls _ _ hl hP hD hS hf
        · have hf := (if_neg hb33).symm.trans hf
          refine lv_aload_n hx hb dX4_readRun_67 rfl (lv_at hl 0 rfl) ?_
          obtain ⟨hc29, hf⟩ := ck_e hf
          refine va_get (D := (dC, dI)) (ci := 5) (C := RX4) (T := TX4) (N := 11) hx hb hts hinX4 hown hK hP 0 rfl rfl 0 (by decide) (v := .ref (kTx xR raT (R_53.1 0 0))) k_fieldLink_RX4_9__KeyLetters_Reader___text____I_ (fun _ h9 => h9) rfl dX4_readRun_68 ?_
          rw [kTx_1 xR raT (Decidable.not_not.mp hc29)]
          refine lv_aload_n hx hb dX4_readRun_71 rfl (lv_at hl 0 rfl) ?_
          refine va_get (D := (dC, dI)) (ci := 5) (C := RX4) (T := TX4) (N := 11) hx hb hts hinX4 hown hK hP 0 rfl rfl 3 (by decide) (v := .int (R_53.1 0 3)) k_fieldLink_RX4_37__KeyLetters_Reader___next___I_ (fun _ h9 => h9) rfl dX4_readRun_72 ?_
          obtain ⟨v30, ev30, hf⟩ := bd1_e hf
          refine kt_i ev30 ?_
          obtain ⟨hc31, hf⟩ := ck_e hf
          refine va_iald hx hb hK hP 1 1 rfl rfl hc31 dX4_readRun_75 ?_
          refine lv_bipush (v := 57) hx hb dX4_readRun_76 (by decide) ?_
          refine lv_icmp_gt (tgt := 186) hx hb dX4_readRun_78 (by decide) (fun hb32 => ?_) (fun hb32 => ?_)
          · have hf := (if_pos hb32).symm.trans hf
            exact h_186 x1_53 x2_53 R_53 ls _ _ hl hP hD hS hf
          · have hf := (if_neg hb32).symm.trans hf
            exact h_81 x1_53 x2_53 R_53 ls _ _ hl hP hD hS hf
      refine lv_aload_n hx hb dX4_readRun_14 rfl (lv_at hl 0 rfl) ?_
      refine va_get (D := (dC, dI)) (ci := 5) (C := RX4) (T := TX4) (N := 11) hx hb hts hinX4 hown hK hP 0 rfl rfl 3 (by decide) (v := .int (R_14.1 0 3)) k_fieldLink_RX4_37__KeyLetters_Reader___next___I_ (fun _ h9 => h9) rfl dX4_readRun_15 ?_
      refine lv_aload_n hx hb dX4_readRun_18 rfl (lv_at hl 0 rfl) ?_
      refine va_get (D := (dC, dI)) (ci := 5) (C := RX4) (T := TX4) (N := 11) hx hb hts hinX4 hown hK hP 0 rfl rfl 1 (by decide) (v := .int (R_14.1 0 1)) k_fieldLink_RX4_30__KeyLetters_Reader___bytes___I_ (fun _ h9 => h9) rfl dX4_readRun_19 ?_
      refine lv_icmp_ge (tgt := 186) hx hb dX4_readRun_22 (by decide) (fun hb42 => ?_) (fun hb42 => ?_)
      · have hf := (if_pos hb42).symm.trans hf
        exact h_186 x1_14 x2_14 R_14 ls _ _ hl hP hD hS hf
      · have hf := (if_neg hb42).symm.trans hf
        refine lv_aload_n hx hb dX4_readRun_25 rfl (lv_at hl 0 rfl) ?_
        obtain ⟨hc34, hf⟩ := ck_e hf
        refine va_get (D := (dC, dI)) (ci := 5) (C := RX4) (T := TX4) (N := 11) hx hb hts hinX4 hown hK hP 0 rfl rfl 0 (by decide) (v := .ref (kTx xR raT (R_14.1 0 0))) k_fieldLink_RX4_9__KeyLetters_Reader___text____I_ (fun _ h9 => h9) rfl dX4_readRun_26 ?_
        rw [kTx_1 xR raT (Decidable.not_not.mp hc34)]
        refine lv_aload_n hx hb dX4_readRun_29 rfl (lv_at hl 0 rfl) ?_
        refine va_get (D := (dC, dI)) (ci := 5) (C := RX4) (T := TX4) (N := 11) hx hb hts hinX4 hown hK hP 0 rfl rfl 3 (by decide) (v := .int (R_14.1 0 3)) k_fieldLink_RX4_37__KeyLetters_Reader___next___I_ (fun _ h9 => h9) rfl dX4_readRun_30 ?_
        obtain ⟨v35, ev35, hf⟩ := bd1_e hf
        refine kt_i ev35 ?_
        obtain ⟨hc36, hf⟩ := ck_e hf
        refine va_iald hx hb hK hP 1 1 rfl rfl hc36 dX4_readRun_33 ?_
        refine lv_bipush (v := 97) hx hb dX4_readRun_34 (by decide) ?_
        refine lv_icmp_lt (tgt := 53) hx hb dX4_readRun_36 (by decide) (fun hb41 => ?_) (fun hb41 => ?_)
        · have hf := (if_pos hb41).symm.trans hf
          exact h_53 x1_14 x2_14 R_14 ls _ _ hl hP hD hS hf
        · have hf := (if_neg hb41).symm.trans hf
          refine lv_aload_n hx hb dX4_readRun_39 rfl (lv_at hl 0 rfl) ?_
          obtain ⟨hc37, hf⟩ := ck_e hf
          refine va_get (D := (dC, dI)) (ci := 5) (C := RX4) (T := TX4) (N := 11) hx hb hts hinX4 hown hK hP 0 rfl rfl 0 (by decide) (v := .ref (kTx xR raT (R_14.1 0 0))) k_fieldLink_RX4_9__KeyLetters_Reader___text____I_ (fun _ h9 => h9) rfl dX4_readRun_40 ?_
          rw [kTx_1 xR raT (Decidable.not_not.mp hc37)]
          refine lv_aload_n hx hb dX4_readRun_43 rfl (lv_at hl 0 rfl) ?_
          refine va_get (D := (dC, dI)) (ci := 5) (C := RX4) (T := TX4) (N := 11) hx hb hts hinX4 hown hK hP 0 rfl rfl 3 (by decide) (v := .int (R_14.1 0 3)) k_fieldLink_RX4_37__KeyLetters_Reader___next___I_ (fun _ h9 => h9) rfl dX4_readRun_44 ?_
          obtain ⟨v38, ev38, hf⟩ := bd1_e hf
          refine kt_i ev38 ?_
          obtain ⟨hc39, hf⟩ := ck_e hf
          refine va_iald hx hb hK hP 1 1 rfl rfl hc39 dX4_readRun_47 ?_
          refine lv_bipush (v := 122) hx hb dX4_readRun_48 (by decide) ?_
          refine lv_icmp_le (tgt := 81) hx hb dX4_readRun_50 (by decide) (fun hb40 => ?_) (fun hb40 => ?_)
          · have hf := (if_pos hb40).symm.trans hf
            exact h_81 x1_14 x2_14 R_14 ls _ _ hl hP hD hS hf
          · have hf := (if_neg hb40).symm.trans hf
            exact h_53 x1_14 x2_14 R_14 ls _ _ hl hP hD hS hf) 2000
  refine lv_iconst (v := 0) hx hb dX4_readRun_0 (by decide) ?_
  refine lv_istore_n (nL := 3) (lv' := [(1, .int (0 : Int32)), (0, .ref (raR 0))]) hx hb dX4_readRun_1 rfl hl (by decide) rfl (fun ls hl => ?_)
  refine lv_iconst (v := 0) hx hb dX4_readRun_2 (by decide) ?_
  refine lv_istore_n (nL := 3) (lv' := [(2, .int (0 : Int32)), (1, .int (0 : Int32)), (0, .ref (raR 0))]) hx hb dX4_readRun_3 rfl hl (by decide) rfl (fun ls hl => ?_)
  refine lv_aload_n hx hb dX4_readRun_4 rfl (lv_at hl 2 rfl) ?_
  refine lv_lconst (v := 0) hx hb dX4_readRun_5 (by decide) ?_
  obtain ⟨Rv43, eRv43, hf⟩ := bd1_e hf
  refine g_put (D := (dC, dI)) (ci := 5) (C := RX4) (T := TX4) (N := 11) hx hb hts hinX4 tyX4 tyX4_ok nmX4 hown hK hP hD hS 0 rfl rfl 7 (by decide) k_fieldLink_RX4_69__KeyLetters_Reader___name___J_ (fun _ h9 => h9) rfl (ty := .long) (v := .long (0 : Int64)) (by decide +kernel) rfl rfl (Nat.le_of_ble_eq_true rfl) (ws' := (ww_X4_readRun cs ad raR raT xR nT Rv43 T)) (by rw [eRv43]; rfl) dX4_readRun_6 (fun H locs hP hD hS => ?_)
  refine lv_aload_n hx hb dX4_readRun_9 rfl (lv_at hl 2 rfl) ?_
  refine lv_iconst (v := 0) hx hb dX4_readRun_10 (by decide) ?_
  obtain ⟨Rv44, eRv44, hf⟩ := bd1_e hf
  refine g_put (D := (dC, dI)) (ci := 5) (C := RX4) (T := TX4) (N := 11) hx hb hts hinX4 tyX4 tyX4_ok nmX4 hown hK hP hD hS 0 rfl rfl 8 (by decide) k_fieldLink_RX4_58__KeyLetters_Reader___value___I_ (fun _ h9 => h9) rfl (ty := .int) (v := .int (0 : Int32)) (by decide +kernel) rfl rfl (Nat.le_of_ble_eq_true rfl) (ws' := (ww_X4_readRun cs ad raR raT xR nT Rv44 T)) (by rw [eRv44]; rfl) dX4_readRun_11 (fun H locs hP hD hS => ?_)
  exact h_14 (0 : Int32) (0 : Int32) Rv44 ls _ _ (lv_sub hl [2, 1, 0] rfl) hP hD hS hf

abbrev rm_X4_isSignByte : Room := { frames := 0, cells := 0, slots := 0, locals := 0 }
set_option maxHeartbeats 4000000 in
set_option maxRecDepth 100000 in
theorem c_X4_isSignByte (l : Launch) (dC : Nat → ClassId) (dI : Nat → Nat → Nat) (cs : Nat → ClassId) (ad : Nat → Nat) (a0 : Int32) (r : Int32) (hf : f_X4_isSignByte a0 = r) : Met l yX4_isSignByte wsX4_isSignByte rm_X4_isSignByte (va_Pc [.int a0] (cPr dC dI cs ([] : va_W))) (kQ (some (.int r))) 0 0 (kF) := by
  refine Met.ofW (cc := cX4_isSignByte) (maxL := 1) (ret := (some .boolean)) (by decide) rfl ?_
  intro p e s m args below meth c s₁ B hml hv
  obtain ⟨hav, hP, hK, hN⟩ := hv
  have hx := B.exec
  have hb := B.bytes
  have hr := B.returns
  have hts := atoms_spec (ws := wsX4_isSignByte) B.pre
  have hown : s.vm.findClass RX4 = some m.cls := findClass_of_methodNamed B.named
  have hlocks := B.notSynchronized
  have hl := lv_entry ([.int a0]) (n := 1) (Nat.le_of_ble_eq_true rfl)
  rw [show entryFrame m args 1 = entryFrame m ([.int a0] : List Value).toArray 1 from by rw [hav], lg_entry_eq]
  generalize (lg_sl ([.int a0]) ++ List.replicate (1 - (lg_sl ([.int a0])).length) Slot.unset).toArray = ls at hl ⊢
  have hl : lv_has ls 1 [(0, .int a0)] := hl
  unfold f_X4_isSignByte at hf
  refine lv_iload_n hx hb dX4_isSignByte_0 rfl (lv_at hl 0 rfl) ?_
  refine lv_bipush (v := 59) hx hb dX4_isSignByte_1 (by decide) ?_
  refine lv_icmp_eq (tgt := 42) hx hb dX4_isSignByte_3 (by decide) (fun hb7 => ?_) (fun hb7 => ?_)
  · have hf := (if_pos hb7).symm.trans hf
    refine lv_iconst (v := 1) hx hb dX4_isSignByte_42 (by decide) ?_
    refine lv_goto (tgt := 47) hx hb dX4_isSignByte_43 (by decide) ?_
    subst hf
    exact W.zret (v := (1 : Int32)) (ty := .boolean) hx hb hr rfl (fun t ht hW => ⟨rfl, ht⟩) (fun _ h => nomatch h) dX4_isSignByte_47
  · have hf := (if_neg hb7).symm.trans hf
    refine lv_iload_n hx hb dX4_isSignByte_6 rfl (lv_at hl 0 rfl) ?_
    refine lv_bipush (v := 60) hx hb dX4_isSignByte_7 (by decide) ?_
    refine lv_icmp_eq (tgt := 42) hx hb dX4_isSignByte_9 (by decide) (fun hb6 => ?_) (fun hb6 => ?_)
    · have hf := (if_pos hb6).symm.trans hf
      refine lv_iconst (v := 1) hx hb dX4_isSignByte_42 (by decide) ?_
      refine lv_goto (tgt := 47) hx hb dX4_isSignByte_43 (by decide) ?_
      subst hf
      exact W.zret (v := (1 : Int32)) (ty := .boolean) hx hb hr rfl (fun t ht hW => ⟨rfl, ht⟩) (fun _ h => nomatch h) dX4_isSignByte_47
    · have hf := (if_neg hb6).symm.trans hf
      refine lv_iload_n hx hb dX4_isSignByte_12 rfl (lv_at hl 0 rfl) ?_
      refine lv_bipush (v := 61) hx hb dX4_isSignByte_13 (by decide) ?_
      refine lv_icmp_eq (tgt := 42) hx hb dX4_isSignByte_15 (by decide) (fun hb5 => ?_) (fun hb5 => ?_)
      · have hf := (if_pos hb5).symm.trans hf
        refine lv_iconst (v := 1) hx hb dX4_isSignByte_42 (by decide) ?_
        refine lv_goto (tgt := 47) hx hb dX4_isSignByte_43 (by decide) ?_
        subst hf
        exact W.zret (v := (1 : Int32)) (ty := .boolean) hx hb hr rfl (fun t ht hW => ⟨rfl, ht⟩) (fun _ h => nomatch h) dX4_isSignByte_47
      · have hf := (if_neg hb5).symm.trans hf
        refine lv_iload_n hx hb dX4_isSignByte_18 rfl (lv_at hl 0 rfl) ?_
        refine lv_bipush (v := 62) hx hb dX4_isSignByte_19 (by decide) ?_
        refine lv_icmp_eq (tgt := 42) hx hb dX4_isSignByte_21 (by decide) (fun hb4 => ?_) (fun hb4 => ?_)
        · have hf := (if_pos hb4).symm.trans hf
          refine lv_iconst (v := 1) hx hb dX4_isSignByte_42 (by decide) ?_
          refine lv_goto (tgt := 47) hx hb dX4_isSignByte_43 (by decide) ?_
          subst hf
          exact W.zret (v := (1 : Int32)) (ty := .boolean) hx hb hr rfl (fun t ht hW => ⟨rfl, ht⟩) (fun _ h => nomatch h) dX4_isSignByte_47
        · have hf := (if_neg hb4).symm.trans hf
          refine lv_iload_n hx hb dX4_isSignByte_24 rfl (lv_at hl 0 rfl) ?_
          refine lv_bipush (v := 40) hx hb dX4_isSignByte_25 (by decide) ?_
          refine lv_icmp_eq (tgt := 42) hx hb dX4_isSignByte_27 (by decide) (fun hb3 => ?_) (fun hb3 => ?_)
          · have hf := (if_pos hb3).symm.trans hf
            refine lv_iconst (v := 1) hx hb dX4_isSignByte_42 (by decide) ?_
            refine lv_goto (tgt := 47) hx hb dX4_isSignByte_43 (by decide) ?_
            subst hf
            exact W.zret (v := (1 : Int32)) (ty := .boolean) hx hb hr rfl (fun t ht hW => ⟨rfl, ht⟩) (fun _ h => nomatch h) dX4_isSignByte_47
          · have hf := (if_neg hb3).symm.trans hf
            refine lv_iload_n hx hb dX4_isSignByte_30 rfl (lv_at hl 0 rfl) ?_
            refine lv_bipush (v := 41) hx hb dX4_isSignByte_31 (by decide) ?_
            refine lv_icmp_eq (tgt := 42) hx hb dX4_isSignByte_33 (by decide) (fun hb2 => ?_) (fun hb2 => ?_)
            · have hf := (if_pos hb2).symm.trans hf
              refine lv_iconst (v := 1) hx hb dX4_isSignByte_42 (by decide) ?_
              refine lv_goto (tgt := 47) hx hb dX4_isSignByte_43 (by decide) ?_
              subst hf
              exact W.zret (v := (1 : Int32)) (ty := .boolean) hx hb hr rfl (fun t ht hW => ⟨rfl, ht⟩) (fun _ h => nomatch h) dX4_isSignByte_47
            · have hf := (if_neg hb2).symm.trans hf
              refine lv_iload_n hx hb dX4_isSignByte_36 rfl (lv_at hl 0 rfl) ?_
              refine lv_bipush (v := 46) hx hb dX4_isSignByte_37 (by decide) ?_
              refine lv_icmp_ne (tgt := 46) hx hb dX4_isSignByte_39 (by decide) (fun hb1 => ?_) (fun hb1 => ?_)
              · have hf := (if_neg hb1).symm.trans hf
                refine lv_iconst (v := 0) hx hb dX4_isSignByte_46 (by decide) ?_
                subst hf
                exact W.zret (v := (0 : Int32)) (ty := .boolean) hx hb hr rfl (fun t ht hW => ⟨rfl, ht⟩) (fun _ h => nomatch h) dX4_isSignByte_47
              · have hf := (if_pos hb1).symm.trans hf
                refine lv_iconst (v := 1) hx hb dX4_isSignByte_42 (by decide) ?_
                refine lv_goto (tgt := 47) hx hb dX4_isSignByte_43 (by decide) ?_
                subst hf
                exact W.zret (v := (1 : Int32)) (ty := .boolean) hx hb hr rfl (fun t ht hW => ⟨rfl, ht⟩) (fun _ h => nomatch h) dX4_isSignByte_47
theorem z_X4_isSignByte (a0 : Int32) : f_X4_isSignByte a0 = 0 ∨ f_X4_isSignByte a0 = 1 := by
  unfold f_X4_isSignByte
  repeat' split
  all_goals first | exact Or.inl rfl | exact Or.inr rfl

def ww_X0_keepNumber (cs : Nat → ClassId) (ad : Nat → Nat) (raBk : Nat → Nat) (Bk : kD) : va_W := (wX0 cs ad raBk Bk)
abbrev rm_X0_keepNumber : Room := { frames := 0, cells := 0, slots := 0, locals := 0 }
set_option maxHeartbeats 4000000 in
set_option maxRecDepth 100000 in
theorem c_X0_keepNumber (l : Launch) (dC : Nat → ClassId) (dI : Nat → Nat → Nat) (cs : Nat → ClassId) (ad : Nat → Nat) (raBk : Nat → Nat) (sz : Nat) (Bk : kD) (a0 : Int32) (r : kD) (hf : f_X0_keepNumber a0 Bk = some r) : Met l yX0_keepNumber wsX0_keepNumber rm_X0_keepNumber (va_Pc [.ref (raBk 0), .int a0] (cPw dC dI cs sz (ww_X0_keepNumber cs ad raBk Bk))) (cQv dC dI cs (va_A (ww_X0_keepNumber cs ad raBk zD) sz) (ww_X0_keepNumber cs ad raBk r)) 0 0 (va_A (ww_X0_keepNumber cs ad raBk zD) sz) := by
  refine Met.ofW (cc := cX0_keepNumber) (maxL := 2) (ret := none) (by decide) rfl ?_
  intro p e s m args below meth c s₁ B hml hv
  obtain ⟨hav, hsz, hP, hK, hD0, hN⟩ := hv
  have hx := B.exec
  have hb := B.bytes
  have hr := B.returns
  have hts := atoms_spec (ws := wsX0_keepNumber) B.pre
  have hown : s.vm.findClass RX0 = some m.cls := findClass_of_methodNamed B.named
  have hlocks := B.notSynchronized
  subst hsz
  have hA : ∀ q, s.heap.size ≤ q → va_A (ww_X0_keepNumber cs ad raBk zD) s.heap.size q := fun q h => Or.inr h
  have hD : va_D (va_A (ww_X0_keepNumber cs ad raBk zD) s.heap.size) (ww_X0_keepNumber cs ad raBk Bk) := hD0.weaken (fun k q h _ => cA_in (ws := (ww_X0_keepNumber cs ad raBk Bk)) (ws' := (ww_X0_keepNumber cs ad raBk zD)) rfl h)
  have hS : va_S (va_A (ww_X0_keepNumber cs ad raBk zD) s.heap.size) s.heap s.heap [] := va_S.rf
  have hinX0 := (show ∀ w ∈ wsX00, w ∈ wsX0_keepNumber from fun w h => List.mem_cons_of_mem _ (List.mem_append_right _ h))
  have k_fieldLink_RX0_18__KeyLetters_Book___numbers____I_ := hts (.fieldLink RX0 18 "KeyLetters$Book" "numbers" "[I") (List.mem_of_getElem? (i := 2) rfl)
  have k_fieldLink_RX0_21__KeyLetters_Book___lines___I_ := hts (.fieldLink RX0 21 "KeyLetters$Book" "lines" "I") (List.mem_of_getElem? (i := 1) rfl)
  have hl := lv_entry ([.ref (raBk 0), .int a0]) (n := 2) (Nat.le_of_ble_eq_true rfl)
  rw [show entryFrame m args 2 = entryFrame m ([.ref (raBk 0), .int a0] : List Value).toArray 2 from by rw [hav], lg_entry_eq]
  generalize (lg_sl ([.ref (raBk 0), .int a0]) ++ List.replicate (2 - (lg_sl ([.ref (raBk 0), .int a0])).length) Slot.unset).toArray = ls at hl ⊢
  have hl : lv_has ls 2 [(0, .ref (raBk 0)), (1, .int a0)] := hl
  unfold f_X0_keepNumber at hf
  refine lv_aload_n hx hb dX0_keepNumber_0 rfl (lv_at hl 0 rfl) ?_
  refine va_get (D := (dC, dI)) (ci := 1) (C := RX0) (T := TX0) (N := 6) hx hb hts hinX0 hown hK hP 0 rfl rfl 0 (by decide) (v := .int (Bk.1 0 0)) k_fieldLink_RX0_21__KeyLetters_Book___lines___I_ (fun _ h9 => h9) rfl dX0_keepNumber_1 ?_
  refine lv_iconst (v := 1) hx hb dX0_keepNumber_4 (by decide) ?_
  refine lv_icmp_lt (tgt := 29) hx hb dX0_keepNumber_5 (by decide) (fun hb4 => ?_) (fun hb4 => ?_)
  · have hf := (if_pos hb4).symm.trans hf
    have hf := Option.some.inj hf
    subst hf
    exact c_vret hx hb hr hlocks hP hK hD hS dX0_keepNumber_29
  · have hf := (if_neg hb4).symm.trans hf
    refine lv_aload_n hx hb dX0_keepNumber_8 rfl (lv_at hl 0 rfl) ?_
    refine va_get (D := (dC, dI)) (ci := 1) (C := RX0) (T := TX0) (N := 6) hx hb hts hinX0 hown hK hP 0 rfl rfl 0 (by decide) (v := .int (Bk.1 0 0)) k_fieldLink_RX0_21__KeyLetters_Book___lines___I_ (fun _ h9 => h9) rfl dX0_keepNumber_9 ?_
    refine lv_bipush (v := 40) hx hb dX0_keepNumber_12 (by decide) ?_
    refine lv_icmp_gt (tgt := 29) hx hb dX0_keepNumber_14 (by decide) (fun hb3 => ?_) (fun hb3 => ?_)
    · have hf := (if_pos hb3).symm.trans hf
      have hf := Option.some.inj hf
      subst hf
      exact c_vret hx hb hr hlocks hP hK hD hS dX0_keepNumber_29
    · have hf := (if_neg hb3).symm.trans hf
      refine lv_aload_n hx hb dX0_keepNumber_17 rfl (lv_at hl 0 rfl) ?_
      refine va_get (D := (dC, dI)) (ci := 1) (C := RX0) (T := TX0) (N := 6) hx hb hts hinX0 hown hK hP 0 rfl rfl 5 (by decide) (v := .ref (raBk 5)) k_fieldLink_RX0_18__KeyLetters_Book___numbers____I_ (fun _ h9 => h9) rfl dX0_keepNumber_18 ?_
      refine lv_aload_n hx hb dX0_keepNumber_21 rfl (lv_at hl 0 rfl) ?_
      refine va_get (D := (dC, dI)) (ci := 1) (C := RX0) (T := TX0) (N := 6) hx hb hts hinX0 hown hK hP 0 rfl rfl 0 (by decide) (v := .int (Bk.1 0 0)) k_fieldLink_RX0_21__KeyLetters_Book___lines___I_ (fun _ h9 => h9) rfl dX0_keepNumber_22 ?_
      refine lv_iconst (v := 1) hx hb dX0_keepNumber_25 (by decide) ?_
      refine lv_isub hx hb dX0_keepNumber_26 ?_
      refine lv_iload_n hx hb dX0_keepNumber_27 rfl (lv_at hl 1 rfl) ?_
      obtain ⟨hc1, hf⟩ := ck_e hf
      obtain ⟨Bkv2, eBkv2, hf⟩ := bd1_e hf
      refine va_iast hx hb hK hP hD hS 3 1 rfl rfl hc1 dX0_keepNumber_28 (fun H locs hP hD hS => ?_)
      have hP : va_P (dC, dI) vwCl (ww_X0_keepNumber cs ad raBk Bkv2) H := g_toP (by rw [eBkv2]; rfl) hP
      have hD : va_D (va_A (ww_X0_keepNumber cs ad raBk zD) s.heap.size) (ww_X0_keepNumber cs ad raBk Bkv2) := g_toD (by rw [eBkv2]; rfl) hD
      have hf := Option.some.inj hf
      subst hf
      exact c_vret hx hb hr hlocks hP hK hD hS dX0_keepNumber_29

def ww_X4_needsNumber (cs : Nat → ClassId) (ad : Nat → Nat) (raR : Nat → Nat) (raT : Nat) (xR : Nat) (nT : Nat) (R : kD) (T : Nat → Int32) : va_W := (wX4 cs ad raR xR raT R ++ ([(raT, .inl (cs 1, nT, .inl T))]))
abbrev rm_X4_needsNumber : Room := { frames := 1, cells := 0, slots := 0, locals := 21 }
set_option maxHeartbeats 4000000 in
set_option maxRecDepth 100000 in
theorem c_X4_needsNumber (l : Launch) (dC : Nat → ClassId) (dI : Nat → Nat → Nat) (cs : Nat → ClassId) (ad : Nat → Nat) (raR : Nat → Nat) (raT : Nat) (xR : Nat) (nT : Nat) (sz : Nat) (R : kD) (T : Nat → Int32) (a0 : Int32) (a1 : Int32) (r : Int32 × kD) (hf : f_X4_needsNumber a0 a1 nT R T = some r) : Met l yX4_needsNumber wsX4_needsNumber rm_X4_needsNumber (va_Pc [.ref (raR 0), .int a0, .int a1] (cPw dC dI cs sz (ww_X4_needsNumber cs ad raR raT xR nT R T))) (cQi dC dI cs (va_A (ww_X4_needsNumber cs ad raR raT xR nT zD (fun _ => 0)) sz) r.1 (ww_X4_needsNumber cs ad raR raT xR nT r.2 T)) 0 0 (va_A (ww_X4_needsNumber cs ad raR raT xR nT zD (fun _ => 0)) sz) := by
  refine Met.ofW (cc := cX4_needsNumber) (maxL := 3) (ret := (some .boolean)) (by decide) rfl ?_
  intro p e s m args below meth c s₁ B hml hv
  obtain ⟨hav, hsz, hP, hK, hD0, hN⟩ := hv
  have hx := B.exec
  have hb := B.bytes
  have hr := B.returns
  have hts := atoms_spec (ws := wsX4_needsNumber) B.pre
  have hown : s.vm.findClass RX4 = some m.cls := findClass_of_methodNamed B.named
  have hlocks := B.notSynchronized
  subst hsz
  have hA : ∀ q, s.heap.size ≤ q → va_A (ww_X4_needsNumber cs ad raR raT xR nT zD (fun _ => 0)) s.heap.size q := fun q h => Or.inr h
  have hD : va_D (va_A (ww_X4_needsNumber cs ad raR raT xR nT zD (fun _ => 0)) s.heap.size) (ww_X4_needsNumber cs ad raR raT xR nT R T) := hD0.weaken (fun k q h _ => cA_in (ws := (ww_X4_needsNumber cs ad raR raT xR nT R T)) (ws' := (ww_X4_needsNumber cs ad raR raT xR nT zD (fun _ => 0))) rfl h)
  have hS : va_S (va_A (ww_X4_needsNumber cs ad raR raT xR nT zD (fun _ => 0)) s.heap.size) s.heap s.heap [] := va_S.rf
  have hinX4 := (show ∀ w ∈ wsX40, w ∈ wsX4_needsNumber from fun w h => List.mem_cons_of_mem _ (List.mem_append_right _ h))
  have k_fieldLink_RX4_52__KeyLetters_Reader___sort___I_ := hts (.fieldLink RX4 52 "KeyLetters$Reader" "sort" "I") (List.mem_of_getElem? (i := 1) rfl)
  have k_fieldLink_RX4_58__KeyLetters_Reader___value___I_ := hts (.fieldLink RX4 58 "KeyLetters$Reader" "value" "I") (List.mem_of_getElem? (i := 2) rfl)
  have hl := lv_entry ([.ref (raR 0), .int a0, .int a1]) (n := 3) (Nat.le_of_ble_eq_true rfl)
  rw [show entryFrame m args 3 = entryFrame m ([.ref (raR 0), .int a0, .int a1] : List Value).toArray 3 from by rw [hav], lg_entry_eq]
  generalize (lg_sl ([.ref (raR 0), .int a0, .int a1]) ++ List.replicate (3 - (lg_sl ([.ref (raR 0), .int a0, .int a1])).length) Slot.unset).toArray = ls at hl ⊢
  have hl : lv_has ls 3 [(0, .ref (raR 0)), (1, .int a0), (2, .int a1)] := hl
  unfold f_X4_needsNumber at hf
  have h_30 : ∀ (R_30 : kD) (ls : Array Slot) (H : Heap) (locs : List Loc), lv_has ls 3 [(0, .ref (raR 0))] → va_P (dC, dI) vwCl (ww_X4_needsNumber cs ad raR raT xR nT R_30 T) H → va_D (va_A (ww_X4_needsNumber cs ad raR raT xR nT zD (fun _ => 0)) s.heap.size) (ww_X4_needsNumber cs ad raR raT xR nT R_30 T) → va_S (va_A (ww_X4_needsNumber cs ad raR raT xR nT zD (fun _ => 0)) s.heap.size) s.heap H locs → g_X4_needsNumber_30 nT T R_30 = some r → W p l e (headSpec wsX4_needsNumber rm_X4_needsNumber).room s m args below meth c H locs 0 0 (MQ below (cQi dC dI cs (va_A (ww_X4_needsNumber cs ad raR raT xR nT zD (fun _ => 0)) s.heap.size) r.1 (ww_X4_needsNumber cs ad raR raT xR nT r.2 T)) args s 0 0 (va_A (ww_X4_needsNumber cs ad raR raT xR nT zD (fun _ => 0)) s.heap.size)) (F0 m 30 ls []) := by
    intro R_30 ls H locs hl hP hD hS hf
    unfold g_X4_needsNumber_30 at hf
    refine lv_aload_n hx hb dX4_needsNumber_30 rfl (lv_at hl 0 rfl) ?_
    refine lv_iconst (v := 2) hx hb dX4_needsNumber_31 (by decide) ?_
    obtain ⟨v2, Rv3, hq1, hf⟩ := bo2_e hf
    refine g_callw (isC := [0, 1]) (isR := []) (wc := (ww_X4_refuse cs ad raR raT xR nT R_30 T)) (wz := (ww_X4_refuse cs ad raR raT xR nT zD (fun _ => 0))) (w1 := (ww_X4_refuse cs ad raR raT xR nT Rv3 T)) (ws' := (ww_X4_needsNumber cs ad raR raT xR nT Rv3 T)) (v := v2) (va_runV (As := [.int (2 : Int32)]) (rest := []) ⟨hx, hb, hml, hown, hts⟩ (c_X4_refuse l dC dI cs ad raR raT xR nT _ R_30 T (2 : Int32) (v2, Rv3) hq1) (cwV 1 hts gX4_needsNumber_X4_refuse rfl rfl rfl (by decide +kernel) ⟨Nat.le_of_ble_eq_true rfl, Nat.le_of_ble_eq_true rfl⟩) ⟨fun a U g mk q => ⟨q.1, (fun _ _ _ _ => cPw_bl) a U g mk q.2⟩, va_recv hK hP (ci := 5) (q0 := 0) rfl rfl, fun U hU hW => ⟨rfl, ⟨by rw [hU], by rw [hU]; exact (hP.sub (ws' := (ww_X4_refuse cs ad raR raT xR nT R_30 T)) [0, 1] rfl), va_K.moved hW.alike hK, (hD.sub (ws' := (ww_X4_refuse cs ad raR raT xR nT R_30 T)) [0, 1] (by decide) rfl).weaken (fun _ _ _ _ => trivial), kN_warm hW hN⟩⟩⟩ rfl rfl hl.1 rfl (lv_room (Nat.le_of_ble_eq_true rfl)) dX4_needsNumber_32 ⟨Nat.le_refl _, Nat.le_refl _⟩) hP hD hS hA rfl rfl (wr := ([] : va_W)) rfl rfl rfl (nw := 2) rfl (by decide +kernel) rfl (fun H locs hP hD hS => ?_)
    refine lv_if_eq (tgt := 42) hx hb dX4_needsNumber_35 (by decide) (fun hb4 => ?_) (fun hb4 => ?_)
    · have hf := (if_pos hb4).symm.trans hf
      refine lv_iconst (v := 0) hx hb dX4_needsNumber_42 (by decide) ?_
      have hf := Option.some.inj hf
      subst hf
      exact c_zret (v := (0 : Int32)) hx hb hr rfl hlocks hP hK hD hS dX4_needsNumber_43
    · have hf := (if_neg hb4).symm.trans hf
      refine lv_iconst (v := 1) hx hb dX4_needsNumber_38 (by decide) ?_
      refine lv_goto (tgt := 43) hx hb dX4_needsNumber_39 (by decide) ?_
      have hf := Option.some.inj hf
      subst hf
      exact c_zret (v := (1 : Int32)) hx hb hr rfl hlocks hP hK hD hS dX4_needsNumber_43
  refine lv_aload_n hx hb dX4_needsNumber_0 rfl (lv_at hl 0 rfl) ?_
  refine va_get (D := (dC, dI)) (ci := 5) (C := RX4) (T := TX4) (N := 11) hx hb hts hinX4 hown hK hP 0 rfl rfl 4 (by decide) (v := .int (R.1 0 4)) k_fieldLink_RX4_52__KeyLetters_Reader___sort___I_ (fun _ h9 => h9) rfl dX4_needsNumber_1 ?_
  refine lv_iconst (v := 3) hx hb dX4_needsNumber_4 (by decide) ?_
  refine lv_icmp_eq (tgt := 14) hx hb dX4_needsNumber_5 (by decide) (fun hb11 => ?_) (fun hb11 => ?_)
  · have hf := (if_pos hb11).symm.trans hf
    refine lv_aload_n hx hb dX4_needsNumber_14 rfl (lv_at hl 0 rfl) ?_
    refine va_get (D := (dC, dI)) (ci := 5) (C := RX4) (T := TX4) (N := 11) hx hb hts hinX4 hown hK hP 0 rfl rfl 8 (by decide) (v := .int (R.1 0 8)) k_fieldLink_RX4_58__KeyLetters_Reader___value___I_ (fun _ h9 => h9) rfl dX4_needsNumber_15 ?_
    refine lv_iload_n hx hb dX4_needsNumber_18 rfl (lv_at hl 1 rfl) ?_
    refine lv_icmp_lt (tgt := 30) hx hb dX4_needsNumber_19 (by decide) (fun hb6 => ?_) (fun hb6 => ?_)
    · have hf := (if_pos hb6).symm.trans hf
      exact h_30 R ls _ _ (lv_sub hl [0] rfl) hP hD hS hf
    · have hf := (if_neg hb6).symm.trans hf
      refine lv_aload_n hx hb dX4_needsNumber_22 rfl (lv_at hl 0 rfl) ?_
      refine va_get (D := (dC, dI)) (ci := 5) (C := RX4) (T := TX4) (N := 11) hx hb hts hinX4 hown hK hP 0 rfl rfl 8 (by decide) (v := .int (R.1 0 8)) k_fieldLink_RX4_58__KeyLetters_Reader___value___I_ (fun _ h9 => h9) rfl dX4_needsNumber_23 ?_
      refine lv_iload_n hx hb dX4_needsNumber_26 rfl (lv_at hl 2 rfl) ?_
      refine lv_icmp_le (tgt := 38) hx hb dX4_needsNumber_27 (by decide) (fun hb5 => ?_) (fun hb5 => ?_)
      · have hf := (if_pos hb5).symm.trans hf
        refine lv_iconst (v := 1) hx hb dX4_needsNumber_38 (by decide) ?_
        refine lv_goto (tgt := 43) hx hb dX4_needsNumber_39 (by decide) ?_
        have hf := Option.some.inj hf
        subst hf
        exact c_zret (v := (1 : Int32)) hx hb hr rfl hlocks hP hK hD hS dX4_needsNumber_43
      · have hf := (if_neg hb5).symm.trans hf
        exact h_30 R ls _ _ (lv_sub hl [0] rfl) hP hD hS hf
  · have hf := (if_neg hb11).symm.trans hf
    refine lv_aload_n hx hb dX4_needsNumber_8 rfl (lv_at hl 0 rfl) ?_
    refine lv_iconst (v := 1) hx hb dX4_needsNumber_9 (by decide) ?_
    obtain ⟨v8, Rv9, hq7, hf⟩ := bo2_e hf
    refine g_callw (isC := [0, 1]) (isR := []) (wc := (ww_X4_refuse cs ad raR raT xR nT R T)) (wz := (ww_X4_refuse cs ad raR raT xR nT zD (fun _ => 0))) (w1 := (ww_X4_refuse cs ad raR raT xR nT Rv9 T)) (ws' := (ww_X4_needsNumber cs ad raR raT xR nT Rv9 T)) (v := v8) (va_runV (As := [.int (1 : Int32)]) (rest := []) ⟨hx, hb, hml, hown, hts⟩ (c_X4_refuse l dC dI cs ad raR raT xR nT _ R T (1 : Int32) (v8, Rv9) hq7) (cwV 1 hts gX4_needsNumber_X4_refuse rfl rfl rfl (by decide +kernel) ⟨Nat.le_of_ble_eq_true rfl, Nat.le_of_ble_eq_true rfl⟩) ⟨fun a U g mk q => ⟨q.1, (fun _ _ _ _ => cPw_bl) a U g mk q.2⟩, va_recv hK hP (ci := 5) (q0 := 0) rfl rfl, fun U hU hW => ⟨rfl, ⟨by rw [hU], by rw [hU]; exact (hP.sub (ws' := (ww_X4_refuse cs ad raR raT xR nT R T)) [0, 1] rfl), va_K.moved hW.alike hK, (hD.sub (ws' := (ww_X4_refuse cs ad raR raT xR nT R T)) [0, 1] (by decide) rfl).weaken (fun _ _ _ _ => trivial), kN_warm hW hN⟩⟩⟩ rfl rfl hl.1 rfl (lv_room (Nat.le_of_ble_eq_true rfl)) dX4_needsNumber_10 ⟨Nat.le_refl _, Nat.le_refl _⟩) hP hD hS hA rfl rfl (wr := ([] : va_W)) rfl rfl rfl (nw := 2) rfl (by decide +kernel) rfl (fun H locs hP hD hS => ?_)
    obtain ⟨hc10, hf⟩ := ck_e hf
    have hf := Option.some.inj hf
    subst hf
    exact c_zret (v := v8) hx hb hr (kt_z (Decidable.not_not.mp hc10)) hlocks hP hK hD hS dX4_needsNumber_13

def ww_X4_seesSign (cs : Nat → ClassId) (ad : Nat → Nat) (raR : Nat → Nat) (raT : Nat) (xR : Nat) (nT : Nat) (R : kD) (T : Nat → Int32) : va_W := (wX4 cs ad raR xR raT R ++ ([(raT, .inl (cs 1, nT, .inl T))]))
abbrev rm_X4_seesSign : Room := { frames := 0, cells := 0, slots := 0, locals := 0 }
set_option maxHeartbeats 4000000 in
set_option maxRecDepth 100000 in
theorem c_X4_seesSign (l : Launch) (dC : Nat → ClassId) (dI : Nat → Nat → Nat) (cs : Nat → ClassId) (ad : Nat → Nat) (raR : Nat → Nat) (raT : Nat) (xR : Nat) (nT : Nat) (R : kD) (T : Nat → Int32) (a0 : Int32) (r : Int32) (hf : f_X4_seesSign a0 nT R T = r) : Met l yX4_seesSign wsX4_seesSign rm_X4_seesSign (va_Pc [.ref (raR 0), .int a0] (cPr dC dI cs (ww_X4_seesSign cs ad raR raT xR nT R T))) (kQ (some (.int r))) 0 0 (kF) := by
  refine Met.ofW (cc := cX4_seesSign) (maxL := 2) (ret := (some .boolean)) (by decide) rfl ?_
  intro p e s m args below meth c s₁ B hml hv
  obtain ⟨hav, hP, hK, hN⟩ := hv
  have hx := B.exec
  have hb := B.bytes
  have hr := B.returns
  have hts := atoms_spec (ws := wsX4_seesSign) B.pre
  have hown : s.vm.findClass RX4 = some m.cls := findClass_of_methodNamed B.named
  have hlocks := B.notSynchronized
  have hinX4 := (show ∀ w ∈ wsX40, w ∈ wsX4_seesSign from fun w h => List.mem_cons_of_mem _ (List.mem_append_right _ h))
  have k_fieldLink_RX4_52__KeyLetters_Reader___sort___I_ := hts (.fieldLink RX4 52 "KeyLetters$Reader" "sort" "I") (List.mem_of_getElem? (i := 1) rfl)
  have k_fieldLink_RX4_58__KeyLetters_Reader___value___I_ := hts (.fieldLink RX4 58 "KeyLetters$Reader" "value" "I") (List.mem_of_getElem? (i := 2) rfl)
  have hl := lv_entry ([.ref (raR 0), .int a0]) (n := 2) (Nat.le_of_ble_eq_true rfl)
  rw [show entryFrame m args 2 = entryFrame m ([.ref (raR 0), .int a0] : List Value).toArray 2 from by rw [hav], lg_entry_eq]
  generalize (lg_sl ([.ref (raR 0), .int a0]) ++ List.replicate (2 - (lg_sl ([.ref (raR 0), .int a0])).length) Slot.unset).toArray = ls at hl ⊢
  have hl : lv_has ls 2 [(0, .ref (raR 0)), (1, .int a0)] := hl
  unfold f_X4_seesSign at hf
  refine lv_aload_n hx hb dX4_seesSign_0 rfl (lv_at hl 0 rfl) ?_
  refine va_get (D := (dC, dI)) (ci := 5) (C := RX4) (T := TX4) (N := 11) hx hb hts hinX4 hown hK hP 0 rfl rfl 4 (by decide) (v := .int (R.1 0 4)) k_fieldLink_RX4_52__KeyLetters_Reader___sort___I_ (fun _ h9 => h9) rfl dX4_seesSign_1 ?_
  refine lv_iconst (v := 4) hx hb dX4_seesSign_4 (by decide) ?_
  refine lv_icmp_ne (tgt := 20) hx hb dX4_seesSign_5 (by decide) (fun hb2 => ?_) (fun hb2 => ?_)
  · have hf := (if_neg hb2).symm.trans hf
    refine lv_iconst (v := 0) hx hb dX4_seesSign_20 (by decide) ?_
    subst hf
    exact W.zret (v := (0 : Int32)) (ty := .boolean) hx hb hr rfl (fun t ht hW => ⟨rfl, ht⟩) (fun _ h => nomatch h) dX4_seesSign_21
  · have hf := (if_pos hb2).symm.trans hf
    refine lv_aload_n hx hb dX4_seesSign_8 rfl (lv_at hl 0 rfl) ?_
    refine va_get (D := (dC, dI)) (ci := 5) (C := RX4) (T := TX4) (N := 11) hx hb hts hinX4 hown hK hP 0 rfl rfl 8 (by decide) (v := .int (R.1 0 8)) k_fieldLink_RX4_58__KeyLetters_Reader___value___I_ (fun _ h9 => h9) rfl dX4_seesSign_9 ?_
    refine lv_iload_n hx hb dX4_seesSign_12 rfl (lv_at hl 1 rfl) ?_
    refine lv_icmp_ne (tgt := 20) hx hb dX4_seesSign_13 (by decide) (fun hb1 => ?_) (fun hb1 => ?_)
    · have hf := (if_neg hb1).symm.trans hf
      refine lv_iconst (v := 0) hx hb dX4_seesSign_20 (by decide) ?_
      subst hf
      exact W.zret (v := (0 : Int32)) (ty := .boolean) hx hb hr rfl (fun t ht hW => ⟨rfl, ht⟩) (fun _ h => nomatch h) dX4_seesSign_21
    · have hf := (if_pos hb1).symm.trans hf
      refine lv_iconst (v := 1) hx hb dX4_seesSign_16 (by decide) ?_
      refine lv_goto (tgt := 21) hx hb dX4_seesSign_17 (by decide) ?_
      subst hf
      exact W.zret (v := (1 : Int32)) (ty := .boolean) hx hb hr rfl (fun t ht hW => ⟨rfl, ht⟩) (fun _ h => nomatch h) dX4_seesSign_21
theorem z_X4_seesSign (a0 : Int32) (nT : Nat) (R : kD) (T : Nat → Int32) : f_X4_seesSign a0 nT R T = 0 ∨ f_X4_seesSign a0 nT R T = 1 := by
  unfold f_X4_seesSign
  repeat' split
  all_goals first | exact Or.inl rfl | exact Or.inr rfl

def ww_X4_needsEnd (cs : Nat → ClassId) (ad : Nat → Nat) (raR : Nat → Nat) (raT : Nat) (xR : Nat) (nT : Nat) (R : kD) (T : Nat → Int32) : va_W := (wX4 cs ad raR xR raT R ++ ([(raT, .inl (cs 1, nT, .inl T))]))
abbrev rm_X4_needsEnd : Room := { frames := 1, cells := 0, slots := 0, locals := 21 }
set_option maxHeartbeats 4000000 in
set_option maxRecDepth 100000 in
theorem c_X4_needsEnd (l : Launch) (dC : Nat → ClassId) (dI : Nat → Nat → Nat) (cs : Nat → ClassId) (ad : Nat → Nat) (raR : Nat → Nat) (raT : Nat) (xR : Nat) (nT : Nat) (sz : Nat) (R : kD) (T : Nat → Int32) (r : Int32 × kD) (hf : f_X4_needsEnd nT R T = some r) : Met l yX4_needsEnd wsX4_needsEnd rm_X4_needsEnd (va_Pc [.ref (raR 0)] (cPw dC dI cs sz (ww_X4_needsEnd cs ad raR raT xR nT R T))) (cQi dC dI cs (va_A (ww_X4_needsEnd cs ad raR raT xR nT zD (fun _ => 0)) sz) r.1 (ww_X4_needsEnd cs ad raR raT xR nT r.2 T)) 0 0 (va_A (ww_X4_needsEnd cs ad raR raT xR nT zD (fun _ => 0)) sz) := by
  refine Met.ofW (cc := cX4_needsEnd) (maxL := 1) (ret := (some .boolean)) (by decide) rfl ?_
  intro p e s m args below meth c s₁ B hml hv
  obtain ⟨hav, hsz, hP, hK, hD0, hN⟩ := hv
  have hx := B.exec
  have hb := B.bytes
  have hr := B.returns
  have hts := atoms_spec (ws := wsX4_needsEnd) B.pre
  have hown : s.vm.findClass RX4 = some m.cls := findClass_of_methodNamed B.named
  have hlocks := B.notSynchronized
  subst hsz
  have hA : ∀ q, s.heap.size ≤ q → va_A (ww_X4_needsEnd cs ad raR raT xR nT zD (fun _ => 0)) s.heap.size q := fun q h => Or.inr h
  have hD : va_D (va_A (ww_X4_needsEnd cs ad raR raT xR nT zD (fun _ => 0)) s.heap.size) (ww_X4_needsEnd cs ad raR raT xR nT R T) := hD0.weaken (fun k q h _ => cA_in (ws := (ww_X4_needsEnd cs ad raR raT xR nT R T)) (ws' := (ww_X4_needsEnd cs ad raR raT xR nT zD (fun _ => 0))) rfl h)
  have hS : va_S (va_A (ww_X4_needsEnd cs ad raR raT xR nT zD (fun _ => 0)) s.heap.size) s.heap s.heap [] := va_S.rf
  have hl := lv_entry ([.ref (raR 0)]) (n := 1) (Nat.le_of_ble_eq_true rfl)
  rw [show entryFrame m args 1 = entryFrame m ([.ref (raR 0)] : List Value).toArray 1 from by rw [hav], lg_entry_eq]
  generalize (lg_sl ([.ref (raR 0)]) ++ List.replicate (1 - (lg_sl ([.ref (raR 0)])).length) Slot.unset).toArray = ls at hl ⊢
  have hl : lv_has ls 1 [(0, .ref (raR 0))] := hl
  unfold f_X4_needsEnd at hf
  refine lv_aload_n hx hb dX4_needsEnd_0 rfl (lv_at hl 0 rfl) ?_
  refine ko_call (v := some (.int (f_X4_seesEnd nT R T))) (va_runV (As := []) (rest := []) ⟨hx, hb, hml, hown, hts⟩ (c_X4_seesEnd l dC dI cs ad raR raT xR nT R T _ rfl) (cwV 0 hts gX4_needsEnd_X4_seesEnd rfl rfl rfl (by decide +kernel) ⟨Nat.le_of_ble_eq_true rfl, Nat.le_of_ble_eq_true rfl⟩) ⟨fun a U g mk q => ⟨q.1, (fun _ _ _ _ => cPr_bl) a U g mk q.2⟩, va_recv hK hP (ci := 5) (q0 := 0) rfl rfl, fun U hU hW => ⟨rfl, ⟨by rw [hU]; exact (hP.sub (ws' := (ww_X4_seesEnd cs ad raR raT xR nT R T)) [0, 1] rfl), va_K.moved hW.alike hK, kN_warm hW hN⟩⟩⟩ rfl rfl hl.1 rfl (lv_room (Nat.le_of_ble_eq_true rfl)) dX4_needsEnd_1 ⟨Nat.le_refl _, Nat.le_refl _⟩) ?_
  refine lv_if_ne (tgt := 15) hx hb dX4_needsEnd_4 (by decide) (fun hb5 => ?_) (fun hb5 => ?_)
  · have hf := (if_neg hb5).symm.trans hf
    refine lv_iconst (v := 1) hx hb dX4_needsEnd_15 (by decide) ?_
    refine lv_goto (tgt := 20) hx hb dX4_needsEnd_16 (by decide) ?_
    have hf := Option.some.inj hf
    subst hf
    exact c_zret (v := (1 : Int32)) hx hb hr rfl hlocks hP hK hD hS dX4_needsEnd_20
  · have hf := (if_pos hb5).symm.trans hf
    refine lv_aload_n hx hb dX4_needsEnd_7 rfl (lv_at hl 0 rfl) ?_
    refine lv_iconst (v := 1) hx hb dX4_needsEnd_8 (by decide) ?_
    obtain ⟨v2, Rv3, hq1, hf⟩ := bo2_e hf
    refine g_callw (isC := [0, 1]) (isR := []) (wc := (ww_X4_refuse cs ad raR raT xR nT R T)) (wz := (ww_X4_refuse cs ad raR raT xR nT zD (fun _ => 0))) (w1 := (ww_X4_refuse cs ad raR raT xR nT Rv3 T)) (ws' := (ww_X4_needsEnd cs ad raR raT xR nT Rv3 T)) (v := v2) (va_runV (As := [.int (1 : Int32)]) (rest := []) ⟨hx, hb, hml, hown, hts⟩ (c_X4_refuse l dC dI cs ad raR raT xR nT _ R T (1 : Int32) (v2, Rv3) hq1) (cwV 1 hts gX4_needsEnd_X4_refuse rfl rfl rfl (by decide +kernel) ⟨Nat.le_of_ble_eq_true rfl, Nat.le_of_ble_eq_true rfl⟩) ⟨fun a U g mk q => ⟨q.1, (fun _ _ _ _ => cPw_bl) a U g mk q.2⟩, va_recv hK hP (ci := 5) (q0 := 0) rfl rfl, fun U hU hW => ⟨rfl, ⟨by rw [hU], by rw [hU]; exact (hP.sub (ws' := (ww_X4_refuse cs ad raR raT xR nT R T)) [0, 1] rfl), va_K.moved hW.alike hK, (hD.sub (ws' := (ww_X4_refuse cs ad raR raT xR nT R T)) [0, 1] (by decide) rfl).weaken (fun _ _ _ _ => trivial), kN_warm hW hN⟩⟩⟩ rfl rfl hl.1 rfl (lv_room (Nat.le_of_ble_eq_true rfl)) dX4_needsEnd_9 ⟨Nat.le_refl _, Nat.le_refl _⟩) hP hD hS hA rfl rfl (wr := ([] : va_W)) rfl rfl rfl (nw := 2) rfl (by decide +kernel) rfl (fun H locs hP hD hS => ?_)
    refine lv_if_eq (tgt := 19) hx hb dX4_needsEnd_12 (by decide) (fun hb4 => ?_) (fun hb4 => ?_)
    · have hf := (if_pos hb4).symm.trans hf
      refine lv_iconst (v := 0) hx hb dX4_needsEnd_19 (by decide) ?_
      have hf := Option.some.inj hf
      subst hf
      exact c_zret (v := (0 : Int32)) hx hb hr rfl hlocks hP hK hD hS dX4_needsEnd_20
    · have hf := (if_neg hb4).symm.trans hf
      refine lv_iconst (v := 1) hx hb dX4_needsEnd_15 (by decide) ?_
      refine lv_goto (tgt := 20) hx hb dX4_needsEnd_16 (by decide) ?_
      have hf := Option.some.inj hf
      subst hf
      exact c_zret (v := (1 : Int32)) hx hb hr rfl hlocks hP hK hD hS dX4_needsEnd_20

def ww_X9_debtOf (cs : Nat → ClassId) (ad : Nat → Nat) (raS : Nat → Nat) (S : kD) : va_W := (wX9 cs ad raS S)
abbrev rm_X9_debtOf : Room := { frames := 0, cells := 0, slots := 0, locals := 0 }
set_option maxHeartbeats 4000000 in
set_option maxRecDepth 100000 in
theorem c_X9_debtOf (l : Launch) (dC : Nat → ClassId) (dI : Nat → Nat → Nat) (cs : Nat → ClassId) (ad : Nat → Nat) (raS : Nat → Nat) (S : kD) (a0 : Int32) (a1 : Int32) (r : Int32) (hf : f_X9_debtOf a0 a1 S = some r) : Met l yX9_debtOf wsX9_debtOf rm_X9_debtOf (va_Pc [.ref (raS 0), .int a0, .int a1] (cPr dC dI cs (ww_X9_debtOf cs ad raS S))) (kQ (some (.int r))) 0 0 (kF) := by
  refine Met.ofW (cc := cX9_debtOf) (maxL := 3) (ret := (some .int)) (by decide) rfl ?_
  intro p e s m args below meth c s₁ B hml hv
  obtain ⟨hav, hP, hK, hN⟩ := hv
  have hx := B.exec
  have hb := B.bytes
  have hr := B.returns
  have hts := atoms_spec (ws := wsX9_debtOf) B.pre
  have hown : s.vm.findClass RX9 = some m.cls := findClass_of_methodNamed B.named
  have hlocks := B.notSynchronized
  have hinX9 := (show ∀ w ∈ wsX90, w ∈ wsX9_debtOf from fun w h => List.mem_cons_of_mem _ (List.mem_append_right _ h))
  have k_fieldLink_RX9_21__KeyLetters_State___debts____I_ := hts (.fieldLink RX9 21 "KeyLetters$State" "debts" "[I") (List.mem_of_getElem? (i := 1) rfl)
  have hl := lv_entry ([.ref (raS 0), .int a0, .int a1]) (n := 3) (Nat.le_of_ble_eq_true rfl)
  rw [show entryFrame m args 3 = entryFrame m ([.ref (raS 0), .int a0, .int a1] : List Value).toArray 3 from by rw [hav], lg_entry_eq]
  generalize (lg_sl ([.ref (raS 0), .int a0, .int a1]) ++ List.replicate (3 - (lg_sl ([.ref (raS 0), .int a0, .int a1])).length) Slot.unset).toArray = ls at hl ⊢
  have hl : lv_has ls 3 [(0, .ref (raS 0)), (1, .int a0), (2, .int a1)] := hl
  unfold f_X9_debtOf at hf
  refine lv_iload_n hx hb dX9_debtOf_0 rfl (lv_at hl 1 rfl) ?_
  refine lv_if_lt (tgt := 20) hx hb dX9_debtOf_1 (by decide) (fun hb6 => ?_) (fun hb6 => ?_)
  · have hf := (if_pos hb6).symm.trans hf
    refine lv_iconst (v := 0) hx hb dX9_debtOf_20 (by decide) ?_
    have hf := Option.some.inj hf
    subst hf
    exact W.iret (v := (0 : Int32)) hx hb hr (fun t ht hW => ⟨rfl, ht⟩) (fun _ h => nomatch h) dX9_debtOf_21
  · have hf := (if_neg hb6).symm.trans hf
    refine lv_iload_n hx hb dX9_debtOf_4 rfl (lv_at hl 1 rfl) ?_
    refine lv_bipush (v := 6) hx hb dX9_debtOf_5 (by decide) ?_
    refine lv_icmp_ge (tgt := 20) hx hb dX9_debtOf_7 (by decide) (fun hb5 => ?_) (fun hb5 => ?_)
    · have hf := (if_pos hb5).symm.trans hf
      refine lv_iconst (v := 0) hx hb dX9_debtOf_20 (by decide) ?_
      have hf := Option.some.inj hf
      subst hf
      exact W.iret (v := (0 : Int32)) hx hb hr (fun t ht hW => ⟨rfl, ht⟩) (fun _ h => nomatch h) dX9_debtOf_21
    · have hf := (if_neg hb5).symm.trans hf
      refine lv_iload_n hx hb dX9_debtOf_10 rfl (lv_at hl 2 rfl) ?_
      refine lv_if_lt (tgt := 20) hx hb dX9_debtOf_11 (by decide) (fun hb4 => ?_) (fun hb4 => ?_)
      · have hf := (if_pos hb4).symm.trans hf
        refine lv_iconst (v := 0) hx hb dX9_debtOf_20 (by decide) ?_
        have hf := Option.some.inj hf
        subst hf
        exact W.iret (v := (0 : Int32)) hx hb hr (fun t ht hW => ⟨rfl, ht⟩) (fun _ h => nomatch h) dX9_debtOf_21
      · have hf := (if_neg hb4).symm.trans hf
        refine lv_iload_n hx hb dX9_debtOf_14 rfl (lv_at hl 2 rfl) ?_
        refine lv_bipush (v := 6) hx hb dX9_debtOf_15 (by decide) ?_
        refine lv_icmp_lt (tgt := 22) hx hb dX9_debtOf_17 (by decide) (fun hb3 => ?_) (fun hb3 => ?_)
        · have hf := (if_pos hb3).symm.trans hf
          refine lv_aload_n hx hb dX9_debtOf_22 rfl (lv_at hl 0 rfl) ?_
          refine va_get (D := (dC, dI)) (ci := 10) (C := RX9) (T := TX9) (N := 9) hx hb hts hinX9 hown hK hP 0 rfl rfl 8 (by decide) (v := .ref (raS 8)) k_fieldLink_RX9_21__KeyLetters_State___debts____I_ (fun _ h9 => h9) rfl dX9_debtOf_23 ?_
          refine lv_iload_n hx hb dX9_debtOf_26 rfl (lv_at hl 1 rfl) ?_
          refine lv_bipush (v := 6) hx hb dX9_debtOf_27 (by decide) ?_
          refine lv_imul hx hb dX9_debtOf_29 ?_
          refine lv_iload_n hx hb dX9_debtOf_30 rfl (lv_at hl 2 rfl) ?_
          refine lv_iadd hx hb dX9_debtOf_31 ?_
          obtain ⟨v1, ev1, hf⟩ := bd1_e hf
          refine kt_i ev1 ?_
          obtain ⟨hc2, hf⟩ := ck_e hf
          refine va_iald hx hb hK hP 4 1 rfl rfl hc2 dX9_debtOf_32 ?_
          have hf := Option.some.inj hf
          subst hf
          exact W.iret (v := (S.1 8 v1.toNatClampNeg)) hx hb hr (fun t ht hW => ⟨rfl, ht⟩) (fun _ h => nomatch h) dX9_debtOf_33
        · have hf := (if_neg hb3).symm.trans hf
          refine lv_iconst (v := 0) hx hb dX9_debtOf_20 (by decide) ?_
          have hf := Option.some.inj hf
          subst hf
          exact W.iret (v := (0 : Int32)) hx hb hr (fun t ht hW => ⟨rfl, ht⟩) (fun _ h => nomatch h) dX9_debtOf_21

def ww_X9_owesBothWays (cs : Nat → ClassId) (ad : Nat → Nat) (raS : Nat → Nat) (S : kD) : va_W := (wX9 cs ad raS S)
abbrev rm_X9_owesBothWays : Room := { frames := 1, cells := 0, slots := 0, locals := 22 }
set_option maxHeartbeats 4000000 in
set_option maxRecDepth 100000 in
theorem c_X9_owesBothWays (l : Launch) (dC : Nat → ClassId) (dI : Nat → Nat → Nat) (cs : Nat → ClassId) (ad : Nat → Nat) (raS : Nat → Nat) (S : kD) (r : Int32) (hf : f_X9_owesBothWays S = some r) : Met l yX9_owesBothWays wsX9_owesBothWays rm_X9_owesBothWays (va_Pc [.ref (raS 0)] (cPr dC dI cs (ww_X9_owesBothWays cs ad raS S))) (kQ (some (.int r))) 0 0 (kF) := by
  refine Met.ofW (cc := cX9_owesBothWays) (maxL := 3) (ret := (some .boolean)) (by decide) rfl ?_
  intro p e s m args below meth c s₁ B hml hv
  obtain ⟨hav, hP, hK, hN⟩ := hv
  have hx := B.exec
  have hb := B.bytes
  have hr := B.returns
  have hts := atoms_spec (ws := wsX9_owesBothWays) B.pre
  have hown : s.vm.findClass RX9 = some m.cls := findClass_of_methodNamed B.named
  have hlocks := B.notSynchronized
  have hl := lv_entry ([.ref (raS 0)]) (n := 3) (Nat.le_of_ble_eq_true rfl)
  rw [show entryFrame m args 3 = entryFrame m ([.ref (raS 0)] : List Value).toArray 3 from by rw [hav], lg_entry_eq]
  generalize (lg_sl ([.ref (raS 0)]) ++ List.replicate (3 - (lg_sl ([.ref (raS 0)])).length) Slot.unset).toArray = ls at hl ⊢
  have hl : lv_has ls 3 [(0, .ref (raS 0))] := hl
  unfold f_X9_owesBothWays at hf
  have h_2 := lp_ind (z := (fun _ => none)) (b := (g_X9_owesBothWays_2 S)) (fun (rc_2 : Int32 → Option Int32) => ∀ (x1_2 : Int32) (ls : Array Slot), lv_has ls 3 [(0, .ref (raS 0)), (1, .int x1_2)] → rc_2 x1_2 = some r → W p l e (headSpec wsX9_owesBothWays rm_X9_owesBothWays).room s m args below meth c s.heap [] 0 0 (MQ below (kQ (some (.int r))) args s 0 0 (kF)) (F0 m 2 ls [])) (by
      intro x1_2 ls hl hf
      cases hf) (by
      intro rc_2 ih_2 x1_2 ls hl hf
      unfold g_X9_owesBothWays_2 at hf
      have h_41 : ∀ (x1_41 : Int32) (ls : Array Slot), lv_has ls 3 [(0, .ref (raS 0)), (1, .int x1_41)] → g_X9_owesBothWays_41 rc_2 S x1_41 = some r → W p l e (headSpec wsX9_owesBothWays rm_X9_owesBothWays).room s m args below meth c s.heap [] 0 0 (MQ below (kQ (some (.int r))) args s 0 0 (kF)) (F0 m 41 ls []) := by
        intro x1_41 ls hl hf
        unfold g_X9_owesBothWays_41 at hf
        obtain ⟨v1, ev1, hf⟩ := bd1_e hf
        refine lv_iinc (k := 1) (x := x1_41) (v := v1) (nL := 3) (lv' := [(1, .int v1), (0, .ref (raS 0))]) hx hb dX9_owesBothWays_41 hl rfl (kt_inc (w := 1) (by decide) ev1) (by decide) rfl (fun ls hl => ?_)
        refine lv_goto (tgt := 2) hx hb dX9_owesBothWays_44 (by decide) ?_
        exact ih_2 v1 ls (lv_sub hl [1, 0] rfl) hf
      have h_10 := lp_ind (z := (fun _ _ => none)) (b := (g_X9_owesBothWays_10 rc_2 S)) (fun (rc_10 : Int32 → Int32 → Option Int32) => ∀ (x1_10 : Int32) (x2_10 : Int32) (ls : Array Slot), lv_has ls 3 [(0, .ref (raS 0)), (1, .int x1_10), (2, .int x2_10)] → rc_10 x1_10 x2_10 = some r → W p l e (headSpec wsX9_owesBothWays rm_X9_owesBothWays).room s m args below meth c s.heap [] 0 0 (MQ below (kQ (some (.int r))) args s 0 0 (kF)) (F0 m 10 ls [])) (by
          intro x1_10 x2_10 ls hl hf
          cases hf) (by
          intro rc_10 ih_10 x1_10 x2_10 ls hl hf
          unfold g_X9_owesBothWays_10 at hf
          have h_35 : ∀ (x1_35 : Int32) (x2_35 : Int32) (ls : Array Slot), lv_has ls 3 [(0, .ref (raS 0)), (1, .int x1_35), (2, .int x2_35)] → g_X9_owesBothWays_35 rc_2 rc_10 S x1_35 x2_35 = some r → W p l e (headSpec wsX9_owesBothWays rm_X9_owesBothWays).room s m args below meth c s.heap [] 0 0 (MQ below (kQ (some (.int r))) args s 0 0 (kF)) (F0 m 35 ls []) := by
            intro x1_35 x2_35 ls hl hf
            unfold g_X9_owesBothWays_35 at hf
            obtain ⟨v2, ev2, hf⟩ := bd1_e hf
            refine lv_iinc (k := 2) (x := x2_35) (v := v2) (nL := 3) (lv' := [(2, .int v2), (0, .ref (raS 0)), (1, .int x1_35)]) hx hb dX9_owesBothWays_35 hl rfl (kt_inc (w := 1) (by decide) ev2) (by decide) rfl (fun ls hl => ?_)
            refine lv_goto (tgt := 10) hx hb dX9_owesBothWays_38 (by decide) ?_
            exact ih_10 x1_35 v2 ls (lv_sub hl [1, 2, 0] rfl) hf
          refine lv_iload_n hx hb dX9_owesBothWays_10 rfl (lv_at hl 2 rfl) ?_
          refine lv_iload_n hx hb dX9_owesBothWays_11 rfl (lv_at hl 1 rfl) ?_
          refine lv_icmp_ge (tgt := 41) hx hb dX9_owesBothWays_12 (by decide) (fun hb9 => ?_) (fun hb9 => ?_)
          · have hf := (if_pos hb9).symm.trans hf
            exact h_41 x1_10 ls (lv_sub hl [0, 1] rfl) hf
          · have hf := (if_neg hb9).symm.trans hf
            refine lv_aload_n hx hb dX9_owesBothWays_15 rfl (lv_at hl 0 rfl) ?_
            refine lv_iload_n hx hb dX9_owesBothWays_16 rfl (lv_at hl 1 rfl) ?_
            refine lv_iload_n hx hb dX9_owesBothWays_17 rfl (lv_at hl 2 rfl) ?_
            obtain ⟨v4, hq3, hf⟩ := bo_e hf
            refine ko_call (v := some (.int v4)) (va_runV (As := [.int x1_10, .int x2_10]) (rest := []) ⟨hx, hb, hml, hown, hts⟩ (c_X9_debtOf l dC dI cs ad raS S x1_10 x2_10 v4 hq3) (cwV 2 hts gX9_owesBothWays_X9_debtOf rfl rfl rfl (by decide +kernel) ⟨Nat.le_of_ble_eq_true rfl, Nat.le_of_ble_eq_true rfl⟩) ⟨fun a U g mk q => ⟨q.1, (fun _ _ _ _ => cPr_bl) a U g mk q.2⟩, va_recv hK hP (ci := 10) (q0 := 0) rfl rfl, fun U hU hW => ⟨rfl, ⟨by rw [hU]; exact (hP.sub (ws' := (ww_X9_debtOf cs ad raS S)) [0, 1, 2, 3, 4] rfl), va_K.moved hW.alike hK, kN_warm hW hN⟩⟩⟩ rfl rfl hl.1 rfl (lv_room (Nat.le_of_ble_eq_true rfl)) dX9_owesBothWays_18 ⟨Nat.le_refl _, Nat.le_refl _⟩) ?_
            refine lv_if_le (tgt := 35) hx hb dX9_owesBothWays_21 (by decide) (fun hb8 => ?_) (fun hb8 => ?_)
            · have hf := (if_pos hb8).symm.trans hf
              exact h_35 x1_10 x2_10 ls hl hf
            · have hf := (if_neg hb8).symm.trans hf
              refine lv_aload_n hx hb dX9_owesBothWays_24 rfl (lv_at hl 0 rfl) ?_
              refine lv_iload_n hx hb dX9_owesBothWays_25 rfl (lv_at hl 2 rfl) ?_
              refine lv_iload_n hx hb dX9_owesBothWays_26 rfl (lv_at hl 1 rfl) ?_
              obtain ⟨v6, hq5, hf⟩ := bo_e hf
              refine ko_call (v := some (.int v6)) (va_runV (As := [.int x2_10, .int x1_10]) (rest := []) ⟨hx, hb, hml, hown, hts⟩ (c_X9_debtOf l dC dI cs ad raS S x2_10 x1_10 v6 hq5) (cwV 2 hts gX9_owesBothWays_X9_debtOf rfl rfl rfl (by decide +kernel) ⟨Nat.le_of_ble_eq_true rfl, Nat.le_of_ble_eq_true rfl⟩) ⟨fun a U g mk q => ⟨q.1, (fun _ _ _ _ => cPr_bl) a U g mk q.2⟩, va_recv hK hP (ci := 10) (q0 := 0) rfl rfl, fun U hU hW => ⟨rfl, ⟨by rw [hU]; exact (hP.sub (ws' := (ww_X9_debtOf cs ad raS S)) [0, 1, 2, 3, 4] rfl), va_K.moved hW.alike hK, kN_warm hW hN⟩⟩⟩ rfl rfl hl.1 rfl (lv_room (Nat.le_of_ble_eq_true rfl)) dX9_owesBothWays_27 ⟨Nat.le_refl _, Nat.le_refl _⟩) ?_
              refine lv_if_le (tgt := 35) hx hb dX9_owesBothWays_30 (by decide) (fun hb7 => ?_) (fun hb7 => ?_)
              · have hf := (if_pos hb7).symm.trans hf
                exact h_35 x1_10 x2_10 ls hl hf
              · have hf := (if_neg hb7).symm.trans hf
                refine lv_iconst (v := 1) hx hb dX9_owesBothWays_33 (by decide) ?_
                have hf := Option.some.inj hf
                subst hf
                exact W.zret (v := (1 : Int32)) (ty := .boolean) hx hb hr rfl (fun t ht hW => ⟨rfl, ht⟩) (fun _ h => nomatch h) dX9_owesBothWays_34) 2000
      refine lv_iload_n hx hb dX9_owesBothWays_2 rfl (lv_at hl 1 rfl) ?_
      refine lv_bipush (v := 6) hx hb dX9_owesBothWays_3 (by decide) ?_
      refine lv_icmp_ge (tgt := 47) hx hb dX9_owesBothWays_5 (by decide) (fun hb10 => ?_) (fun hb10 => ?_)
      · have hf := (if_pos hb10).symm.trans hf
        refine lv_iconst (v := 0) hx hb dX9_owesBothWays_47 (by decide) ?_
        have hf := Option.some.inj hf
        subst hf
        exact W.zret (v := (0 : Int32)) (ty := .boolean) hx hb hr rfl (fun t ht hW => ⟨rfl, ht⟩) (fun _ h => nomatch h) dX9_owesBothWays_48
      · have hf := (if_neg hb10).symm.trans hf
        refine lv_iconst (v := 0) hx hb dX9_owesBothWays_8 (by decide) ?_
        refine lv_istore_n (nL := 3) (lv' := [(2, .int (0 : Int32)), (0, .ref (raS 0)), (1, .int x1_2)]) hx hb dX9_owesBothWays_9 rfl hl (by decide) rfl (fun ls hl => ?_)
        exact h_10 x1_2 (0 : Int32) ls (lv_sub hl [1, 2, 0] rfl) hf) 2000
  refine lv_iconst (v := 0) hx hb dX9_owesBothWays_0 (by decide) ?_
  refine lv_istore_n (nL := 3) (lv' := [(1, .int (0 : Int32)), (0, .ref (raS 0))]) hx hb dX9_owesBothWays_1 rfl hl (by decide) rfl (fun ls hl => ?_)
  exact h_2 (0 : Int32) ls (lv_sub hl [1, 0] rfl) hf

def ww_X9_daysLeft (cs : Nat → ClassId) (ad : Nat → Nat) (raS : Nat → Nat) (S : kD) : va_W := (wX9 cs ad raS S)
abbrev rm_X9_daysLeft : Room := { frames := 0, cells := 0, slots := 0, locals := 0 }
set_option maxHeartbeats 4000000 in
set_option maxRecDepth 100000 in
theorem c_X9_daysLeft (l : Launch) (dC : Nat → ClassId) (dI : Nat → Nat → Nat) (cs : Nat → ClassId) (ad : Nat → Nat) (raS : Nat → Nat) (S : kD) (r : Int32) (hf : f_X9_daysLeft S = r) : Met l yX9_daysLeft wsX9_daysLeft rm_X9_daysLeft (va_Pc [.ref (raS 0)] (cPr dC dI cs (ww_X9_daysLeft cs ad raS S))) (kQ (some (.int r))) 0 0 (kF) := by
  refine Met.ofW (cc := cX9_daysLeft) (maxL := 1) (ret := (some .int)) (by decide) rfl ?_
  intro p e s m args below meth c s₁ B hml hv
  obtain ⟨hav, hP, hK, hN⟩ := hv
  have hx := B.exec
  have hb := B.bytes
  have hr := B.returns
  have hts := atoms_spec (ws := wsX9_daysLeft) B.pre
  have hown : s.vm.findClass RX9 = some m.cls := findClass_of_methodNamed B.named
  have hlocks := B.notSynchronized
  have hinX9 := (show ∀ w ∈ wsX90, w ∈ wsX9_daysLeft from fun w h => List.mem_cons_of_mem _ (List.mem_append_right _ h))
  have k_fieldLink_RX9_31__KeyLetters_State___day___I_ := hts (.fieldLink RX9 31 "KeyLetters$State" "day" "I") (List.mem_of_getElem? (i := 1) rfl)
  have hl := lv_entry ([.ref (raS 0)]) (n := 1) (Nat.le_of_ble_eq_true rfl)
  rw [show entryFrame m args 1 = entryFrame m ([.ref (raS 0)] : List Value).toArray 1 from by rw [hav], lg_entry_eq]
  generalize (lg_sl ([.ref (raS 0)]) ++ List.replicate (1 - (lg_sl ([.ref (raS 0)])).length) Slot.unset).toArray = ls at hl ⊢
  have hl : lv_has ls 1 [(0, .ref (raS 0))] := hl
  unfold f_X9_daysLeft at hf
  refine lv_sipush (v := 400) hx hb dX9_daysLeft_0 (by decide) ?_
  refine lv_aload_n hx hb dX9_daysLeft_3 rfl (lv_at hl 0 rfl) ?_
  refine va_get (D := (dC, dI)) (ci := 10) (C := RX9) (T := TX9) (N := 9) hx hb hts hinX9 hown hK hP 0 rfl rfl 0 (by decide) (v := .int (S.1 0 0)) k_fieldLink_RX9_31__KeyLetters_State___day___I_ (fun _ h9 => h9) rfl dX9_daysLeft_4 ?_
  refine lv_isub hx hb dX9_daysLeft_7 ?_
  subst hf
  exact W.iret (v := ((400 : Int32) - (S.1 0 0))) hx hb hr (fun t ht hW => ⟨rfl, ht⟩) (fun _ h => nomatch h) dX9_daysLeft_8

def ww_X3_hasMachine (cs : Nat → ClassId) (ad : Nat → Nat) (raO : Nat → Nat) (O : kD) : va_W := (wX3 cs ad raO O)
abbrev rm_X3_hasMachine : Room := { frames := 0, cells := 0, slots := 0, locals := 0 }
set_option maxHeartbeats 4000000 in
set_option maxRecDepth 100000 in
theorem c_X3_hasMachine (l : Launch) (dC : Nat → ClassId) (dI : Nat → Nat → Nat) (cs : Nat → ClassId) (ad : Nat → Nat) (raO : Nat → Nat) (O : kD) (a0 : Int32) (r : Int32) (hf : f_X3_hasMachine a0 O = r) : Met l yX3_hasMachine wsX3_hasMachine rm_X3_hasMachine (va_Pc [.ref (raO 0), .int a0] (cPr dC dI cs (ww_X3_hasMachine cs ad raO O))) (kQ (some (.int r))) 0 0 (kF) := by
  refine Met.ofW (cc := cX3_hasMachine) (maxL := 2) (ret := (some .boolean)) (by decide) rfl ?_
  intro p e s m args below meth c s₁ B hml hv
  obtain ⟨hav, hP, hK, hN⟩ := hv
  have hx := B.exec
  have hb := B.bytes
  have hr := B.returns
  have hts := atoms_spec (ws := wsX3_hasMachine) B.pre
  have hown : s.vm.findClass RX3 = some m.cls := findClass_of_methodNamed B.named
  have hlocks := B.notSynchronized
  have hinX3 := (show ∀ w ∈ wsX30, w ∈ wsX3_hasMachine from fun w h => List.mem_cons_of_mem _ (List.mem_append_right _ h))
  have k_fieldLink_RX3_38__KeyLetters_Office___machines___I_ := hts (.fieldLink RX3 38 "KeyLetters$Office" "machines" "I") (List.mem_of_getElem? (i := 1) rfl)
  have hl := lv_entry ([.ref (raO 0), .int a0]) (n := 2) (Nat.le_of_ble_eq_true rfl)
  rw [show entryFrame m args 2 = entryFrame m ([.ref (raO 0), .int a0] : List Value).toArray 2 from by rw [hav], lg_entry_eq]
  generalize (lg_sl ([.ref (raO 0), .int a0]) ++ List.replicate (2 - (lg_sl ([.ref (raO 0), .int a0])).length) Slot.unset).toArray = ls at hl ⊢
  have hl : lv_has ls 2 [(0, .ref (raO 0)), (1, .int a0)] := hl
  unfold f_X3_hasMachine at hf
  refine lv_iload_n hx hb dX3_hasMachine_0 rfl (lv_at hl 1 rfl) ?_
  refine lv_if_lt (tgt := 16) hx hb dX3_hasMachine_1 (by decide) (fun hb2 => ?_) (fun hb2 => ?_)
  · have hf := (if_pos hb2).symm.trans hf
    refine lv_iconst (v := 0) hx hb dX3_hasMachine_16 (by decide) ?_
    subst hf
    exact W.zret (v := (0 : Int32)) (ty := .boolean) hx hb hr rfl (fun t ht hW => ⟨rfl, ht⟩) (fun _ h => nomatch h) dX3_hasMachine_17
  · have hf := (if_neg hb2).symm.trans hf
    refine lv_iload_n hx hb dX3_hasMachine_4 rfl (lv_at hl 1 rfl) ?_
    refine lv_aload_n hx hb dX3_hasMachine_5 rfl (lv_at hl 0 rfl) ?_
    refine va_get (D := (dC, dI)) (ci := 4) (C := RX3) (T := TX3) (N := 11) hx hb hts hinX3 hown hK hP 0 rfl rfl 1 (by decide) (v := .int (O.1 0 1)) k_fieldLink_RX3_38__KeyLetters_Office___machines___I_ (fun _ h9 => h9) rfl dX3_hasMachine_6 ?_
    refine lv_icmp_ge (tgt := 16) hx hb dX3_hasMachine_9 (by decide) (fun hb1 => ?_) (fun hb1 => ?_)
    · have hf := (if_pos hb1).symm.trans hf
      refine lv_iconst (v := 0) hx hb dX3_hasMachine_16 (by decide) ?_
      subst hf
      exact W.zret (v := (0 : Int32)) (ty := .boolean) hx hb hr rfl (fun t ht hW => ⟨rfl, ht⟩) (fun _ h => nomatch h) dX3_hasMachine_17
    · have hf := (if_neg hb1).symm.trans hf
      refine lv_iconst (v := 1) hx hb dX3_hasMachine_12 (by decide) ?_
      refine lv_goto (tgt := 17) hx hb dX3_hasMachine_13 (by decide) ?_
      subst hf
      exact W.zret (v := (1 : Int32)) (ty := .boolean) hx hb hr rfl (fun t ht hW => ⟨rfl, ht⟩) (fun _ h => nomatch h) dX3_hasMachine_17
theorem z_X3_hasMachine (a0 : Int32) (O : kD) : f_X3_hasMachine a0 O = 0 ∨ f_X3_hasMachine a0 O = 1 := by
  unfold f_X3_hasMachine
  repeat' split
  all_goals first | exact Or.inl rfl | exact Or.inr rfl

def ww_X3_hasPhrase (cs : Nat → ClassId) (ad : Nat → Nat) (raO : Nat → Nat) (O : kD) : va_W := (wX3 cs ad raO O)
abbrev rm_X3_hasPhrase : Room := { frames := 0, cells := 0, slots := 0, locals := 0 }
set_option maxHeartbeats 4000000 in
set_option maxRecDepth 100000 in
theorem c_X3_hasPhrase (l : Launch) (dC : Nat → ClassId) (dI : Nat → Nat → Nat) (cs : Nat → ClassId) (ad : Nat → Nat) (raO : Nat → Nat) (O : kD) (a0 : Int32) (r : Int32) (hf : f_X3_hasPhrase a0 O = r) : Met l yX3_hasPhrase wsX3_hasPhrase rm_X3_hasPhrase (va_Pc [.ref (raO 0), .int a0] (cPr dC dI cs (ww_X3_hasPhrase cs ad raO O))) (kQ (some (.int r))) 0 0 (kF) := by
  refine Met.ofW (cc := cX3_hasPhrase) (maxL := 2) (ret := (some .boolean)) (by decide) rfl ?_
  intro p e s m args below meth c s₁ B hml hv
  obtain ⟨hav, hP, hK, hN⟩ := hv
  have hx := B.exec
  have hb := B.bytes
  have hr := B.returns
  have hts := atoms_spec (ws := wsX3_hasPhrase) B.pre
  have hown : s.vm.findClass RX3 = some m.cls := findClass_of_methodNamed B.named
  have hlocks := B.notSynchronized
  have hinX3 := (show ∀ w ∈ wsX30, w ∈ wsX3_hasPhrase from fun w h => List.mem_cons_of_mem _ (List.mem_append_right _ h))
  have k_fieldLink_RX3_41__KeyLetters_Office___phrases___I_ := hts (.fieldLink RX3 41 "KeyLetters$Office" "phrases" "I") (List.mem_of_getElem? (i := 1) rfl)
  have hl := lv_entry ([.ref (raO 0), .int a0]) (n := 2) (Nat.le_of_ble_eq_true rfl)
  rw [show entryFrame m args 2 = entryFrame m ([.ref (raO 0), .int a0] : List Value).toArray 2 from by rw [hav], lg_entry_eq]
  generalize (lg_sl ([.ref (raO 0), .int a0]) ++ List.replicate (2 - (lg_sl ([.ref (raO 0), .int a0])).length) Slot.unset).toArray = ls at hl ⊢
  have hl : lv_has ls 2 [(0, .ref (raO 0)), (1, .int a0)] := hl
  unfold f_X3_hasPhrase at hf
  refine lv_iload_n hx hb dX3_hasPhrase_0 rfl (lv_at hl 1 rfl) ?_
  refine lv_if_lt (tgt := 16) hx hb dX3_hasPhrase_1 (by decide) (fun hb2 => ?_) (fun hb2 => ?_)
  · have hf := (if_pos hb2).symm.trans hf
    refine lv_iconst (v := 0) hx hb dX3_hasPhrase_16 (by decide) ?_
    subst hf
    exact W.zret (v := (0 : Int32)) (ty := .boolean) hx hb hr rfl (fun t ht hW => ⟨rfl, ht⟩) (fun _ h => nomatch h) dX3_hasPhrase_17
  · have hf := (if_neg hb2).symm.trans hf
    refine lv_iload_n hx hb dX3_hasPhrase_4 rfl (lv_at hl 1 rfl) ?_
    refine lv_aload_n hx hb dX3_hasPhrase_5 rfl (lv_at hl 0 rfl) ?_
    refine va_get (D := (dC, dI)) (ci := 4) (C := RX3) (T := TX3) (N := 11) hx hb hts hinX3 hown hK hP 0 rfl rfl 2 (by decide) (v := .int (O.1 0 2)) k_fieldLink_RX3_41__KeyLetters_Office___phrases___I_ (fun _ h9 => h9) rfl dX3_hasPhrase_6 ?_
    refine lv_icmp_ge (tgt := 16) hx hb dX3_hasPhrase_9 (by decide) (fun hb1 => ?_) (fun hb1 => ?_)
    · have hf := (if_pos hb1).symm.trans hf
      refine lv_iconst (v := 0) hx hb dX3_hasPhrase_16 (by decide) ?_
      subst hf
      exact W.zret (v := (0 : Int32)) (ty := .boolean) hx hb hr rfl (fun t ht hW => ⟨rfl, ht⟩) (fun _ h => nomatch h) dX3_hasPhrase_17
    · have hf := (if_neg hb1).symm.trans hf
      refine lv_iconst (v := 1) hx hb dX3_hasPhrase_12 (by decide) ?_
      refine lv_goto (tgt := 17) hx hb dX3_hasPhrase_13 (by decide) ?_
      subst hf
      exact W.zret (v := (1 : Int32)) (ty := .boolean) hx hb hr rfl (fun t ht hW => ⟨rfl, ht⟩) (fun _ h => nomatch h) dX3_hasPhrase_17
theorem z_X3_hasPhrase (a0 : Int32) (O : kD) : f_X3_hasPhrase a0 O = 0 ∨ f_X3_hasPhrase a0 O = 1 := by
  unfold f_X3_hasPhrase
  repeat' split
  all_goals first | exact Or.inl rfl | exact Or.inr rfl

abbrev rm_X11_hasBit : Room := { frames := 0, cells := 0, slots := 0, locals := 0 }
set_option maxHeartbeats 4000000 in
set_option maxRecDepth 100000 in
theorem c_X11_hasBit (l : Launch) (dC : Nat → ClassId) (dI : Nat → Nat → Nat) (cs : Nat → ClassId) (ad : Nat → Nat) (a0 : Int32) (a1 : Int32) (r : Int32) (hf : f_X11_hasBit a0 a1 = r) : Met l yX11_hasBit wsX11_hasBit rm_X11_hasBit (va_Pc [.int a0, .int a1] (cPr dC dI cs ([] : va_W))) (kQ (some (.int r))) 0 0 (kF) := by
  refine Met.ofW (cc := cX11_hasBit) (maxL := 2) (ret := (some .boolean)) (by decide) rfl ?_
  intro p e s m args below meth c s₁ B hml hv
  obtain ⟨hav, hP, hK, hN⟩ := hv
  have hx := B.exec
  have hb := B.bytes
  have hr := B.returns
  have hts := atoms_spec (ws := wsX11_hasBit) B.pre
  have hown : s.vm.findClass RX11 = some m.cls := findClass_of_methodNamed B.named
  have hlocks := B.notSynchronized
  have hl := lv_entry ([.int a0, .int a1]) (n := 2) (Nat.le_of_ble_eq_true rfl)
  rw [show entryFrame m args 2 = entryFrame m ([.int a0, .int a1] : List Value).toArray 2 from by rw [hav], lg_entry_eq]
  generalize (lg_sl ([.int a0, .int a1]) ++ List.replicate (2 - (lg_sl ([.int a0, .int a1])).length) Slot.unset).toArray = ls at hl ⊢
  have hl : lv_has ls 2 [(0, .int a0), (1, .int a1)] := hl
  unfold f_X11_hasBit at hf
  refine lv_iload_n hx hb dX11_hasBit_0 rfl (lv_at hl 0 rfl) ?_
  refine lv_iload_n hx hb dX11_hasBit_1 rfl (lv_at hl 1 rfl) ?_
  refine lv_iushr (v := (kUshr a0 a1)) hx hb dX11_hasBit_2 rfl ?_
  refine lv_iconst (v := 1) hx hb dX11_hasBit_3 (by decide) ?_
  refine lv_iand hx hb dX11_hasBit_4 ?_
  refine lv_iconst (v := 1) hx hb dX11_hasBit_5 (by decide) ?_
  refine lv_icmp_ne (tgt := 13) hx hb dX11_hasBit_6 (by decide) (fun hb1 => ?_) (fun hb1 => ?_)
  · have hf := (if_neg hb1).symm.trans hf
    refine lv_iconst (v := 0) hx hb dX11_hasBit_13 (by decide) ?_
    subst hf
    exact W.zret (v := (0 : Int32)) (ty := .boolean) hx hb hr rfl (fun t ht hW => ⟨rfl, ht⟩) (fun _ h => nomatch h) dX11_hasBit_14
  · have hf := (if_pos hb1).symm.trans hf
    refine lv_iconst (v := 1) hx hb dX11_hasBit_9 (by decide) ?_
    refine lv_goto (tgt := 14) hx hb dX11_hasBit_10 (by decide) ?_
    subst hf
    exact W.zret (v := (1 : Int32)) (ty := .boolean) hx hb hr rfl (fun t ht hW => ⟨rfl, ht⟩) (fun _ h => nomatch h) dX11_hasBit_14
theorem z_X11_hasBit (a0 : Int32) (a1 : Int32) : f_X11_hasBit a0 a1 = 0 ∨ f_X11_hasBit a0 a1 = 1 := by
  unfold f_X11_hasBit
  repeat' split
  all_goals first | exact Or.inl rfl | exact Or.inr rfl

def ww_X9_isHeld (cs : Nat → ClassId) (ad : Nat → Nat) (raS : Nat → Nat) (S : kD) : va_W := (wX9 cs ad raS S)
abbrev rm_X9_isHeld : Room := { frames := 1, cells := 0, slots := 0, locals := 21 }
set_option maxHeartbeats 4000000 in
set_option maxRecDepth 100000 in
theorem c_X9_isHeld (l : Launch) (dC : Nat → ClassId) (dI : Nat → Nat → Nat) (cs : Nat → ClassId) (ad : Nat → Nat) (raS : Nat → Nat) (S : kD) (a0 : Int32) (r : Int32) (hf : f_X9_isHeld a0 S = r) : Met l yX9_isHeld wsX9_isHeld rm_X9_isHeld (va_Pc [.ref (raS 0), .int a0] (cPr dC dI cs (ww_X9_isHeld cs ad raS S))) (kQ (some (.int r))) 0 0 (kF) := by
  refine Met.ofW (cc := cX9_isHeld) (maxL := 2) (ret := (some .boolean)) (by decide) rfl ?_
  intro p e s m args below meth c s₁ B hml hv
  obtain ⟨hav, hP, hK, hN⟩ := hv
  have hx := B.exec
  have hb := B.bytes
  have hr := B.returns
  have hts := atoms_spec (ws := wsX9_isHeld) B.pre
  have hown : s.vm.findClass RX9 = some m.cls := findClass_of_methodNamed B.named
  have hlocks := B.notSynchronized
  have hinX9 := (show ∀ w ∈ wsX90, w ∈ wsX9_isHeld from fun w h => List.mem_cons_of_mem _ (List.mem_append_right _ h))
  have k_fieldLink_RX9_34__KeyLetters_State___held___I_ := hts (.fieldLink RX9 34 "KeyLetters$State" "held" "I") (List.mem_of_getElem? (i := 1) rfl)
  have k_initialized_RX11 := hts (.initialized RX11) (List.mem_of_getElem? (i := 3) rfl)
  have k_static_yX11_hasBit := hts (.static yX11_hasBit) (List.mem_of_getElem? (i := 2) rfl)
  have hl := lv_entry ([.ref (raS 0), .int a0]) (n := 2) (Nat.le_of_ble_eq_true rfl)
  rw [show entryFrame m args 2 = entryFrame m ([.ref (raS 0), .int a0] : List Value).toArray 2 from by rw [hav], lg_entry_eq]
  generalize (lg_sl ([.ref (raS 0), .int a0]) ++ List.replicate (2 - (lg_sl ([.ref (raS 0), .int a0])).length) Slot.unset).toArray = ls at hl ⊢
  have hl : lv_has ls 2 [(0, .ref (raS 0)), (1, .int a0)] := hl
  unfold f_X9_isHeld at hf
  refine lv_aload_n hx hb dX9_isHeld_0 rfl (lv_at hl 0 rfl) ?_
  refine va_get (D := (dC, dI)) (ci := 10) (C := RX9) (T := TX9) (N := 9) hx hb hts hinX9 hown hK hP 0 rfl rfl 3 (by decide) (v := .int (S.1 0 3)) k_fieldLink_RX9_34__KeyLetters_State___held___I_ (fun _ h9 => h9) rfl dX9_isHeld_1 ?_
  refine lv_iload_n hx hb dX9_isHeld_4 rfl (lv_at hl 1 rfl) ?_
  refine ko_call (v := some (.int (f_X11_hasBit (S.1 0 3) a0))) (va_runSN (As := [.int (S.1 0 3), .int a0]) (rest := []) ⟨hx, hb, hml, hown, hts⟩ (c_X11_hasBit l dC dI cs ad (S.1 0 3) a0 _ rfl) ⟨va_cnB 2 hts gX9_isHeld_X11_hasBit_n49 rfl rfl rfl (hN _ (List.mem_of_getElem? (i := 98) rfl)) k_initialized_RX11 (by decide +kernel) ⟨Nat.le_of_ble_eq_true rfl, Nat.le_of_ble_eq_true rfl⟩, k_static_yX11_hasBit, trivial⟩ ⟨fun a U g mk q => ⟨q.1, (fun _ _ _ _ => cPr_bl) a U g mk q.2⟩, fun U hU hW => ⟨rfl, ⟨by rw [hU]; exact (hP.sub (ws' := ([] : va_W)) [] rfl), va_K.moved hW.alike hK, kN_warm hW hN⟩⟩⟩ rfl rfl hl.1 rfl (lv_room (Nat.le_of_ble_eq_true rfl)) dX9_isHeld_5 ⟨Nat.le_refl _, Nat.le_refl _⟩) ?_
  subst hf
  exact W.zret (v := (f_X11_hasBit (S.1 0 3) a0)) (ty := .boolean) hx hb hr (kt_z (z_X11_hasBit (S.1 0 3) a0)) (fun t ht hW => ⟨rfl, ht⟩) (fun _ h => nomatch h) dX9_isHeld_8
theorem z_X9_isHeld (a0 : Int32) (S : kD) : f_X9_isHeld a0 S = 0 ∨ f_X9_isHeld a0 S = 1 := by
  unfold f_X9_isHeld
  repeat' split
  all_goals first | exact Or.inl rfl | exact Or.inr rfl | exact z_X11_hasBit _ ..

def ww_X3_knowsOf (cs : Nat → ClassId) (ad : Nat → Nat) (raO : Nat → Nat) (O : kD) : va_W := (wX3 cs ad raO O)
abbrev rm_X3_knowsOf : Room := { frames := 1, cells := 0, slots := 0, locals := 21 }
set_option maxHeartbeats 4000000 in
set_option maxRecDepth 100000 in
theorem c_X3_knowsOf (l : Launch) (dC : Nat → ClassId) (dI : Nat → Nat → Nat) (cs : Nat → ClassId) (ad : Nat → Nat) (raO : Nat → Nat) (O : kD) (a0 : Int32) (a1 : Int32) (r : Int32) (hf : f_X3_knowsOf a0 a1 O = some r) : Met l yX3_knowsOf wsX3_knowsOf rm_X3_knowsOf (va_Pc [.ref (raO 0), .int a0, .int a1] (cPr dC dI cs (ww_X3_knowsOf cs ad raO O))) (kQ (some (.int r))) 0 0 (kF) := by
  refine Met.ofW (cc := cX3_knowsOf) (maxL := 3) (ret := (some .boolean)) (by decide) rfl ?_
  intro p e s m args below meth c s₁ B hml hv
  obtain ⟨hav, hP, hK, hN⟩ := hv
  have hx := B.exec
  have hb := B.bytes
  have hr := B.returns
  have hts := atoms_spec (ws := wsX3_knowsOf) B.pre
  have hown : s.vm.findClass RX3 = some m.cls := findClass_of_methodNamed B.named
  have hlocks := B.notSynchronized
  have hinX3 := (show ∀ w ∈ wsX30, w ∈ wsX3_knowsOf from fun w h => List.mem_cons_of_mem _ (List.mem_append_right _ h))
  have k_fieldLink_RX3_19__KeyLetters_Office___known____I_ := hts (.fieldLink RX3 19 "KeyLetters$Office" "known" "[I") (List.mem_of_getElem? (i := 1) rfl)
  have k_initialized_RX11 := hts (.initialized RX11) (List.mem_of_getElem? (i := 14) rfl)
  have k_static_yX11_hasBit := hts (.static yX11_hasBit) (List.mem_of_getElem? (i := 13) rfl)
  have hl := lv_entry ([.ref (raO 0), .int a0, .int a1]) (n := 3) (Nat.le_of_ble_eq_true rfl)
  rw [show entryFrame m args 3 = entryFrame m ([.ref (raO 0), .int a0, .int a1] : List Value).toArray 3 from by rw [hav], lg_entry_eq]
  generalize (lg_sl ([.ref (raO 0), .int a0, .int a1]) ++ List.replicate (3 - (lg_sl ([.ref (raO 0), .int a0, .int a1])).length) Slot.unset).toArray = ls at hl ⊢
  have hl : lv_has ls 3 [(0, .ref (raO 0)), (1, .int a0), (2, .int a1)] := hl
  unfold f_X3_knowsOf at hf
  refine lv_aload_n hx hb dX3_knowsOf_0 rfl (lv_at hl 0 rfl) ?_
  refine lv_iload_n hx hb dX3_knowsOf_1 rfl (lv_at hl 1 rfl) ?_
  refine ko_call (v := some (.int (f_X3_hasMachine a0 O))) (va_runV (As := [.int a0]) (rest := []) ⟨hx, hb, hml, hown, hts⟩ (c_X3_hasMachine l dC dI cs ad raO O a0 _ rfl) (cwV 1 hts gX3_knowsOf_X3_hasMachine rfl rfl rfl (by decide +kernel) ⟨Nat.le_of_ble_eq_true rfl, Nat.le_of_ble_eq_true rfl⟩) ⟨fun a U g mk q => ⟨q.1, (fun _ _ _ _ => cPr_bl) a U g mk q.2⟩, va_recv hK hP (ci := 4) (q0 := 0) rfl rfl, fun U hU hW => ⟨rfl, ⟨by rw [hU]; exact (hP.sub (ws' := (ww_X3_hasMachine cs ad raO O)) [0, 1, 2, 3, 4, 5, 6, 7] rfl), va_K.moved hW.alike hK, kN_warm hW hN⟩⟩⟩ rfl rfl hl.1 rfl (lv_room (Nat.le_of_ble_eq_true rfl)) dX3_knowsOf_2 ⟨Nat.le_refl _, Nat.le_refl _⟩) ?_
  refine lv_if_eq (tgt := 33) hx hb dX3_knowsOf_5 (by decide) (fun hb4 => ?_) (fun hb4 => ?_)
  · have hf := (if_pos hb4).symm.trans hf
    refine lv_iconst (v := 0) hx hb dX3_knowsOf_33 (by decide) ?_
    have hf := Option.some.inj hf
    subst hf
    exact W.zret (v := (0 : Int32)) (ty := .boolean) hx hb hr rfl (fun t ht hW => ⟨rfl, ht⟩) (fun _ h => nomatch h) dX3_knowsOf_34
  · have hf := (if_neg hb4).symm.trans hf
    refine lv_aload_n hx hb dX3_knowsOf_8 rfl (lv_at hl 0 rfl) ?_
    refine lv_iload_n hx hb dX3_knowsOf_9 rfl (lv_at hl 2 rfl) ?_
    refine ko_call (v := some (.int (f_X3_hasPhrase a1 O))) (va_runV (As := [.int a1]) (rest := []) ⟨hx, hb, hml, hown, hts⟩ (c_X3_hasPhrase l dC dI cs ad raO O a1 _ rfl) (cwV 1 hts gX3_knowsOf_X3_hasPhrase rfl rfl rfl (by decide +kernel) ⟨Nat.le_of_ble_eq_true rfl, Nat.le_of_ble_eq_true rfl⟩) ⟨fun a U g mk q => ⟨q.1, (fun _ _ _ _ => cPr_bl) a U g mk q.2⟩, va_recv hK hP (ci := 4) (q0 := 0) rfl rfl, fun U hU hW => ⟨rfl, ⟨by rw [hU]; exact (hP.sub (ws' := (ww_X3_hasPhrase cs ad raO O)) [0, 1, 2, 3, 4, 5, 6, 7] rfl), va_K.moved hW.alike hK, kN_warm hW hN⟩⟩⟩ rfl rfl hl.1 rfl (lv_room (Nat.le_of_ble_eq_true rfl)) dX3_knowsOf_10 ⟨Nat.le_refl _, Nat.le_refl _⟩) ?_
    refine lv_if_eq (tgt := 33) hx hb dX3_knowsOf_13 (by decide) (fun hb3 => ?_) (fun hb3 => ?_)
    · have hf := (if_pos hb3).symm.trans hf
      refine lv_iconst (v := 0) hx hb dX3_knowsOf_33 (by decide) ?_
      have hf := Option.some.inj hf
      subst hf
      exact W.zret (v := (0 : Int32)) (ty := .boolean) hx hb hr rfl (fun t ht hW => ⟨rfl, ht⟩) (fun _ h => nomatch h) dX3_knowsOf_34
    · have hf := (if_neg hb3).symm.trans hf
      refine lv_aload_n hx hb dX3_knowsOf_16 rfl (lv_at hl 0 rfl) ?_
      refine va_get (D := (dC, dI)) (ci := 4) (C := RX3) (T := TX3) (N := 11) hx hb hts hinX3 hown hK hP 0 rfl rfl 6 (by decide) (v := .ref (raO 6)) k_fieldLink_RX3_19__KeyLetters_Office___known____I_ (fun _ h9 => h9) rfl dX3_knowsOf_17 ?_
      refine lv_iload_n hx hb dX3_knowsOf_20 rfl (lv_at hl 1 rfl) ?_
      obtain ⟨hc1, hf⟩ := ck_e hf
      refine va_iald hx hb hK hP 3 1 rfl rfl hc1 dX3_knowsOf_21 ?_
      refine lv_iload_n hx hb dX3_knowsOf_22 rfl (lv_at hl 2 rfl) ?_
      refine ko_call (v := some (.int (f_X11_hasBit (O.1 6 a0.toNatClampNeg) a1))) (va_runSN (As := [.int (O.1 6 a0.toNatClampNeg), .int a1]) (rest := []) ⟨hx, hb, hml, hown, hts⟩ (c_X11_hasBit l dC dI cs ad (O.1 6 a0.toNatClampNeg) a1 _ rfl) ⟨va_cnB 2 hts gX3_knowsOf_X11_hasBit_n60 rfl rfl rfl (hN _ (List.mem_of_getElem? (i := 82) rfl)) k_initialized_RX11 (by decide +kernel) ⟨Nat.le_of_ble_eq_true rfl, Nat.le_of_ble_eq_true rfl⟩, k_static_yX11_hasBit, trivial⟩ ⟨fun a U g mk q => ⟨q.1, (fun _ _ _ _ => cPr_bl) a U g mk q.2⟩, fun U hU hW => ⟨rfl, ⟨by rw [hU]; exact (hP.sub (ws' := ([] : va_W)) [] rfl), va_K.moved hW.alike hK, kN_warm hW hN⟩⟩⟩ rfl rfl hl.1 rfl (lv_room (Nat.le_of_ble_eq_true rfl)) dX3_knowsOf_23 ⟨Nat.le_refl _, Nat.le_refl _⟩) ?_
      refine lv_if_eq (tgt := 33) hx hb dX3_knowsOf_26 (by decide) (fun hb2 => ?_) (fun hb2 => ?_)
      · have hf := (if_pos hb2).symm.trans hf
        refine lv_iconst (v := 0) hx hb dX3_knowsOf_33 (by decide) ?_
        have hf := Option.some.inj hf
        subst hf
        exact W.zret (v := (0 : Int32)) (ty := .boolean) hx hb hr rfl (fun t ht hW => ⟨rfl, ht⟩) (fun _ h => nomatch h) dX3_knowsOf_34
      · have hf := (if_neg hb2).symm.trans hf
        refine lv_iconst (v := 1) hx hb dX3_knowsOf_29 (by decide) ?_
        refine lv_goto (tgt := 34) hx hb dX3_knowsOf_30 (by decide) ?_
        have hf := Option.some.inj hf
        subst hf
        exact W.zret (v := (1 : Int32)) (ty := .boolean) hx hb hr rfl (fun t ht hW => ⟨rfl, ht⟩) (fun _ h => nomatch h) dX3_knowsOf_34

def ww_X3_isAnswer (cs : Nat → ClassId) (ad : Nat → Nat) (raO : Nat → Nat) (O : kD) : va_W := (wX3 cs ad raO O)
abbrev rm_X3_isAnswer : Room := { frames := 1, cells := 0, slots := 0, locals := 21 }
set_option maxHeartbeats 4000000 in
set_option maxRecDepth 100000 in
theorem c_X3_isAnswer (l : Launch) (dC : Nat → ClassId) (dI : Nat → Nat → Nat) (cs : Nat → ClassId) (ad : Nat → Nat) (raO : Nat → Nat) (O : kD) (a0 : Int32) (a1 : Int32) (r : Int32) (hf : f_X3_isAnswer a0 a1 O = some r) : Met l yX3_isAnswer wsX3_isAnswer rm_X3_isAnswer (va_Pc [.ref (raO 0), .int a0, .int a1] (cPr dC dI cs (ww_X3_isAnswer cs ad raO O))) (kQ (some (.int r))) 0 0 (kF) := by
  refine Met.ofW (cc := cX3_isAnswer) (maxL := 3) (ret := (some .boolean)) (by decide) rfl ?_
  intro p e s m args below meth c s₁ B hml hv
  obtain ⟨hav, hP, hK, hN⟩ := hv
  have hx := B.exec
  have hb := B.bytes
  have hr := B.returns
  have hts := atoms_spec (ws := wsX3_isAnswer) B.pre
  have hown : s.vm.findClass RX3 = some m.cls := findClass_of_methodNamed B.named
  have hlocks := B.notSynchronized
  have hinX3 := (show ∀ w ∈ wsX30, w ∈ wsX3_isAnswer from fun w h => List.mem_cons_of_mem _ (List.mem_append_right _ h))
  have k_fieldLink_RX3_31__KeyLetters_Office___answers____I_ := hts (.fieldLink RX3 31 "KeyLetters$Office" "answers" "[I") (List.mem_of_getElem? (i := 1) rfl)
  have k_initialized_RX11 := hts (.initialized RX11) (List.mem_of_getElem? (i := 9) rfl)
  have k_static_yX11_hasBit := hts (.static yX11_hasBit) (List.mem_of_getElem? (i := 8) rfl)
  have hl := lv_entry ([.ref (raO 0), .int a0, .int a1]) (n := 3) (Nat.le_of_ble_eq_true rfl)
  rw [show entryFrame m args 3 = entryFrame m ([.ref (raO 0), .int a0, .int a1] : List Value).toArray 3 from by rw [hav], lg_entry_eq]
  generalize (lg_sl ([.ref (raO 0), .int a0, .int a1]) ++ List.replicate (3 - (lg_sl ([.ref (raO 0), .int a0, .int a1])).length) Slot.unset).toArray = ls at hl ⊢
  have hl : lv_has ls 3 [(0, .ref (raO 0)), (1, .int a0), (2, .int a1)] := hl
  unfold f_X3_isAnswer at hf
  refine lv_aload_n hx hb dX3_isAnswer_0 rfl (lv_at hl 0 rfl) ?_
  refine lv_iload_n hx hb dX3_isAnswer_1 rfl (lv_at hl 1 rfl) ?_
  refine ko_call (v := some (.int (f_X3_hasPhrase a0 O))) (va_runV (As := [.int a0]) (rest := []) ⟨hx, hb, hml, hown, hts⟩ (c_X3_hasPhrase l dC dI cs ad raO O a0 _ rfl) (cwV 1 hts gX3_isAnswer_X3_hasPhrase rfl rfl rfl (by decide +kernel) ⟨Nat.le_of_ble_eq_true rfl, Nat.le_of_ble_eq_true rfl⟩) ⟨fun a U g mk q => ⟨q.1, (fun _ _ _ _ => cPr_bl) a U g mk q.2⟩, va_recv hK hP (ci := 4) (q0 := 0) rfl rfl, fun U hU hW => ⟨rfl, ⟨by rw [hU]; exact (hP.sub (ws' := (ww_X3_hasPhrase cs ad raO O)) [0, 1, 2, 3, 4, 5, 6, 7] rfl), va_K.moved hW.alike hK, kN_warm hW hN⟩⟩⟩ rfl rfl hl.1 rfl (lv_room (Nat.le_of_ble_eq_true rfl)) dX3_isAnswer_2 ⟨Nat.le_refl _, Nat.le_refl _⟩) ?_
  refine lv_if_eq (tgt := 33) hx hb dX3_isAnswer_5 (by decide) (fun hb4 => ?_) (fun hb4 => ?_)
  · have hf := (if_pos hb4).symm.trans hf
    refine lv_iconst (v := 0) hx hb dX3_isAnswer_33 (by decide) ?_
    have hf := Option.some.inj hf
    subst hf
    exact W.zret (v := (0 : Int32)) (ty := .boolean) hx hb hr rfl (fun t ht hW => ⟨rfl, ht⟩) (fun _ h => nomatch h) dX3_isAnswer_34
  · have hf := (if_neg hb4).symm.trans hf
    refine lv_aload_n hx hb dX3_isAnswer_8 rfl (lv_at hl 0 rfl) ?_
    refine lv_iload_n hx hb dX3_isAnswer_9 rfl (lv_at hl 2 rfl) ?_
    refine ko_call (v := some (.int (f_X3_hasPhrase a1 O))) (va_runV (As := [.int a1]) (rest := []) ⟨hx, hb, hml, hown, hts⟩ (c_X3_hasPhrase l dC dI cs ad raO O a1 _ rfl) (cwV 1 hts gX3_isAnswer_X3_hasPhrase rfl rfl rfl (by decide +kernel) ⟨Nat.le_of_ble_eq_true rfl, Nat.le_of_ble_eq_true rfl⟩) ⟨fun a U g mk q => ⟨q.1, (fun _ _ _ _ => cPr_bl) a U g mk q.2⟩, va_recv hK hP (ci := 4) (q0 := 0) rfl rfl, fun U hU hW => ⟨rfl, ⟨by rw [hU]; exact (hP.sub (ws' := (ww_X3_hasPhrase cs ad raO O)) [0, 1, 2, 3, 4, 5, 6, 7] rfl), va_K.moved hW.alike hK, kN_warm hW hN⟩⟩⟩ rfl rfl hl.1 rfl (lv_room (Nat.le_of_ble_eq_true rfl)) dX3_isAnswer_10 ⟨Nat.le_refl _, Nat.le_refl _⟩) ?_
    refine lv_if_eq (tgt := 33) hx hb dX3_isAnswer_13 (by decide) (fun hb3 => ?_) (fun hb3 => ?_)
    · have hf := (if_pos hb3).symm.trans hf
      refine lv_iconst (v := 0) hx hb dX3_isAnswer_33 (by decide) ?_
      have hf := Option.some.inj hf
      subst hf
      exact W.zret (v := (0 : Int32)) (ty := .boolean) hx hb hr rfl (fun t ht hW => ⟨rfl, ht⟩) (fun _ h => nomatch h) dX3_isAnswer_34
    · have hf := (if_neg hb3).symm.trans hf
      refine lv_aload_n hx hb dX3_isAnswer_16 rfl (lv_at hl 0 rfl) ?_
      refine va_get (D := (dC, dI)) (ci := 4) (C := RX3) (T := TX3) (N := 11) hx hb hts hinX3 hown hK hP 0 rfl rfl 10 (by decide) (v := .ref (raO 10)) k_fieldLink_RX3_31__KeyLetters_Office___answers____I_ (fun _ h9 => h9) rfl dX3_isAnswer_17 ?_
      refine lv_iload_n hx hb dX3_isAnswer_20 rfl (lv_at hl 2 rfl) ?_
      obtain ⟨hc1, hf⟩ := ck_e hf
      refine va_iald hx hb hK hP 7 1 rfl rfl hc1 dX3_isAnswer_21 ?_
      refine lv_iload_n hx hb dX3_isAnswer_22 rfl (lv_at hl 1 rfl) ?_
      refine ko_call (v := some (.int (f_X11_hasBit (O.1 10 a1.toNatClampNeg) a0))) (va_runSN (As := [.int (O.1 10 a1.toNatClampNeg), .int a0]) (rest := []) ⟨hx, hb, hml, hown, hts⟩ (c_X11_hasBit l dC dI cs ad (O.1 10 a1.toNatClampNeg) a0 _ rfl) ⟨va_cnB 2 hts gX3_isAnswer_X11_hasBit_n60 rfl rfl rfl (hN _ (List.mem_of_getElem? (i := 82) rfl)) k_initialized_RX11 (by decide +kernel) ⟨Nat.le_of_ble_eq_true rfl, Nat.le_of_ble_eq_true rfl⟩, k_static_yX11_hasBit, trivial⟩ ⟨fun a U g mk q => ⟨q.1, (fun _ _ _ _ => cPr_bl) a U g mk q.2⟩, fun U hU hW => ⟨rfl, ⟨by rw [hU]; exact (hP.sub (ws' := ([] : va_W)) [] rfl), va_K.moved hW.alike hK, kN_warm hW hN⟩⟩⟩ rfl rfl hl.1 rfl (lv_room (Nat.le_of_ble_eq_true rfl)) dX3_isAnswer_23 ⟨Nat.le_refl _, Nat.le_refl _⟩) ?_
      refine lv_if_eq (tgt := 33) hx hb dX3_isAnswer_26 (by decide) (fun hb2 => ?_) (fun hb2 => ?_)
      · have hf := (if_pos hb2).symm.trans hf
        refine lv_iconst (v := 0) hx hb dX3_isAnswer_33 (by decide) ?_
        have hf := Option.some.inj hf
        subst hf
        exact W.zret (v := (0 : Int32)) (ty := .boolean) hx hb hr rfl (fun t ht hW => ⟨rfl, ht⟩) (fun _ h => nomatch h) dX3_isAnswer_34
      · have hf := (if_neg hb2).symm.trans hf
        refine lv_iconst (v := 1) hx hb dX3_isAnswer_29 (by decide) ?_
        refine lv_goto (tgt := 34) hx hb dX3_isAnswer_30 (by decide) ?_
        have hf := Option.some.inj hf
        subst hf
        exact W.zret (v := (1 : Int32)) (ty := .boolean) hx hb hr rfl (fun t ht hW => ⟨rfl, ht⟩) (fun _ h => nomatch h) dX3_isAnswer_34

def ww_X9_whyNotWrite (cs : Nat → ClassId) (ad : Nat → Nat) (raS : Nat → Nat) (raO : Nat → Nat) (S : kD) (O : kD) : va_W := (wX9 cs ad raS S ++ (wX3 cs ad raO O))
abbrev rm_X9_whyNotWrite : Room := { frames := 2, cells := 0, slots := 0, locals := 43 }
set_option maxHeartbeats 4000000 in
set_option maxRecDepth 100000 in
theorem c_X9_whyNotWrite (l : Launch) (dC : Nat → ClassId) (dI : Nat → Nat → Nat) (cs : Nat → ClassId) (ad : Nat → Nat) (raS : Nat → Nat) (raO : Nat → Nat) (S : kD) (O : kD) (a1 : Int32) (a2 : Int32) (r : Int32) (hf : f_X9_whyNotWrite a1 a2 S O = some r) : Met l yX9_whyNotWrite wsX9_whyNotWrite rm_X9_whyNotWrite (va_Pc [.ref (raS 0), .ref (raO 0), .int a1, .int a2] (cPr dC dI cs (ww_X9_whyNotWrite cs ad raS raO S O))) (kQ (some (.int r))) 0 0 (kF) := by
  refine Met.ofW (cc := cX9_whyNotWrite) (maxL := 4) (ret := (some .int)) (by decide) rfl ?_
  intro p e s m args below meth c s₁ B hml hv
  obtain ⟨hav, hP, hK, hN⟩ := hv
  have hx := B.exec
  have hb := B.bytes
  have hr := B.returns
  have hts := atoms_spec (ws := wsX9_whyNotWrite) B.pre
  have hown : s.vm.findClass RX9 = some m.cls := findClass_of_methodNamed B.named
  have hlocks := B.notSynchronized
  have hinX3 := (show ∀ w ∈ wsX30, w ∈ wsX9_whyNotWrite from fun w h => List.mem_cons_of_mem _ (List.mem_append_right _ h))
  have hinX9 := (show ∀ w ∈ wsX90, w ∈ wsX9_whyNotWrite from fun w h => List.mem_cons_of_mem _ (List.mem_append_left _ (List.mem_append_right _ h)))
  have k_fieldLink_RX9_24__KeyLetters_State___latest___I_ := hts (.fieldLink RX9 24 "KeyLetters$State" "latest" "I") (List.mem_of_getElem? (i := 1) rfl)
  have k_fieldLink_RX9_28__KeyLetters_State___writer___I_ := hts (.fieldLink RX9 28 "KeyLetters$State" "writer" "I") (List.mem_of_getElem? (i := 2) rfl)
  have k_fieldLink_RX9_9__KeyLetters_State___ink____I_ := hts (.fieldLink RX9 9 "KeyLetters$State" "ink" "[I") (List.mem_of_getElem? (i := 3) rfl)
  have k_initialized_RX3 := hts (.initialized RX3) (List.mem_of_getElem? (i := 5) rfl)
  have k_instanceMethod_yX3_hasMachine := hts (.instanceMethod yX3_hasMachine) (List.mem_of_getElem? (i := 4) rfl)
  have k_instanceMethod_yX3_hasPhrase := hts (.instanceMethod yX3_hasPhrase) (List.mem_of_getElem? (i := 9) rfl)
  have k_instanceMethod_yX3_isAnswer := hts (.instanceMethod yX3_isAnswer) (List.mem_of_getElem? (i := 28) rfl)
  have k_instanceMethod_yX3_knowsOf := hts (.instanceMethod yX3_knowsOf) (List.mem_of_getElem? (i := 22) rfl)
  have k_selects_RX3_yX3_hasMachine_yX3_hasMachine := hts (.selects RX3 yX3_hasMachine yX3_hasMachine) (List.mem_of_getElem? (i := 6) rfl)
  have k_selects_RX3_yX3_hasPhrase_yX3_hasPhrase := hts (.selects RX3 yX3_hasPhrase yX3_hasPhrase) (List.mem_of_getElem? (i := 10) rfl)
  have k_selects_RX3_yX3_isAnswer_yX3_isAnswer := hts (.selects RX3 yX3_isAnswer yX3_isAnswer) (List.mem_of_getElem? (i := 29) rfl)
  have k_selects_RX3_yX3_knowsOf_yX3_knowsOf := hts (.selects RX3 yX3_knowsOf yX3_knowsOf) (List.mem_of_getElem? (i := 23) rfl)
  have hl := lv_entry ([.ref (raS 0), .ref (raO 0), .int a1, .int a2]) (n := 4) (Nat.le_of_ble_eq_true rfl)
  rw [show entryFrame m args 4 = entryFrame m ([.ref (raS 0), .ref (raO 0), .int a1, .int a2] : List Value).toArray 4 from by rw [hav], lg_entry_eq]
  generalize (lg_sl ([.ref (raS 0), .ref (raO 0), .int a1, .int a2]) ++ List.replicate (4 - (lg_sl ([.ref (raS 0), .ref (raO 0), .int a1, .int a2])).length) Slot.unset).toArray = ls at hl ⊢
  have hl : lv_has ls 4 [(0, .ref (raS 0)), (1, .ref (raO 0)), (2, .int a1), (3, .int a2)] := hl
  unfold f_X9_whyNotWrite at hf
  have h_46 : ∀ (x2_46 : Int32) (x3_46 : Int32) (ls : Array Slot), lv_has ls 4 [(0, .ref (raS 0)), (1, .ref (raO 0)), (2, .int x2_46), (3, .int x3_46)] → g_X9_whyNotWrite_46 S O x2_46 x3_46 = some r → W p l e (headSpec wsX9_whyNotWrite rm_X9_whyNotWrite).room s m args below meth c s.heap [] 0 0 (MQ below (kQ (some (.int r))) args s 0 0 (kF)) (F0 m 46 ls []) := by
    intro x2_46 x3_46 ls hl hf
    unfold g_X9_whyNotWrite_46 at hf
    have h_79 : ∀ (x2_79 : Int32) (x3_79 : Int32) (ls : Array Slot), lv_has ls 4 [(0, .ref (raS 0)), (1, .ref (raO 0)), (2, .int x2_79), (3, .int x3_79)] → g_X9_whyNotWrite_79 S O x2_79 x3_79 = some r → W p l e (headSpec wsX9_whyNotWrite rm_X9_whyNotWrite).room s m args below meth c s.heap [] 0 0 (MQ below (kQ (some (.int r))) args s 0 0 (kF)) (F0 m 79 ls []) := by
      intro x2_79 x3_79 ls hl hf
      unfold g_X9_whyNotWrite_79 at hf
      refine lv_aload_n hx hb dX9_whyNotWrite_79 rfl (lv_at hl 0 rfl) ?_
      refine va_get (D := (dC, dI)) (ci := 10) (C := RX9) (T := TX9) (N := 9) hx hb hts hinX9 hown hK hP 0 rfl rfl 5 (by decide) (v := .ref (raS 5)) k_fieldLink_RX9_9__KeyLetters_State___ink____I_ (fun _ h9 => h9) rfl dX9_whyNotWrite_80 ?_
      refine lv_iload_n hx hb dX9_whyNotWrite_83 rfl (lv_at hl 2 rfl) ?_
      obtain ⟨hc1, hf⟩ := ck_e hf
      refine va_iald hx hb hK hP 1 1 rfl rfl hc1 dX9_whyNotWrite_84 ?_
      refine lv_aload_n hx hb dX9_whyNotWrite_85 rfl (lv_at hl 1 rfl) ?_
      refine va_getN (D := (dC, dI)) (ci := 4) (C := RX3) (T := TX3) (N := 11) hx hb hts hinX3 hown hK hP 5 rfl rfl 8 (by decide) (v := .ref (raO 8)) (va_Nw.use rfl (hN _ (List.mem_of_getElem? (i := 29) rfl))) (fun _ h9 => h9) rfl dX9_whyNotWrite_86 ?_
      refine lv_iload_n hx hb dX9_whyNotWrite_89 rfl (lv_at hl 3 rfl) ?_
      obtain ⟨hc2, hf⟩ := ck_e hf
      refine va_iald hx hb hK hP 10 1 rfl rfl hc2 dX9_whyNotWrite_90 ?_
      refine lv_icmp_ge (tgt := 98) hx hb dX9_whyNotWrite_91 (by decide) (fun hb3 => ?_) (fun hb3 => ?_)
      · have hf := (if_pos hb3).symm.trans hf
        refine lv_iconst (v := 0) hx hb dX9_whyNotWrite_98 (by decide) ?_
        have hf := Option.some.inj hf
        subst hf
        exact W.iret (v := (0 : Int32)) hx hb hr (fun t ht hW => ⟨rfl, ht⟩) (fun _ h => nomatch h) dX9_whyNotWrite_99
      · have hf := (if_neg hb3).symm.trans hf
        refine lv_iconst (v := 5) hx hb dX9_whyNotWrite_94 (by decide) ?_
        refine lv_goto (tgt := 99) hx hb dX9_whyNotWrite_95 (by decide) ?_
        have hf := Option.some.inj hf
        subst hf
        exact W.iret (v := (5 : Int32)) hx hb hr (fun t ht hW => ⟨rfl, ht⟩) (fun _ h => nomatch h) dX9_whyNotWrite_99
    refine lv_aload_n hx hb dX9_whyNotWrite_46 rfl (lv_at hl 1 rfl) ?_
    refine lv_iload_n hx hb dX9_whyNotWrite_47 rfl (lv_at hl 2 rfl) ?_
    refine lv_iload_n hx hb dX9_whyNotWrite_48 rfl (lv_at hl 3 rfl) ?_
    obtain ⟨v5, hq4, hf⟩ := bo_e hf
    refine ko_call (v := some (.int v5)) (va_runVN (As := [.int x2_46, .int x3_46]) (rest := []) ⟨hx, hb, hml, hown, hts⟩ (c_X3_knowsOf l dC dI cs ad raO O x2_46 x3_46 v5 hq4) ⟨va_cnB 2 hts gX9_whyNotWrite_X3_knowsOf_n79 rfl rfl rfl (hN _ (List.mem_of_getElem? (i := 99) rfl)) k_initialized_RX3 (by decide +kernel) ⟨Nat.le_of_ble_eq_true rfl, Nat.le_of_ble_eq_true rfl⟩, k_instanceMethod_yX3_knowsOf, k_selects_RX3_yX3_knowsOf_yX3_knowsOf⟩ ⟨fun a U g mk q => ⟨q.1, (fun _ _ _ _ => cPr_bl) a U g mk q.2⟩, va_recv hK hP (ci := 4) (q0 := 5) rfl rfl, fun U hU hW => ⟨rfl, ⟨by rw [hU]; exact (hP.sub (ws' := (ww_X3_knowsOf cs ad raO O)) [5, 6, 7, 8, 9, 10, 11, 12] rfl), va_K.moved hW.alike hK, kN_warm hW hN⟩⟩⟩ rfl rfl hl.1 rfl (lv_room (Nat.le_of_ble_eq_true rfl)) dX9_whyNotWrite_49 ⟨Nat.le_refl _, Nat.le_refl _⟩) ?_
    refine lv_if_ne (tgt := 57) hx hb dX9_whyNotWrite_52 (by decide) (fun hb10 => ?_) (fun hb10 => ?_)
    · have hf := (if_neg hb10).symm.trans hf
      refine lv_aload_n hx hb dX9_whyNotWrite_57 rfl (lv_at hl 0 rfl) ?_
      refine va_get (D := (dC, dI)) (ci := 10) (C := RX9) (T := TX9) (N := 9) hx hb hts hinX9 hown hK hP 0 rfl rfl 1 (by decide) (v := .int (S.1 0 1)) k_fieldLink_RX9_24__KeyLetters_State___latest___I_ (fun _ h9 => h9) rfl dX9_whyNotWrite_58 ?_
      refine lv_iconst (v := -1) hx hb dX9_whyNotWrite_61 (by decide) ?_
      refine lv_icmp_eq (tgt := 79) hx hb dX9_whyNotWrite_62 (by decide) (fun hb9 => ?_) (fun hb9 => ?_)
      · have hf := (if_pos hb9).symm.trans hf
        exact h_79 x2_46 x3_46 ls hl hf
      · have hf := (if_neg hb9).symm.trans hf
        refine lv_aload_n hx hb dX9_whyNotWrite_65 rfl (lv_at hl 1 rfl) ?_
        refine lv_iload_n hx hb dX9_whyNotWrite_66 rfl (lv_at hl 3 rfl) ?_
        refine lv_aload_n hx hb dX9_whyNotWrite_67 rfl (lv_at hl 0 rfl) ?_
        refine va_get (D := (dC, dI)) (ci := 10) (C := RX9) (T := TX9) (N := 9) hx hb hts hinX9 hown hK hP 0 rfl rfl 1 (by decide) (v := .int (S.1 0 1)) k_fieldLink_RX9_24__KeyLetters_State___latest___I_ (fun _ h9 => h9) rfl dX9_whyNotWrite_68 ?_
        obtain ⟨v7, hq6, hf⟩ := bo_e hf
        refine ko_call (v := some (.int v7)) (va_runVN (As := [.int x3_46, .int (S.1 0 1)]) (rest := []) ⟨hx, hb, hml, hown, hts⟩ (c_X3_isAnswer l dC dI cs ad raO O x3_46 (S.1 0 1) v7 hq6) ⟨va_cnB 2 hts gX9_whyNotWrite_X3_isAnswer_n82 rfl rfl rfl (hN _ (List.mem_of_getElem? (i := 100) rfl)) k_initialized_RX3 (by decide +kernel) ⟨Nat.le_of_ble_eq_true rfl, Nat.le_of_ble_eq_true rfl⟩, k_instanceMethod_yX3_isAnswer, k_selects_RX3_yX3_isAnswer_yX3_isAnswer⟩ ⟨fun a U g mk q => ⟨q.1, (fun _ _ _ _ => cPr_bl) a U g mk q.2⟩, va_recv hK hP (ci := 4) (q0 := 5) rfl rfl, fun U hU hW => ⟨rfl, ⟨by rw [hU]; exact (hP.sub (ws' := (ww_X3_isAnswer cs ad raO O)) [5, 6, 7, 8, 9, 10, 11, 12] rfl), va_K.moved hW.alike hK, kN_warm hW hN⟩⟩⟩ rfl rfl hl.1 rfl (lv_room (Nat.le_of_ble_eq_true rfl)) dX9_whyNotWrite_71 ⟨Nat.le_refl _, Nat.le_refl _⟩) ?_
        refine lv_if_ne (tgt := 79) hx hb dX9_whyNotWrite_74 (by decide) (fun hb8 => ?_) (fun hb8 => ?_)
        · have hf := (if_neg hb8).symm.trans hf
          exact h_79 x2_46 x3_46 ls hl hf
        · have hf := (if_pos hb8).symm.trans hf
          refine lv_iconst (v := 4) hx hb dX9_whyNotWrite_77 (by decide) ?_
          have hf := Option.some.inj hf
          subst hf
          exact W.iret (v := (4 : Int32)) hx hb hr (fun t ht hW => ⟨rfl, ht⟩) (fun _ h => nomatch h) dX9_whyNotWrite_78
    · have hf := (if_pos hb10).symm.trans hf
      refine lv_iconst (v := 3) hx hb dX9_whyNotWrite_55 (by decide) ?_
      have hf := Option.some.inj hf
      subst hf
      exact W.iret (v := (3 : Int32)) hx hb hr (fun t ht hW => ⟨rfl, ht⟩) (fun _ h => nomatch h) dX9_whyNotWrite_56
  refine lv_aload_n hx hb dX9_whyNotWrite_0 rfl (lv_at hl 1 rfl) ?_
  refine lv_iload_n hx hb dX9_whyNotWrite_1 rfl (lv_at hl 2 rfl) ?_
  refine ko_call (v := some (.int (f_X3_hasMachine a1 O))) (va_runVN (As := [.int a1]) (rest := []) ⟨hx, hb, hml, hown, hts⟩ (c_X3_hasMachine l dC dI cs ad raO O a1 _ rfl) ⟨va_cnB 1 hts gX9_whyNotWrite_X3_hasMachine_n65 rfl rfl rfl (hN _ (List.mem_of_getElem? (i := 96) rfl)) k_initialized_RX3 (by decide +kernel) ⟨Nat.le_of_ble_eq_true rfl, Nat.le_of_ble_eq_true rfl⟩, k_instanceMethod_yX3_hasMachine, k_selects_RX3_yX3_hasMachine_yX3_hasMachine⟩ ⟨fun a U g mk q => ⟨q.1, (fun _ _ _ _ => cPr_bl) a U g mk q.2⟩, va_recv hK hP (ci := 4) (q0 := 5) rfl rfl, fun U hU hW => ⟨rfl, ⟨by rw [hU]; exact (hP.sub (ws' := (ww_X3_hasMachine cs ad raO O)) [5, 6, 7, 8, 9, 10, 11, 12] rfl), va_K.moved hW.alike hK, kN_warm hW hN⟩⟩⟩ rfl rfl hl.1 rfl (lv_room (Nat.le_of_ble_eq_true rfl)) dX9_whyNotWrite_2 ⟨Nat.le_refl _, Nat.le_refl _⟩) ?_
  refine lv_if_eq (tgt := 16) hx hb dX9_whyNotWrite_5 (by decide) (fun hb15 => ?_) (fun hb15 => ?_)
  · have hf := (if_pos hb15).symm.trans hf
    refine lv_iconst (v := -1) hx hb dX9_whyNotWrite_16 (by decide) ?_
    have hf := Option.some.inj hf
    subst hf
    exact W.iret (v := (-1 : Int32)) hx hb hr (fun t ht hW => ⟨rfl, ht⟩) (fun _ h => nomatch h) dX9_whyNotWrite_17
  · have hf := (if_neg hb15).symm.trans hf
    refine lv_aload_n hx hb dX9_whyNotWrite_8 rfl (lv_at hl 1 rfl) ?_
    refine lv_iload_n hx hb dX9_whyNotWrite_9 rfl (lv_at hl 3 rfl) ?_
    refine ko_call (v := some (.int (f_X3_hasPhrase a2 O))) (va_runVN (As := [.int a2]) (rest := []) ⟨hx, hb, hml, hown, hts⟩ (c_X3_hasPhrase l dC dI cs ad raO O a2 _ rfl) ⟨va_cnB 1 hts gX9_whyNotWrite_X3_hasPhrase_n76 rfl rfl rfl (hN _ (List.mem_of_getElem? (i := 97) rfl)) k_initialized_RX3 (by decide +kernel) ⟨Nat.le_of_ble_eq_true rfl, Nat.le_of_ble_eq_true rfl⟩, k_instanceMethod_yX3_hasPhrase, k_selects_RX3_yX3_hasPhrase_yX3_hasPhrase⟩ ⟨fun a U g mk q => ⟨q.1, (fun _ _ _ _ => cPr_bl) a U g mk q.2⟩, va_recv hK hP (ci := 4) (q0 := 5) rfl rfl, fun U hU hW => ⟨rfl, ⟨by rw [hU]; exact (hP.sub (ws' := (ww_X3_hasPhrase cs ad raO O)) [5, 6, 7, 8, 9, 10, 11, 12] rfl), va_K.moved hW.alike hK, kN_warm hW hN⟩⟩⟩ rfl rfl hl.1 rfl (lv_room (Nat.le_of_ble_eq_true rfl)) dX9_whyNotWrite_10 ⟨Nat.le_refl _, Nat.le_refl _⟩) ?_
    refine lv_if_ne (tgt := 18) hx hb dX9_whyNotWrite_13 (by decide) (fun hb14 => ?_) (fun hb14 => ?_)
    · have hf := (if_neg hb14).symm.trans hf
      refine lv_aload_n hx hb dX9_whyNotWrite_18 rfl (lv_at hl 0 rfl) ?_
      refine lv_iload_n hx hb dX9_whyNotWrite_19 rfl (lv_at hl 2 rfl) ?_
      refine ko_call (v := some (.int (f_X9_isHeld a1 S))) (va_runV (As := [.int a1]) (rest := []) ⟨hx, hb, hml, hown, hts⟩ (c_X9_isHeld l dC dI cs ad raS S a1 _ rfl) (cwV 1 hts gX9_whyNotWrite_X9_isHeld rfl rfl rfl (by decide +kernel) ⟨Nat.le_of_ble_eq_true rfl, Nat.le_of_ble_eq_true rfl⟩) ⟨fun a U g mk q => ⟨q.1, (fun _ _ _ _ => cPr_bl) a U g mk q.2⟩, va_recv hK hP (ci := 10) (q0 := 0) rfl rfl, fun U hU hW => ⟨rfl, ⟨by rw [hU]; exact (hP.sub (ws' := (ww_X9_isHeld cs ad raS S)) [0, 1, 2, 3, 4] rfl), va_K.moved hW.alike hK, kN_warm hW hN⟩⟩⟩ rfl rfl hl.1 rfl (lv_room (Nat.le_of_ble_eq_true rfl)) dX9_whyNotWrite_20 ⟨Nat.le_refl _, Nat.le_refl _⟩) ?_
      refine lv_if_eq (tgt := 28) hx hb dX9_whyNotWrite_23 (by decide) (fun hb13 => ?_) (fun hb13 => ?_)
      · have hf := (if_pos hb13).symm.trans hf
        refine lv_aload_n hx hb dX9_whyNotWrite_28 rfl (lv_at hl 0 rfl) ?_
        refine va_get (D := (dC, dI)) (ci := 10) (C := RX9) (T := TX9) (N := 9) hx hb hts hinX9 hown hK hP 0 rfl rfl 1 (by decide) (v := .int (S.1 0 1)) k_fieldLink_RX9_24__KeyLetters_State___latest___I_ (fun _ h9 => h9) rfl dX9_whyNotWrite_29 ?_
        refine lv_iconst (v := -1) hx hb dX9_whyNotWrite_32 (by decide) ?_
        refine lv_icmp_eq (tgt := 46) hx hb dX9_whyNotWrite_33 (by decide) (fun hb12 => ?_) (fun hb12 => ?_)
        · have hf := (if_pos hb12).symm.trans hf
          exact h_46 a1 a2 ls hl hf
        · have hf := (if_neg hb12).symm.trans hf
          refine lv_aload_n hx hb dX9_whyNotWrite_36 rfl (lv_at hl 0 rfl) ?_
          refine va_get (D := (dC, dI)) (ci := 10) (C := RX9) (T := TX9) (N := 9) hx hb hts hinX9 hown hK hP 0 rfl rfl 2 (by decide) (v := .int (S.1 0 2)) k_fieldLink_RX9_28__KeyLetters_State___writer___I_ (fun _ h9 => h9) rfl dX9_whyNotWrite_37 ?_
          refine lv_iload_n hx hb dX9_whyNotWrite_40 rfl (lv_at hl 2 rfl) ?_
          refine lv_icmp_ne (tgt := 46) hx hb dX9_whyNotWrite_41 (by decide) (fun hb11 => ?_) (fun hb11 => ?_)
          · have hf := (if_neg hb11).symm.trans hf
            exact h_46 a1 a2 ls hl hf
          · have hf := (if_pos hb11).symm.trans hf
            refine lv_iconst (v := 2) hx hb dX9_whyNotWrite_44 (by decide) ?_
            have hf := Option.some.inj hf
            subst hf
            exact W.iret (v := (2 : Int32)) hx hb hr (fun t ht hW => ⟨rfl, ht⟩) (fun _ h => nomatch h) dX9_whyNotWrite_45
      · have hf := (if_neg hb13).symm.trans hf
        refine lv_iconst (v := 1) hx hb dX9_whyNotWrite_26 (by decide) ?_
        have hf := Option.some.inj hf
        subst hf
        exact W.iret (v := (1 : Int32)) hx hb hr (fun t ht hW => ⟨rfl, ht⟩) (fun _ h => nomatch h) dX9_whyNotWrite_27
    · have hf := (if_pos hb14).symm.trans hf
      refine lv_iconst (v := -1) hx hb dX9_whyNotWrite_16 (by decide) ?_
      have hf := Option.some.inj hf
      subst hf
      exact W.iret (v := (-1 : Int32)) hx hb hr (fun t ht hW => ⟨rfl, ht⟩) (fun _ h => nomatch h) dX9_whyNotWrite_17

def ww_X9_whyNot (cs : Nat → ClassId) (ad : Nat → Nat) (raS : Nat → Nat) (raO : Nat → Nat) (S : kD) (O : kD) : va_W := (wX9 cs ad raS S ++ (wX3 cs ad raO O))
abbrev rm_X9_whyNot : Room := { frames := 3, cells := 0, slots := 0, locals := 66 }
set_option maxHeartbeats 4000000 in
set_option maxRecDepth 100000 in
theorem c_X9_whyNot (l : Launch) (dC : Nat → ClassId) (dI : Nat → Nat → Nat) (cs : Nat → ClassId) (ad : Nat → Nat) (raS : Nat → Nat) (raO : Nat → Nat) (S : kD) (O : kD) (a1 : Int32) (a2 : Int32) (a3 : Int32) (r : Int32) (hf : f_X9_whyNot a1 a2 a3 S O = some r) : Met l yX9_whyNot wsX9_whyNot rm_X9_whyNot (va_Pc [.ref (raS 0), .ref (raO 0), .int a1, .int a2, .int a3] (cPr dC dI cs (ww_X9_whyNot cs ad raS raO S O))) (kQ (some (.int r))) 0 0 (kF) := by
  refine Met.ofW (cc := cX9_whyNot) (maxL := 5) (ret := (some .int)) (by decide) rfl ?_
  intro p e s m args below meth c s₁ B hml hv
  obtain ⟨hav, hP, hK, hN⟩ := hv
  have hx := B.exec
  have hb := B.bytes
  have hr := B.returns
  have hts := atoms_spec (ws := wsX9_whyNot) B.pre
  have hown : s.vm.findClass RX9 = some m.cls := findClass_of_methodNamed B.named
  have hlocks := B.notSynchronized
  have hinX9 := (show ∀ w ∈ wsX90, w ∈ wsX9_whyNot from fun w h => List.mem_cons_of_mem _ (List.mem_append_left _ (List.mem_append_right _ h)))
  have k_fieldLink_RX9_9__KeyLetters_State___ink____I_ := hts (.fieldLink RX9 9 "KeyLetters$State" "ink" "[I") (List.mem_of_getElem? (i := 1) rfl)
  have k_initialized_RX3 := hts (.initialized RX3) (List.mem_of_getElem? (i := 18) rfl)
  have k_instanceMethod_yX3_hasMachine := hts (.instanceMethod yX3_hasMachine) (List.mem_of_getElem? (i := 17) rfl)
  have k_selects_RX3_yX3_hasMachine_yX3_hasMachine := hts (.selects RX3 yX3_hasMachine yX3_hasMachine) (List.mem_of_getElem? (i := 19) rfl)
  have hl := lv_entry ([.ref (raS 0), .ref (raO 0), .int a1, .int a2, .int a3]) (n := 5) (Nat.le_of_ble_eq_true rfl)
  rw [show entryFrame m args 5 = entryFrame m ([.ref (raS 0), .ref (raO 0), .int a1, .int a2, .int a3] : List Value).toArray 5 from by rw [hav], lg_entry_eq]
  generalize (lg_sl ([.ref (raS 0), .ref (raO 0), .int a1, .int a2, .int a3]) ++ List.replicate (5 - (lg_sl ([.ref (raS 0), .ref (raO 0), .int a1, .int a2, .int a3])).length) Slot.unset).toArray = ls at hl ⊢
  have hl : lv_has ls 5 [(0, .ref (raS 0)), (1, .ref (raO 0)), (2, .int a1), (3, .int a2), (4, .int a3)] := hl
  unfold f_X9_whyNot at hf
  refine lv_iload_n hx hb dX9_whyNot_0 rfl (lv_at hl 2 rfl) ?_
  refine lv_bipush (v := 40) hx hb dX9_whyNot_1 (by decide) ?_
  refine lv_icmp_ne (tgt := 19) hx hb dX9_whyNot_3 (by decide) (fun hb18 => ?_) (fun hb18 => ?_)
  · have hf := (if_neg hb18).symm.trans hf
    refine lv_iload_n hx hb dX9_whyNot_19 rfl (lv_at hl 2 rfl) ?_
    refine lv_bipush (v := 50) hx hb dX9_whyNot_20 (by decide) ?_
    refine lv_icmp_ne (tgt := 40) hx hb dX9_whyNot_22 (by decide) (fun hb14 => ?_) (fun hb14 => ?_)
    · have hf := (if_neg hb14).symm.trans hf
      refine lv_aload_n hx hb dX9_whyNot_40 rfl (lv_at hl 1 rfl) ?_
      refine lv_iload_n hx hb dX9_whyNot_41 rfl (lv_at hl 3 rfl) ?_
      refine ko_call (v := some (.int (f_X3_hasMachine a2 O))) (va_runVN (As := [.int a2]) (rest := []) ⟨hx, hb, hml, hown, hts⟩ (c_X3_hasMachine l dC dI cs ad raO O a2 _ rfl) ⟨va_cnB 1 hts gX9_whyNot_X3_hasMachine_n65 rfl rfl rfl (hN _ (List.mem_of_getElem? (i := 96) rfl)) k_initialized_RX3 (by decide +kernel) ⟨Nat.le_of_ble_eq_true rfl, Nat.le_of_ble_eq_true rfl⟩, k_instanceMethod_yX3_hasMachine, k_selects_RX3_yX3_hasMachine_yX3_hasMachine⟩ ⟨fun a U g mk q => ⟨q.1, (fun _ _ _ _ => cPr_bl) a U g mk q.2⟩, va_recv hK hP (ci := 4) (q0 := 5) rfl rfl, fun U hU hW => ⟨rfl, ⟨by rw [hU]; exact (hP.sub (ws' := (ww_X3_hasMachine cs ad raO O)) [5, 6, 7, 8, 9, 10, 11, 12] rfl), va_K.moved hW.alike hK, kN_warm hW hN⟩⟩⟩ rfl rfl hl.1 rfl (lv_room (Nat.le_of_ble_eq_true rfl)) dX9_whyNot_42 ⟨Nat.le_refl _, Nat.le_refl _⟩) ?_
      refine lv_if_ne (tgt := 50) hx hb dX9_whyNot_45 (by decide) (fun hb12 => ?_) (fun hb12 => ?_)
      · have hf := (if_neg hb12).symm.trans hf
        refine lv_iload_n hx hb dX9_whyNot_50 rfl (lv_at hl 2 rfl) ?_
        refine lv_if_ne (tgt := 63) hx hb dX9_whyNot_51 (by decide) (fun hb11 => ?_) (fun hb11 => ?_)
        · have hf := (if_neg hb11).symm.trans hf
          refine lv_iload_n hx hb dX9_whyNot_63 rfl (lv_at hl 2 rfl) ?_
          refine lv_bipush (v := 10) hx hb dX9_whyNot_64 (by decide) ?_
          refine lv_icmp_ne (tgt := 83) hx hb dX9_whyNot_66 (by decide) (fun hb8 => ?_) (fun hb8 => ?_)
          · have hf := (if_neg hb8).symm.trans hf
            refine lv_iload_n hx hb dX9_whyNot_83 rfl (lv_at hl 2 rfl) ?_
            refine lv_bipush (v := 20) hx hb dX9_whyNot_84 (by decide) ?_
            refine lv_icmp_ne (tgt := 103) hx hb dX9_whyNot_86 (by decide) (fun hb6 => ?_) (fun hb6 => ?_)
            · have hf := (if_neg hb6).symm.trans hf
              refine lv_iload hx hb dX9_whyNot_103 (lv_at hl 4 rfl) ?_
              refine lv_iconst (v := 1) hx hb dX9_whyNot_105 (by decide) ?_
              refine lv_icmp_lt (tgt := 117) hx hb dX9_whyNot_106 (by decide) (fun hb4 => ?_) (fun hb4 => ?_)
              · have hf := (if_pos hb4).symm.trans hf
                refine lv_iconst (v := -1) hx hb dX9_whyNot_117 (by decide) ?_
                have hf := Option.some.inj hf
                subst hf
                exact W.iret (v := (-1 : Int32)) hx hb hr (fun t ht hW => ⟨rfl, ht⟩) (fun _ h => nomatch h) dX9_whyNot_118
              · have hf := (if_neg hb4).symm.trans hf
                refine lv_iload hx hb dX9_whyNot_109 (lv_at hl 4 rfl) ?_
                refine lv_sipush (v := 999) hx hb dX9_whyNot_111 (by decide) ?_
                refine lv_icmp_le (tgt := 119) hx hb dX9_whyNot_114 (by decide) (fun hb3 => ?_) (fun hb3 => ?_)
                · have hf := (if_pos hb3).symm.trans hf
                  refine lv_aload_n hx hb dX9_whyNot_119 rfl (lv_at hl 0 rfl) ?_
                  refine va_get (D := (dC, dI)) (ci := 10) (C := RX9) (T := TX9) (N := 9) hx hb hts hinX9 hown hK hP 0 rfl rfl 5 (by decide) (v := .ref (raS 5)) k_fieldLink_RX9_9__KeyLetters_State___ink____I_ (fun _ h9 => h9) rfl dX9_whyNot_120 ?_
                  refine lv_iload_n hx hb dX9_whyNot_123 rfl (lv_at hl 3 rfl) ?_
                  obtain ⟨hc1, hf⟩ := ck_e hf
                  refine va_iald hx hb hK hP 1 1 rfl rfl hc1 dX9_whyNot_124 ?_
                  refine lv_iload hx hb dX9_whyNot_125 (lv_at hl 4 rfl) ?_
                  refine lv_icmp_lt (tgt := 134) hx hb dX9_whyNot_127 (by decide) (fun hb2 => ?_) (fun hb2 => ?_)
                  · have hf := (if_pos hb2).symm.trans hf
                    refine lv_iconst (v := 0) hx hb dX9_whyNot_134 (by decide) ?_
                    have hf := Option.some.inj hf
                    subst hf
                    exact W.iret (v := (0 : Int32)) hx hb hr (fun t ht hW => ⟨rfl, ht⟩) (fun _ h => nomatch h) dX9_whyNot_135
                  · have hf := (if_neg hb2).symm.trans hf
                    refine lv_iconst (v := 1) hx hb dX9_whyNot_130 (by decide) ?_
                    refine lv_goto (tgt := 135) hx hb dX9_whyNot_131 (by decide) ?_
                    have hf := Option.some.inj hf
                    subst hf
                    exact W.iret (v := (1 : Int32)) hx hb hr (fun t ht hW => ⟨rfl, ht⟩) (fun _ h => nomatch h) dX9_whyNot_135
                · have hf := (if_neg hb3).symm.trans hf
                  refine lv_iconst (v := -1) hx hb dX9_whyNot_117 (by decide) ?_
                  have hf := Option.some.inj hf
                  subst hf
                  exact W.iret (v := (-1 : Int32)) hx hb hr (fun t ht hW => ⟨rfl, ht⟩) (fun _ h => nomatch h) dX9_whyNot_118
            · have hf := (if_pos hb6).symm.trans hf
              refine lv_aload_n hx hb dX9_whyNot_89 rfl (lv_at hl 0 rfl) ?_
              refine lv_iload_n hx hb dX9_whyNot_90 rfl (lv_at hl 3 rfl) ?_
              refine ko_call (v := some (.int (f_X9_isHeld a2 S))) (va_runV (As := [.int a2]) (rest := []) ⟨hx, hb, hml, hown, hts⟩ (c_X9_isHeld l dC dI cs ad raS S a2 _ rfl) (cwV 1 hts gX9_whyNot_X9_isHeld rfl rfl rfl (by decide +kernel) ⟨Nat.le_of_ble_eq_true rfl, Nat.le_of_ble_eq_true rfl⟩) ⟨fun a U g mk q => ⟨q.1, (fun _ _ _ _ => cPr_bl) a U g mk q.2⟩, va_recv hK hP (ci := 10) (q0 := 0) rfl rfl, fun U hU hW => ⟨rfl, ⟨by rw [hU]; exact (hP.sub (ws' := (ww_X9_isHeld cs ad raS S)) [0, 1, 2, 3, 4] rfl), va_K.moved hW.alike hK, kN_warm hW hN⟩⟩⟩ rfl rfl hl.1 rfl (lv_room (Nat.le_of_ble_eq_true rfl)) dX9_whyNot_91 ⟨Nat.le_refl _, Nat.le_refl _⟩) ?_
              refine lv_if_eq (tgt := 101) hx hb dX9_whyNot_94 (by decide) (fun hb5 => ?_) (fun hb5 => ?_)
              · have hf := (if_pos hb5).symm.trans hf
                refine lv_iconst (v := 1) hx hb dX9_whyNot_101 (by decide) ?_
                have hf := Option.some.inj hf
                subst hf
                exact W.iret (v := (1 : Int32)) hx hb hr (fun t ht hW => ⟨rfl, ht⟩) (fun _ h => nomatch h) dX9_whyNot_102
              · have hf := (if_neg hb5).symm.trans hf
                refine lv_iconst (v := 0) hx hb dX9_whyNot_97 (by decide) ?_
                refine lv_goto (tgt := 102) hx hb dX9_whyNot_98 (by decide) ?_
                have hf := Option.some.inj hf
                subst hf
                exact W.iret (v := (0 : Int32)) hx hb hr (fun t ht hW => ⟨rfl, ht⟩) (fun _ h => nomatch h) dX9_whyNot_102
          · have hf := (if_pos hb8).symm.trans hf
            refine lv_aload_n hx hb dX9_whyNot_69 rfl (lv_at hl 0 rfl) ?_
            refine lv_iload_n hx hb dX9_whyNot_70 rfl (lv_at hl 3 rfl) ?_
            refine ko_call (v := some (.int (f_X9_isHeld a2 S))) (va_runV (As := [.int a2]) (rest := []) ⟨hx, hb, hml, hown, hts⟩ (c_X9_isHeld l dC dI cs ad raS S a2 _ rfl) (cwV 1 hts gX9_whyNot_X9_isHeld rfl rfl rfl (by decide +kernel) ⟨Nat.le_of_ble_eq_true rfl, Nat.le_of_ble_eq_true rfl⟩) ⟨fun a U g mk q => ⟨q.1, (fun _ _ _ _ => cPr_bl) a U g mk q.2⟩, va_recv hK hP (ci := 10) (q0 := 0) rfl rfl, fun U hU hW => ⟨rfl, ⟨by rw [hU]; exact (hP.sub (ws' := (ww_X9_isHeld cs ad raS S)) [0, 1, 2, 3, 4] rfl), va_K.moved hW.alike hK, kN_warm hW hN⟩⟩⟩ rfl rfl hl.1 rfl (lv_room (Nat.le_of_ble_eq_true rfl)) dX9_whyNot_71 ⟨Nat.le_refl _, Nat.le_refl _⟩) ?_
            refine lv_if_eq (tgt := 81) hx hb dX9_whyNot_74 (by decide) (fun hb7 => ?_) (fun hb7 => ?_)
            · have hf := (if_pos hb7).symm.trans hf
              refine lv_iconst (v := 0) hx hb dX9_whyNot_81 (by decide) ?_
              have hf := Option.some.inj hf
              subst hf
              exact W.iret (v := (0 : Int32)) hx hb hr (fun t ht hW => ⟨rfl, ht⟩) (fun _ h => nomatch h) dX9_whyNot_82
            · have hf := (if_neg hb7).symm.trans hf
              refine lv_iconst (v := 1) hx hb dX9_whyNot_77 (by decide) ?_
              refine lv_goto (tgt := 82) hx hb dX9_whyNot_78 (by decide) ?_
              have hf := Option.some.inj hf
              subst hf
              exact W.iret (v := (1 : Int32)) hx hb hr (fun t ht hW => ⟨rfl, ht⟩) (fun _ h => nomatch h) dX9_whyNot_82
        · have hf := (if_pos hb11).symm.trans hf
          refine lv_aload_n hx hb dX9_whyNot_54 rfl (lv_at hl 0 rfl) ?_
          refine lv_aload_n hx hb dX9_whyNot_55 rfl (lv_at hl 1 rfl) ?_
          refine lv_iload_n hx hb dX9_whyNot_56 rfl (lv_at hl 3 rfl) ?_
          refine lv_iload hx hb dX9_whyNot_57 (lv_at hl 4 rfl) ?_
          obtain ⟨v10, hq9, hf⟩ := bo_e hf
          refine ko_call (v := some (.int v10)) (va_runV (As := [.ref (raO 0), .int a2, .int a3]) (rest := []) ⟨hx, hb, hml, hown, hts⟩ (c_X9_whyNotWrite l dC dI cs ad raS raO S O a2 a3 v10 hq9) (cwV 3 hts gX9_whyNot_X9_whyNotWrite rfl rfl rfl (by decide +kernel) ⟨Nat.le_of_ble_eq_true rfl, Nat.le_of_ble_eq_true rfl⟩) ⟨fun a U g mk q => ⟨q.1, (fun _ _ _ _ => cPr_bl) a U g mk q.2⟩, va_recv hK hP (ci := 10) (q0 := 0) rfl rfl, fun U hU hW => ⟨rfl, ⟨by rw [hU]; exact (hP.sub (ws' := (ww_X9_whyNotWrite cs ad raS raO S O)) [0, 1, 2, 3, 4, 5, 6, 7, 8, 9, 10, 11, 12] rfl), va_K.moved hW.alike hK, kN_warm hW hN⟩⟩⟩ rfl rfl hl.1 rfl (lv_room (Nat.le_of_ble_eq_true rfl)) dX9_whyNot_59 ⟨Nat.le_refl _, Nat.le_refl _⟩) ?_
          have hf := Option.some.inj hf
          subst hf
          exact W.iret (v := v10) hx hb hr (fun t ht hW => ⟨rfl, ht⟩) (fun _ h => nomatch h) dX9_whyNot_62
      · have hf := (if_pos hb12).symm.trans hf
        refine lv_iconst (v := -1) hx hb dX9_whyNot_48 (by decide) ?_
        have hf := Option.some.inj hf
        subst hf
        exact W.iret (v := (-1 : Int32)) hx hb hr (fun t ht hW => ⟨rfl, ht⟩) (fun _ h => nomatch h) dX9_whyNot_49
    · have hf := (if_pos hb14).symm.trans hf
      refine lv_iload hx hb dX9_whyNot_25 (lv_at hl 4 rfl) ?_
      refine lv_aload_n hx hb dX9_whyNot_27 rfl (lv_at hl 0 rfl) ?_
      refine ko_call (v := some (.int (f_X9_daysLeft S))) (va_runV (As := []) (rest := [.int a3]) ⟨hx, hb, hml, hown, hts⟩ (c_X9_daysLeft l dC dI cs ad raS S _ rfl) (cwV 0 hts gX9_whyNot_X9_daysLeft rfl rfl rfl (by decide +kernel) ⟨Nat.le_of_ble_eq_true rfl, Nat.le_of_ble_eq_true rfl⟩) ⟨fun a U g mk q => ⟨q.1, (fun _ _ _ _ => cPr_bl) a U g mk q.2⟩, va_recv hK hP (ci := 10) (q0 := 0) rfl rfl, fun U hU hW => ⟨rfl, ⟨by rw [hU]; exact (hP.sub (ws' := (ww_X9_daysLeft cs ad raS S)) [0, 1, 2, 3, 4] rfl), va_K.moved hW.alike hK, kN_warm hW hN⟩⟩⟩ rfl rfl hl.1 rfl (lv_room (Nat.le_of_ble_eq_true rfl)) dX9_whyNot_28 ⟨Nat.le_refl _, Nat.le_refl _⟩) ?_
      refine lv_icmp_le (tgt := 38) hx hb dX9_whyNot_31 (by decide) (fun hb13 => ?_) (fun hb13 => ?_)
      · have hf := (if_pos hb13).symm.trans hf
        refine lv_iconst (v := 0) hx hb dX9_whyNot_38 (by decide) ?_
        have hf := Option.some.inj hf
        subst hf
        exact W.iret (v := (0 : Int32)) hx hb hr (fun t ht hW => ⟨rfl, ht⟩) (fun _ h => nomatch h) dX9_whyNot_39
      · have hf := (if_neg hb13).symm.trans hf
        refine lv_iconst (v := 1) hx hb dX9_whyNot_34 (by decide) ?_
        refine lv_goto (tgt := 39) hx hb dX9_whyNot_35 (by decide) ?_
        have hf := Option.some.inj hf
        subst hf
        exact W.iret (v := (1 : Int32)) hx hb hr (fun t ht hW => ⟨rfl, ht⟩) (fun _ h => nomatch h) dX9_whyNot_39
  · have hf := (if_pos hb18).symm.trans hf
    refine lv_aload_n hx hb dX9_whyNot_6 rfl (lv_at hl 0 rfl) ?_
    obtain ⟨v16, hq15, hf⟩ := bo_e hf
    refine ko_call (v := some (.int v16)) (va_runV (As := []) (rest := []) ⟨hx, hb, hml, hown, hts⟩ (c_X9_owesBothWays l dC dI cs ad raS S v16 hq15) (cwV 0 hts gX9_whyNot_X9_owesBothWays rfl rfl rfl (by decide +kernel) ⟨Nat.le_of_ble_eq_true rfl, Nat.le_of_ble_eq_true rfl⟩) ⟨fun a U g mk q => ⟨q.1, (fun _ _ _ _ => cPr_bl) a U g mk q.2⟩, va_recv hK hP (ci := 10) (q0 := 0) rfl rfl, fun U hU hW => ⟨rfl, ⟨by rw [hU]; exact (hP.sub (ws' := (ww_X9_owesBothWays cs ad raS S)) [0, 1, 2, 3, 4] rfl), va_K.moved hW.alike hK, kN_warm hW hN⟩⟩⟩ rfl rfl hl.1 rfl (lv_room (Nat.le_of_ble_eq_true rfl)) dX9_whyNot_7 ⟨Nat.le_refl _, Nat.le_refl _⟩) ?_
    refine lv_if_eq (tgt := 17) hx hb dX9_whyNot_10 (by decide) (fun hb17 => ?_) (fun hb17 => ?_)
    · have hf := (if_pos hb17).symm.trans hf
      refine lv_iconst (v := 1) hx hb dX9_whyNot_17 (by decide) ?_
      have hf := Option.some.inj hf
      subst hf
      exact W.iret (v := (1 : Int32)) hx hb hr (fun t ht hW => ⟨rfl, ht⟩) (fun _ h => nomatch h) dX9_whyNot_18
    · have hf := (if_neg hb17).symm.trans hf
      refine lv_iconst (v := 0) hx hb dX9_whyNot_13 (by decide) ?_
      refine lv_goto (tgt := 18) hx hb dX9_whyNot_14 (by decide) ?_
      have hf := Option.some.inj hf
      subst hf
      exact W.iret (v := (0 : Int32)) hx hb hr (fun t ht hW => ⟨rfl, ht⟩) (fun _ h => nomatch h) dX9_whyNot_18

def ww_X9_setDebt (cs : Nat → ClassId) (ad : Nat → Nat) (raS : Nat → Nat) (S : kD) : va_W := (wX9 cs ad raS S)
abbrev rm_X9_setDebt : Room := { frames := 0, cells := 0, slots := 0, locals := 0 }
set_option maxHeartbeats 4000000 in
set_option maxRecDepth 100000 in
theorem c_X9_setDebt (l : Launch) (dC : Nat → ClassId) (dI : Nat → Nat → Nat) (cs : Nat → ClassId) (ad : Nat → Nat) (raS : Nat → Nat) (sz : Nat) (S : kD) (a0 : Int32) (a1 : Int32) (a2 : Int32) (r : kD) (hf : f_X9_setDebt a0 a1 a2 S = some r) : Met l yX9_setDebt wsX9_setDebt rm_X9_setDebt (va_Pc [.ref (raS 0), .int a0, .int a1, .int a2] (cPw dC dI cs sz (ww_X9_setDebt cs ad raS S))) (cQv dC dI cs (va_A (ww_X9_setDebt cs ad raS zD) sz) (ww_X9_setDebt cs ad raS r)) 0 0 (va_A (ww_X9_setDebt cs ad raS zD) sz) := by
  refine Met.ofW (cc := cX9_setDebt) (maxL := 4) (ret := none) (by decide) rfl ?_
  intro p e s m args below meth c s₁ B hml hv
  obtain ⟨hav, hsz, hP, hK, hD0, hN⟩ := hv
  have hx := B.exec
  have hb := B.bytes
  have hr := B.returns
  have hts := atoms_spec (ws := wsX9_setDebt) B.pre
  have hown : s.vm.findClass RX9 = some m.cls := findClass_of_methodNamed B.named
  have hlocks := B.notSynchronized
  subst hsz
  have hA : ∀ q, s.heap.size ≤ q → va_A (ww_X9_setDebt cs ad raS zD) s.heap.size q := fun q h => Or.inr h
  have hD : va_D (va_A (ww_X9_setDebt cs ad raS zD) s.heap.size) (ww_X9_setDebt cs ad raS S) := hD0.weaken (fun k q h _ => cA_in (ws := (ww_X9_setDebt cs ad raS S)) (ws' := (ww_X9_setDebt cs ad raS zD)) rfl h)
  have hS : va_S (va_A (ww_X9_setDebt cs ad raS zD) s.heap.size) s.heap s.heap [] := va_S.rf
  have hinX9 := (show ∀ w ∈ wsX90, w ∈ wsX9_setDebt from fun w h => List.mem_cons_of_mem _ (List.mem_append_right _ h))
  have k_fieldLink_RX9_21__KeyLetters_State___debts____I_ := hts (.fieldLink RX9 21 "KeyLetters$State" "debts" "[I") (List.mem_of_getElem? (i := 1) rfl)
  have hl := lv_entry ([.ref (raS 0), .int a0, .int a1, .int a2]) (n := 4) (Nat.le_of_ble_eq_true rfl)
  rw [show entryFrame m args 4 = entryFrame m ([.ref (raS 0), .int a0, .int a1, .int a2] : List Value).toArray 4 from by rw [hav], lg_entry_eq]
  generalize (lg_sl ([.ref (raS 0), .int a0, .int a1, .int a2]) ++ List.replicate (4 - (lg_sl ([.ref (raS 0), .int a0, .int a1, .int a2])).length) Slot.unset).toArray = ls at hl ⊢
  have hl : lv_has ls 4 [(0, .ref (raS 0)), (1, .int a0), (2, .int a1), (3, .int a2)] := hl
  unfold f_X9_setDebt at hf
  refine lv_iload_n hx hb dX9_setDebt_0 rfl (lv_at hl 1 rfl) ?_
  refine lv_if_lt (tgt := 32) hx hb dX9_setDebt_1 (by decide) (fun hb6 => ?_) (fun hb6 => ?_)
  · have hf := (if_pos hb6).symm.trans hf
    have hf := Option.some.inj hf
    subst hf
    exact c_vret hx hb hr hlocks hP hK hD hS dX9_setDebt_32
  · have hf := (if_neg hb6).symm.trans hf
    refine lv_iload_n hx hb dX9_setDebt_4 rfl (lv_at hl 1 rfl) ?_
    refine lv_bipush (v := 6) hx hb dX9_setDebt_5 (by decide) ?_
    refine lv_icmp_ge (tgt := 32) hx hb dX9_setDebt_7 (by decide) (fun hb5 => ?_) (fun hb5 => ?_)
    · have hf := (if_pos hb5).symm.trans hf
      have hf := Option.some.inj hf
      subst hf
      exact c_vret hx hb hr hlocks hP hK hD hS dX9_setDebt_32
    · have hf := (if_neg hb5).symm.trans hf
      refine lv_iload_n hx hb dX9_setDebt_10 rfl (lv_at hl 2 rfl) ?_
      refine lv_if_lt (tgt := 32) hx hb dX9_setDebt_11 (by decide) (fun hb4 => ?_) (fun hb4 => ?_)
      · have hf := (if_pos hb4).symm.trans hf
        have hf := Option.some.inj hf
        subst hf
        exact c_vret hx hb hr hlocks hP hK hD hS dX9_setDebt_32
      · have hf := (if_neg hb4).symm.trans hf
        refine lv_iload_n hx hb dX9_setDebt_14 rfl (lv_at hl 2 rfl) ?_
        refine lv_bipush (v := 6) hx hb dX9_setDebt_15 (by decide) ?_
        refine lv_icmp_ge (tgt := 32) hx hb dX9_setDebt_17 (by decide) (fun hb3 => ?_) (fun hb3 => ?_)
        · have hf := (if_pos hb3).symm.trans hf
          have hf := Option.some.inj hf
          subst hf
          exact c_vret hx hb hr hlocks hP hK hD hS dX9_setDebt_32
        · have hf := (if_neg hb3).symm.trans hf
          refine lv_aload_n hx hb dX9_setDebt_20 rfl (lv_at hl 0 rfl) ?_
          refine va_get (D := (dC, dI)) (ci := 10) (C := RX9) (T := TX9) (N := 9) hx hb hts hinX9 hown hK hP 0 rfl rfl 8 (by decide) (v := .ref (raS 8)) k_fieldLink_RX9_21__KeyLetters_State___debts____I_ (fun _ h9 => h9) rfl dX9_setDebt_21 ?_
          refine lv_iload_n hx hb dX9_setDebt_24 rfl (lv_at hl 1 rfl) ?_
          refine lv_bipush (v := 6) hx hb dX9_setDebt_25 (by decide) ?_
          refine lv_imul hx hb dX9_setDebt_27 ?_
          refine lv_iload_n hx hb dX9_setDebt_28 rfl (lv_at hl 2 rfl) ?_
          refine lv_iadd hx hb dX9_setDebt_29 ?_
          refine lv_iload_n hx hb dX9_setDebt_30 rfl (lv_at hl 3 rfl) ?_
          obtain ⟨hc1, hf⟩ := ck_e hf
          obtain ⟨Sv2, eSv2, hf⟩ := bd1_e hf
          refine va_iast hx hb hK hP hD hS 4 1 rfl rfl hc1 dX9_setDebt_31 (fun H locs hP hD hS => ?_)
          have hP : va_P (dC, dI) vwCl (ww_X9_setDebt cs ad raS Sv2) H := g_toP (by rw [eSv2]; rfl) hP
          have hD : va_D (va_A (ww_X9_setDebt cs ad raS zD) s.heap.size) (ww_X9_setDebt cs ad raS Sv2) := g_toD (by rw [eSv2]; rfl) hD
          have hf := Option.some.inj hf
          subst hf
          exact c_vret hx hb hr hlocks hP hK hD hS dX9_setDebt_32

def ww_X9_put (cs : Nat → ClassId) (ad : Nat → Nat) (raS : Nat → Nat) (raO : Nat → Nat) (S : kD) (O : kD) : va_W := (wX9 cs ad raS S ++ (wX3 cs ad raO O))
abbrev rm_X9_put : Room := { frames := 1, cells := 0, slots := 0, locals := 40 }
set_option maxHeartbeats 4000000 in
set_option maxRecDepth 100000 in
theorem c_X9_put (l : Launch) (dC : Nat → ClassId) (dI : Nat → Nat → Nat) (cs : Nat → ClassId) (ad : Nat → Nat) (raS : Nat → Nat) (raO : Nat → Nat) (sz : Nat) (S : kD) (O : kD) (a1 : Int32) (a2 : Int32) (r : kD) (hf : f_X9_put a1 a2 S O = some r) : Met l yX9_put wsX9_put rm_X9_put (va_Pc [.ref (raS 0), .ref (raO 0), .int a1, .int a2] (cPw dC dI cs sz (ww_X9_put cs ad raS raO S O))) (cQv dC dI cs (va_A (ww_X9_put cs ad raS raO zD zD) sz) (ww_X9_put cs ad raS raO r O)) 0 0 (va_A (ww_X9_put cs ad raS raO zD zD) sz) := by
  refine Met.ofW (cc := cX9_put) (maxL := 4) (ret := none) (by decide) rfl ?_
  intro p e s m args below meth c s₁ B hml hv
  obtain ⟨hav, hsz, hP, hK, hD0, hN⟩ := hv
  have hx := B.exec
  have hb := B.bytes
  have hr := B.returns
  have hts := atoms_spec (ws := wsX9_put) B.pre
  have hown : s.vm.findClass RX9 = some m.cls := findClass_of_methodNamed B.named
  have hlocks := B.notSynchronized
  subst hsz
  have hA : ∀ q, s.heap.size ≤ q → va_A (ww_X9_put cs ad raS raO zD zD) s.heap.size q := fun q h => Or.inr h
  have hD : va_D (va_A (ww_X9_put cs ad raS raO zD zD) s.heap.size) (ww_X9_put cs ad raS raO S O) := hD0.weaken (fun k q h _ => cA_in (ws := (ww_X9_put cs ad raS raO S O)) (ws' := (ww_X9_put cs ad raS raO zD zD)) rfl h)
  have hS : va_S (va_A (ww_X9_put cs ad raS raO zD zD) s.heap.size) s.heap s.heap [] := va_S.rf
  have hinX3 := (show ∀ w ∈ wsX30, w ∈ wsX9_put from fun w h => List.mem_cons_of_mem _ (List.mem_append_right _ h))
  have hinX9 := (show ∀ w ∈ wsX90, w ∈ wsX9_put from fun w h => List.mem_cons_of_mem _ (List.mem_append_left _ (List.mem_append_right _ h)))
  have k_code_Lib_Math_min_name_Lib_Math_min_code_2__some__int_ := hts (.code Lib.Math.min.name Lib.Math.min.code 2 (some .int)) (List.mem_of_getElem? (i := 9) rfl)
  have k_fieldLink_RX9_15__KeyLetters_State___wrote____I_ := hts (.fieldLink RX9 15 "KeyLetters$State" "wrote" "[I") (List.mem_of_getElem? (i := 2) rfl)
  have k_fieldLink_RX9_18__KeyLetters_State___letters____I_ := hts (.fieldLink RX9 18 "KeyLetters$State" "letters" "[I") (List.mem_of_getElem? (i := 3) rfl)
  have k_fieldLink_RX9_24__KeyLetters_State___latest___I_ := hts (.fieldLink RX9 24 "KeyLetters$State" "latest" "I") (List.mem_of_getElem? (i := 4) rfl)
  have k_fieldLink_RX9_28__KeyLetters_State___writer___I_ := hts (.fieldLink RX9 28 "KeyLetters$State" "writer" "I") (List.mem_of_getElem? (i := 5) rfl)
  have k_fieldLink_RX9_9__KeyLetters_State___ink____I_ := hts (.fieldLink RX9 9 "KeyLetters$State" "ink" "[I") (List.mem_of_getElem? (i := 1) rfl)
  have k_initialized_RX3 := hts (.initialized RX3) (List.mem_of_getElem? (i := 11) rfl)
  have k_initialized__java_lang_Math_ := hts (.initialized "java/lang/Math") (List.mem_of_getElem? (i := 8) rfl)
  have k_instanceMethod_yX3_hasMachine := hts (.instanceMethod yX3_hasMachine) (List.mem_of_getElem? (i := 10) rfl)
  have k_instanceMethod_yX3_hasPhrase := hts (.instanceMethod yX3_hasPhrase) (List.mem_of_getElem? (i := 15) rfl)
  have k_methodLink_RX9_109_Lib_Math_min_name := hts (.methodLink RX9 109 Lib.Math.min.name) (List.mem_of_getElem? (i := 6) rfl)
  have k_selects_RX3_yX3_hasMachine_yX3_hasMachine := hts (.selects RX3 yX3_hasMachine yX3_hasMachine) (List.mem_of_getElem? (i := 12) rfl)
  have k_selects_RX3_yX3_hasPhrase_yX3_hasPhrase := hts (.selects RX3 yX3_hasPhrase yX3_hasPhrase) (List.mem_of_getElem? (i := 16) rfl)
  have k_static_Lib_Math_min_name := hts (.static Lib.Math.min.name) (List.mem_of_getElem? (i := 7) rfl)
  have hl := lv_entry ([.ref (raS 0), .ref (raO 0), .int a1, .int a2]) (n := 4) (Nat.le_of_ble_eq_true rfl)
  rw [show entryFrame m args 4 = entryFrame m ([.ref (raS 0), .ref (raO 0), .int a1, .int a2] : List Value).toArray 4 from by rw [hav], lg_entry_eq]
  generalize (lg_sl ([.ref (raS 0), .ref (raO 0), .int a1, .int a2]) ++ List.replicate (4 - (lg_sl ([.ref (raS 0), .ref (raO 0), .int a1, .int a2])).length) Slot.unset).toArray = ls at hl ⊢
  have hl : lv_has ls 4 [(0, .ref (raS 0)), (1, .ref (raO 0)), (2, .int a1), (3, .int a2)] := hl
  unfold f_X9_put at hf
  have h_96 : ∀ (x2_96 : Int32) (x3_96 : Int32) (S_96 : kD) (ls : Array Slot) (H : Heap) (locs : List Loc), lv_has ls 4 [(0, .ref (raS 0)), (2, .int x2_96), (3, .int x3_96)] → va_P (dC, dI) vwCl (ww_X9_put cs ad raS raO S_96 O) H → va_D (va_A (ww_X9_put cs ad raS raO zD zD) s.heap.size) (ww_X9_put cs ad raS raO S_96 O) → va_S (va_A (ww_X9_put cs ad raS raO zD zD) s.heap.size) s.heap H locs → g_X9_put_96 O x2_96 x3_96 S_96 = some r → W p l e (headSpec wsX9_put rm_X9_put).room s m args below meth c H locs 0 0 (MQ below (cQv dC dI cs (va_A (ww_X9_put cs ad raS raO zD zD) s.heap.size) (ww_X9_put cs ad raS raO r O)) args s 0 0 (va_A (ww_X9_put cs ad raS raO zD zD) s.heap.size)) (F0 m 96 ls []) := by
    intro x2_96 x3_96 S_96 ls H locs hl hP hD hS hf
    unfold g_X9_put_96 at hf
    refine lv_aload_n hx hb dX9_put_96 rfl (lv_at hl 0 rfl) ?_
    refine lv_iload_n hx hb dX9_put_97 rfl (lv_at hl 2 rfl) ?_
    obtain ⟨Sv1, eSv1, hf⟩ := bd1_e hf
    refine g_put (D := (dC, dI)) (ci := 10) (C := RX9) (T := TX9) (N := 9) hx hb hts hinX9 tyX9 tyX9_ok nmX9 hown hK hP hD hS 0 rfl rfl 1 (by decide) k_fieldLink_RX9_24__KeyLetters_State___latest___I_ (fun _ h9 => h9) rfl (ty := .int) (v := .int x3_96) (by decide +kernel) rfl rfl (Nat.le_of_ble_eq_true rfl) (ws' := (ww_X9_put cs ad raS raO Sv1 O)) (by rw [eSv1]; rfl) dX9_put_98 (fun H locs hP hD hS => ?_)
    refine lv_aload_n hx hb dX9_put_101 rfl (lv_at hl 0 rfl) ?_
    refine lv_iload_n hx hb dX9_put_102 rfl (lv_at hl 1 rfl) ?_
    obtain ⟨Sv2, eSv2, hf⟩ := bd1_e hf
    refine g_put (D := (dC, dI)) (ci := 10) (C := RX9) (T := TX9) (N := 9) hx hb hts hinX9 tyX9 tyX9_ok nmX9 hown hK hP hD hS 0 rfl rfl 2 (by decide) k_fieldLink_RX9_28__KeyLetters_State___writer___I_ (fun _ h9 => h9) rfl (ty := .int) (v := .int x2_96) (by decide +kernel) rfl rfl (Nat.le_of_ble_eq_true rfl) (ws' := (ww_X9_put cs ad raS raO Sv2 O)) (by rw [eSv2]; rfl) dX9_put_103 (fun H locs hP hD hS => ?_)
    have hf := Option.some.inj hf
    subst hf
    exact c_vret hx hb hr hlocks hP hK hD hS dX9_put_106
  refine lv_aload_n hx hb dX9_put_0 rfl (lv_at hl 1 rfl) ?_
  refine lv_iload_n hx hb dX9_put_1 rfl (lv_at hl 2 rfl) ?_
  refine ko_call (v := some (.int (f_X3_hasMachine a1 O))) (va_runVN (As := [.int a1]) (rest := []) ⟨hx, hb, hml, hown, hts⟩ (c_X3_hasMachine l dC dI cs ad raO O a1 _ rfl) ⟨va_cnB 1 hts gX9_put_X3_hasMachine_n65 rfl rfl rfl (hN _ (List.mem_of_getElem? (i := 96) rfl)) k_initialized_RX3 (by decide +kernel) ⟨Nat.le_of_ble_eq_true rfl, Nat.le_of_ble_eq_true rfl⟩, k_instanceMethod_yX3_hasMachine, k_selects_RX3_yX3_hasMachine_yX3_hasMachine⟩ ⟨fun a U g mk q => ⟨q.1, (fun _ _ _ _ => cPr_bl) a U g mk q.2⟩, va_recv hK hP (ci := 4) (q0 := 5) rfl rfl, fun U hU hW => ⟨rfl, ⟨by rw [hU]; exact (hP.sub (ws' := (ww_X3_hasMachine cs ad raO O)) [5, 6, 7, 8, 9, 10, 11, 12] rfl), va_K.moved hW.alike hK, kN_warm hW hN⟩⟩⟩ rfl rfl hl.1 rfl (lv_room (Nat.le_of_ble_eq_true rfl)) dX9_put_2 ⟨Nat.le_refl _, Nat.le_refl _⟩) ?_
  refine lv_if_eq (tgt := 16) hx hb dX9_put_5 (by decide) (fun hb21 => ?_) (fun hb21 => ?_)
  · have hf := (if_pos hb21).symm.trans hf
    have hf := Option.some.inj hf
    subst hf
    exact c_vret hx hb hr hlocks hP hK hD hS dX9_put_16
  · have hf := (if_neg hb21).symm.trans hf
    refine lv_aload_n hx hb dX9_put_8 rfl (lv_at hl 1 rfl) ?_
    refine lv_iload_n hx hb dX9_put_9 rfl (lv_at hl 3 rfl) ?_
    refine ko_call (v := some (.int (f_X3_hasPhrase a2 O))) (va_runVN (As := [.int a2]) (rest := []) ⟨hx, hb, hml, hown, hts⟩ (c_X3_hasPhrase l dC dI cs ad raO O a2 _ rfl) ⟨va_cnB 1 hts gX9_put_X3_hasPhrase_n76 rfl rfl rfl (hN _ (List.mem_of_getElem? (i := 97) rfl)) k_initialized_RX3 (by decide +kernel) ⟨Nat.le_of_ble_eq_true rfl, Nat.le_of_ble_eq_true rfl⟩, k_instanceMethod_yX3_hasPhrase, k_selects_RX3_yX3_hasPhrase_yX3_hasPhrase⟩ ⟨fun a U g mk q => ⟨q.1, (fun _ _ _ _ => cPr_bl) a U g mk q.2⟩, va_recv hK hP (ci := 4) (q0 := 5) rfl rfl, fun U hU hW => ⟨rfl, ⟨by rw [hU]; exact (hP.sub (ws' := (ww_X3_hasPhrase cs ad raO O)) [5, 6, 7, 8, 9, 10, 11, 12] rfl), va_K.moved hW.alike hK, kN_warm hW hN⟩⟩⟩ rfl rfl hl.1 rfl (lv_room (Nat.le_of_ble_eq_true rfl)) dX9_put_10 ⟨Nat.le_refl _, Nat.le_refl _⟩) ?_
    refine lv_if_ne (tgt := 17) hx hb dX9_put_13 (by decide) (fun hb20 => ?_) (fun hb20 => ?_)
    · have hf := (if_neg hb20).symm.trans hf
      refine lv_aload_n hx hb dX9_put_17 rfl (lv_at hl 0 rfl) ?_
      refine va_get (D := (dC, dI)) (ci := 10) (C := RX9) (T := TX9) (N := 9) hx hb hts hinX9 hown hK hP 0 rfl rfl 5 (by decide) (v := .ref (raS 5)) k_fieldLink_RX9_9__KeyLetters_State___ink____I_ (fun _ h9 => h9) rfl dX9_put_18 ?_
      refine lv_iload_n hx hb dX9_put_21 rfl (lv_at hl 2 rfl) ?_
      refine lv_dup2_11 hx hb dX9_put_22 rfl rfl ?_
      obtain ⟨hc3, hf⟩ := ck_e hf
      refine va_iald hx hb hK hP 1 1 rfl rfl hc3 dX9_put_23 ?_
      refine lv_aload_n hx hb dX9_put_24 rfl (lv_at hl 1 rfl) ?_
      refine va_getN (D := (dC, dI)) (ci := 4) (C := RX3) (T := TX3) (N := 11) hx hb hts hinX3 hown hK hP 5 rfl rfl 8 (by decide) (v := .ref (raO 8)) (va_Nw.use rfl (hN _ (List.mem_of_getElem? (i := 29) rfl))) (fun _ h9 => h9) rfl dX9_put_25 ?_
      refine lv_iload_n hx hb dX9_put_28 rfl (lv_at hl 3 rfl) ?_
      obtain ⟨hc4, hf⟩ := ck_e hf
      refine va_iald hx hb hK hP 10 1 rfl rfl hc4 dX9_put_29 ?_
      refine lv_isub hx hb dX9_put_30 ?_
      obtain ⟨hc5, hf⟩ := ck_e hf
      obtain ⟨Sv6, eSv6, hf⟩ := bd1_e hf
      refine va_iast hx hb hK hP hD hS 1 1 rfl rfl hc5 dX9_put_31 (fun H locs hP hD hS => ?_)
      have hP : va_P (dC, dI) vwCl (ww_X9_put cs ad raS raO Sv6 O) H := g_toP (by rw [eSv6]; rfl) hP
      have hD : va_D (va_A (ww_X9_put cs ad raS raO zD zD) s.heap.size) (ww_X9_put cs ad raS raO Sv6 O) := g_toD (by rw [eSv6]; rfl) hD
      refine lv_aload_n hx hb dX9_put_32 rfl (lv_at hl 0 rfl) ?_
      refine va_get (D := (dC, dI)) (ci := 10) (C := RX9) (T := TX9) (N := 9) hx hb hts hinX9 hown hK hP 0 rfl rfl 6 (by decide) (v := .ref (raS 6)) k_fieldLink_RX9_15__KeyLetters_State___wrote____I_ (fun _ h9 => h9) rfl dX9_put_33 ?_
      refine lv_iload_n hx hb dX9_put_36 rfl (lv_at hl 2 rfl) ?_
      refine lv_dup2_11 hx hb dX9_put_37 rfl rfl ?_
      obtain ⟨hc7, hf⟩ := ck_e hf
      refine va_iald hx hb hK hP 2 1 rfl rfl hc7 dX9_put_38 ?_
      refine lv_iconst (v := 1) hx hb dX9_put_39 (by decide) ?_
      refine lv_iadd hx hb dX9_put_40 ?_
      obtain ⟨hc8, hf⟩ := ck_e hf
      obtain ⟨Sv9, eSv9, hf⟩ := bd1_e hf
      refine va_iast hx hb hK hP hD hS 2 1 rfl rfl hc8 dX9_put_41 (fun H locs hP hD hS => ?_)
      have hP : va_P (dC, dI) vwCl (ww_X9_put cs ad raS raO Sv9 O) H := g_toP (by rw [eSv9]; rfl) hP
      have hD : va_D (va_A (ww_X9_put cs ad raS raO zD zD) s.heap.size) (ww_X9_put cs ad raS raO Sv9 O) := g_toD (by rw [eSv9]; rfl) hD
      refine lv_aload_n hx hb dX9_put_42 rfl (lv_at hl 0 rfl) ?_
      refine va_get (D := (dC, dI)) (ci := 10) (C := RX9) (T := TX9) (N := 9) hx hb hts hinX9 hown hK hP 0 rfl rfl 7 (by decide) (v := .ref (raS 7)) k_fieldLink_RX9_18__KeyLetters_State___letters____I_ (fun _ h9 => h9) rfl dX9_put_43 ?_
      refine lv_iload_n hx hb dX9_put_46 rfl (lv_at hl 2 rfl) ?_
      refine lv_dup2_11 hx hb dX9_put_47 rfl rfl ?_
      obtain ⟨hc10, hf⟩ := ck_e hf
      refine va_iald hx hb hK hP 3 1 rfl rfl hc10 dX9_put_48 ?_
      refine lv_aload_n hx hb dX9_put_49 rfl (lv_at hl 1 rfl) ?_
      refine va_getN (D := (dC, dI)) (ci := 4) (C := RX3) (T := TX3) (N := 11) hx hb hts hinX3 hown hK hP 5 rfl rfl 8 (by decide) (v := .ref (raO 8)) (va_Nw.use rfl (hN _ (List.mem_of_getElem? (i := 29) rfl))) (fun _ h9 => h9) rfl dX9_put_50 ?_
      refine lv_iload_n hx hb dX9_put_53 rfl (lv_at hl 3 rfl) ?_
      obtain ⟨hc11, hf⟩ := ck_e hf
      refine va_iald hx hb hK hP 10 1 rfl rfl hc11 dX9_put_54 ?_
      refine lv_iadd hx hb dX9_put_55 ?_
      obtain ⟨hc12, hf⟩ := ck_e hf
      obtain ⟨Sv13, eSv13, hf⟩ := bd1_e hf
      refine va_iast hx hb hK hP hD hS 3 1 rfl rfl hc12 dX9_put_56 (fun H locs hP hD hS => ?_)
      have hP : va_P (dC, dI) vwCl (ww_X9_put cs ad raS raO Sv13 O) H := g_toP (by rw [eSv13]; rfl) hP
      have hD : va_D (va_A (ww_X9_put cs ad raS raO zD zD) s.heap.size) (ww_X9_put cs ad raS raO Sv13 O) := g_toD (by rw [eSv13]; rfl) hD
      refine lv_aload_n hx hb dX9_put_57 rfl (lv_at hl 0 rfl) ?_
      refine va_get (D := (dC, dI)) (ci := 10) (C := RX9) (T := TX9) (N := 9) hx hb hts hinX9 hown hK hP 0 rfl rfl 1 (by decide) (v := .int (Sv13.1 0 1)) k_fieldLink_RX9_24__KeyLetters_State___latest___I_ (fun _ h9 => h9) rfl dX9_put_58 ?_
      refine lv_iconst (v := -1) hx hb dX9_put_61 (by decide) ?_
      refine lv_icmp_eq (tgt := 96) hx hb dX9_put_62 (by decide) (fun hb19 => ?_) (fun hb19 => ?_)
      · have hf := (if_pos hb19).symm.trans hf
        exact h_96 a1 a2 Sv13 ls _ _ (lv_sub hl [0, 2, 3] rfl) hP hD hS hf
      · have hf := (if_neg hb19).symm.trans hf
        refine lv_aload_n hx hb dX9_put_65 rfl (lv_at hl 0 rfl) ?_
        refine lv_aload_n hx hb dX9_put_66 rfl (lv_at hl 0 rfl) ?_
        refine va_get (D := (dC, dI)) (ci := 10) (C := RX9) (T := TX9) (N := 9) hx hb hts hinX9 hown hK hP 0 rfl rfl 2 (by decide) (v := .int (Sv13.1 0 2)) k_fieldLink_RX9_28__KeyLetters_State___writer___I_ (fun _ h9 => h9) rfl dX9_put_67 ?_
        refine lv_iload_n hx hb dX9_put_70 rfl (lv_at hl 2 rfl) ?_
        refine lv_sipush (v := 9999) hx hb dX9_put_71 (by decide) ?_
        refine lv_aload_n hx hb dX9_put_74 rfl (lv_at hl 0 rfl) ?_
        refine lv_aload_n hx hb dX9_put_75 rfl (lv_at hl 0 rfl) ?_
        refine va_get (D := (dC, dI)) (ci := 10) (C := RX9) (T := TX9) (N := 9) hx hb hts hinX9 hown hK hP 0 rfl rfl 2 (by decide) (v := .int (Sv13.1 0 2)) k_fieldLink_RX9_28__KeyLetters_State___writer___I_ (fun _ h9 => h9) rfl dX9_put_76 ?_
        refine lv_iload_n hx hb dX9_put_79 rfl (lv_at hl 2 rfl) ?_
        obtain ⟨v15, hq14, hf⟩ := bo_e hf
        refine ko_call (v := some (.int v15)) (va_runV (As := [.int (Sv13.1 0 2), .int a1]) (rest := [.int (9999 : Int32), .int a1, .int (Sv13.1 0 2), .ref (raS 0)]) ⟨hx, hb, hml, hown, hts⟩ (c_X9_debtOf l dC dI cs ad raS Sv13 (Sv13.1 0 2) a1 v15 hq14) (cwV 2 hts gX9_put_X9_debtOf rfl rfl rfl (by decide +kernel) ⟨Nat.le_of_ble_eq_true rfl, Nat.le_of_ble_eq_true rfl⟩) ⟨fun a U g mk q => ⟨q.1, (fun _ _ _ _ => cPr_bl) a U g mk q.2⟩, va_recv hK hP (ci := 10) (q0 := 0) rfl rfl, fun U hU hW => ⟨rfl, ⟨by rw [hU]; exact (hP.sub (ws' := (ww_X9_debtOf cs ad raS Sv13)) [0, 1, 2, 3, 4] rfl), va_K.moved hW.alike hK, kN_warm hW hN⟩⟩⟩ rfl rfl hl.1 rfl (lv_room (Nat.le_of_ble_eq_true rfl)) dX9_put_80 ⟨Nat.le_refl _, Nat.le_refl _⟩) ?_
        refine lv_aload_n hx hb dX9_put_83 rfl (lv_at hl 1 rfl) ?_
        refine va_getN (D := (dC, dI)) (ci := 4) (C := RX3) (T := TX3) (N := 11) hx hb hts hinX3 hown hK hP 5 rfl rfl 9 (by decide) (v := .ref (raO 9)) (va_Nw.use rfl (hN _ (List.mem_of_getElem? (i := 31) rfl))) (fun _ h9 => h9) rfl dX9_put_84 ?_
        refine lv_iload_n hx hb dX9_put_87 rfl (lv_at hl 3 rfl) ?_
        obtain ⟨hc16, hf⟩ := ck_e hf
        refine va_iald hx hb hK hP 11 1 rfl rfl hc16 dX9_put_88 ?_
        refine lv_iadd hx hb dX9_put_89 ?_
        refine va_mmin hx hb (hml.trans hl.1.symm) hown k_methodLink_RX9_109_Lib_Math_min_name k_static_Lib_Math_min_name k_initialized__java_lang_Math_ k_code_Lib_Math_min_name_Lib_Math_min_code_2__some__int_ (Nat.le_of_ble_eq_true rfl) (Nat.le_of_ble_eq_true rfl) (Nat.zero_le _) (Nat.zero_le _) dX9_put_90 ?_
        obtain ⟨Sv18, hq17, hf⟩ := bo_e hf
        refine g_callv (isC := [0, 1, 2, 3, 4]) (isR := [5, 6, 7, 8, 9, 10, 11, 12]) (wc := (ww_X9_setDebt cs ad raS Sv13)) (wz := (ww_X9_setDebt cs ad raS zD)) (w1 := (ww_X9_setDebt cs ad raS Sv18)) (ws' := (ww_X9_put cs ad raS raO Sv18 O)) (va_runV (As := [.int (Sv13.1 0 2), .int a1, .int (kMin (9999 : Int32) (v15 + (O.1 9 a2.toNatClampNeg)))]) (rest := []) ⟨hx, hb, hml, hown, hts⟩ (c_X9_setDebt l dC dI cs ad raS _ Sv13 (Sv13.1 0 2) a1 (kMin (9999 : Int32) (v15 + (O.1 9 a2.toNatClampNeg))) Sv18 hq17) (cwV 3 hts gX9_put_X9_setDebt rfl rfl rfl (by decide +kernel) ⟨Nat.le_of_ble_eq_true rfl, Nat.le_of_ble_eq_true rfl⟩) ⟨fun a U g mk q => ⟨q.1, (fun _ _ _ _ => cPw_bl) a U g mk q.2⟩, va_recv hK hP (ci := 10) (q0 := 0) rfl rfl, fun U hU hW => ⟨rfl, ⟨by rw [hU], by rw [hU]; exact (hP.sub (ws' := (ww_X9_setDebt cs ad raS Sv13)) [0, 1, 2, 3, 4] rfl), va_K.moved hW.alike hK, (hD.sub (ws' := (ww_X9_setDebt cs ad raS Sv13)) [0, 1, 2, 3, 4] (by decide) rfl).weaken (fun _ _ _ _ => trivial), kN_warm hW hN⟩⟩⟩ rfl rfl hl.1 rfl (lv_room (Nat.le_of_ble_eq_true rfl)) dX9_put_93 ⟨Nat.le_refl _, Nat.le_refl _⟩) hP hD hS hA rfl rfl (wr := ((wX3 cs ad raO O))) rfl rfl rfl (nw := 13) rfl (by decide +kernel) rfl (fun H locs hP hD hS => ?_)
        exact h_96 a1 a2 Sv18 ls _ _ (lv_sub hl [0, 2, 3] rfl) hP hD hS hf
    · have hf := (if_pos hb20).symm.trans hf
      have hf := Option.some.inj hf
      subst hf
      exact c_vret hx hb hr hlocks hP hK hD hS dX9_put_16

def ww_X9_writeByTurn (cs : Nat → ClassId) (ad : Nat → Nat) (raS : Nat → Nat) (raO : Nat → Nat) (S : kD) (O : kD) : va_W := (wX9 cs ad raS S ++ (wX3 cs ad raO O))
abbrev rm_X9_writeByTurn : Room := { frames := 3, cells := 0, slots := 0, locals := 66 }
set_option maxHeartbeats 4000000 in
set_option maxRecDepth 100000 in
theorem c_X9_writeByTurn (l : Launch) (dC : Nat → ClassId) (dI : Nat → Nat → Nat) (cs : Nat → ClassId) (ad : Nat → Nat) (raS : Nat → Nat) (raO : Nat → Nat) (sz : Nat) (S : kD) (O : kD) (r : Int32 × kD) (hf : f_X9_writeByTurn S O = some r) : Met l yX9_writeByTurn wsX9_writeByTurn rm_X9_writeByTurn (va_Pc [.ref (raS 0), .ref (raO 0)] (cPw dC dI cs sz (ww_X9_writeByTurn cs ad raS raO S O))) (cQi dC dI cs (va_A (ww_X9_writeByTurn cs ad raS raO zD zD) sz) r.1 (ww_X9_writeByTurn cs ad raS raO r.2 O)) 0 0 (va_A (ww_X9_writeByTurn cs ad raS raO zD zD) sz) := by
  refine Met.ofW (cc := cX9_writeByTurn) (maxL := 5) (ret := (some .boolean)) (by decide) rfl ?_
  intro p e s m args below meth c s₁ B hml hv
  obtain ⟨hav, hsz, hP, hK, hD0, hN⟩ := hv
  have hx := B.exec
  have hb := B.bytes
  have hr := B.returns
  have hts := atoms_spec (ws := wsX9_writeByTurn) B.pre
  have hown : s.vm.findClass RX9 = some m.cls := findClass_of_methodNamed B.named
  have hlocks := B.notSynchronized
  subst hsz
  have hA : ∀ q, s.heap.size ≤ q → va_A (ww_X9_writeByTurn cs ad raS raO zD zD) s.heap.size q := fun q h => Or.inr h
  have hD : va_D (va_A (ww_X9_writeByTurn cs ad raS raO zD zD) s.heap.size) (ww_X9_writeByTurn cs ad raS raO S O) := hD0.weaken (fun k q h _ => cA_in (ws := (ww_X9_writeByTurn cs ad raS raO S O)) (ws' := (ww_X9_writeByTurn cs ad raS raO zD zD)) rfl h)
  have hS : va_S (va_A (ww_X9_writeByTurn cs ad raS raO zD zD) s.heap.size) s.heap s.heap [] := va_S.rf
  have hinX3 := (show ∀ w ∈ wsX30, w ∈ wsX9_writeByTurn from fun w h => List.mem_cons_of_mem _ (List.mem_append_left _ (List.mem_append_right _ h)))
  have hinX9 := (show ∀ w ∈ wsX90, w ∈ wsX9_writeByTurn from fun w h => List.mem_cons_of_mem _ (List.mem_append_right _ h))
  have k_fieldLink_RX9_28__KeyLetters_State___writer___I_ := hts (.fieldLink RX9 28 "KeyLetters$State" "writer" "I") (List.mem_of_getElem? (i := 1) rfl)
  have hl := lv_entry ([.ref (raS 0), .ref (raO 0)]) (n := 5) (Nat.le_of_ble_eq_true rfl)
  rw [show entryFrame m args 5 = entryFrame m ([.ref (raS 0), .ref (raO 0)] : List Value).toArray 5 from by rw [hav], lg_entry_eq]
  generalize (lg_sl ([.ref (raS 0), .ref (raO 0)]) ++ List.replicate (5 - (lg_sl ([.ref (raS 0), .ref (raO 0)])).length) Slot.unset).toArray = ls at hl ⊢
  have hl : lv_has ls 5 [(0, .ref (raS 0)), (1, .ref (raO 0))] := hl
  unfold f_X9_writeByTurn at hf
  have h_45 : ∀ (x3_45 : Int32) (x4_45 : Int32) (S_45 : kD) (ls : Array Slot) (H : Heap) (locs : List Loc), lv_has ls 5 [(0, .ref (raS 0)), (1, .ref (raO 0)), (3, .int x3_45), (4, .int x4_45)] → va_P (dC, dI) vwCl (ww_X9_writeByTurn cs ad raS raO S_45 O) H → va_D (va_A (ww_X9_writeByTurn cs ad raS raO zD zD) s.heap.size) (ww_X9_writeByTurn cs ad raS raO S_45 O) → va_S (va_A (ww_X9_writeByTurn cs ad raS raO zD zD) s.heap.size) s.heap H locs → g_X9_writeByTurn_45 O x3_45 x4_45 S_45 = some r → W p l e (headSpec wsX9_writeByTurn rm_X9_writeByTurn).room s m args below meth c H locs 0 0 (MQ below (cQi dC dI cs (va_A (ww_X9_writeByTurn cs ad raS raO zD zD) s.heap.size) r.1 (ww_X9_writeByTurn cs ad raS raO r.2 O)) args s 0 0 (va_A (ww_X9_writeByTurn cs ad raS raO zD zD) s.heap.size)) (F0 m 45 ls []) := by
    intro x3_45 x4_45 S_45 ls H locs hl hP hD hS hf
    unfold g_X9_writeByTurn_45 at hf
    refine lv_aload_n hx hb dX9_writeByTurn_45 rfl (lv_at hl 0 rfl) ?_
    refine lv_aload_n hx hb dX9_writeByTurn_46 rfl (lv_at hl 1 rfl) ?_
    refine lv_iload_n hx hb dX9_writeByTurn_47 rfl (lv_at hl 2 rfl) ?_
    refine lv_iload hx hb dX9_writeByTurn_48 (lv_at hl 3 rfl) ?_
    obtain ⟨Sv2, hq1, hf⟩ := bo_e hf
    refine g_callv (isC := [0, 1, 2, 3, 4, 5, 6, 7, 8, 9, 10, 11, 12]) (isR := []) (wc := (ww_X9_put cs ad raS raO S_45 O)) (wz := (ww_X9_put cs ad raS raO zD zD)) (w1 := (ww_X9_put cs ad raS raO Sv2 O)) (ws' := (ww_X9_writeByTurn cs ad raS raO Sv2 O)) (va_runV (As := [.ref (raO 0), .int x3_45, .int x4_45]) (rest := []) ⟨hx, hb, hml, hown, hts⟩ (c_X9_put l dC dI cs ad raS raO _ S_45 O x3_45 x4_45 Sv2 hq1) (cwV 3 hts gX9_writeByTurn_X9_put rfl rfl rfl (by decide +kernel) ⟨Nat.le_of_ble_eq_true rfl, Nat.le_of_ble_eq_true rfl⟩) ⟨fun a U g mk q => ⟨q.1, (fun _ _ _ _ => cPw_bl) a U g mk q.2⟩, va_recv hK hP (ci := 10) (q0 := 0) rfl rfl, fun U hU hW => ⟨rfl, ⟨by rw [hU], by rw [hU]; exact (hP.sub (ws' := (ww_X9_put cs ad raS raO S_45 O)) [0, 1, 2, 3, 4, 5, 6, 7, 8, 9, 10, 11, 12] rfl), va_K.moved hW.alike hK, (hD.sub (ws' := (ww_X9_put cs ad raS raO S_45 O)) [0, 1, 2, 3, 4, 5, 6, 7, 8, 9, 10, 11, 12] (by decide) rfl).weaken (fun _ _ _ _ => trivial), kN_warm hW hN⟩⟩⟩ rfl rfl hl.1 rfl (lv_room (Nat.le_of_ble_eq_true rfl)) dX9_writeByTurn_50 ⟨Nat.le_refl _, Nat.le_refl _⟩) hP hD hS hA rfl rfl (wr := ([] : va_W)) rfl rfl rfl (nw := 13) rfl (by decide +kernel) rfl (fun H locs hP hD hS => ?_)
    refine lv_iconst (v := 1) hx hb dX9_writeByTurn_53 (by decide) ?_
    have hf := Option.some.inj hf
    subst hf
    exact c_zret (v := (1 : Int32)) hx hb hr rfl hlocks hP hK hD hS dX9_writeByTurn_54
  have h_2 := lp_ind (z := (fun _ _ => none)) (b := (g_X9_writeByTurn_2 O)) (fun (rc_2 : Int32 → kD → Option (Int32 × kD)) => ∀ (x2_2 : Int32) (S_2 : kD) (ls : Array Slot) (H : Heap) (locs : List Loc), lv_has ls 5 [(0, .ref (raS 0)), (1, .ref (raO 0)), (2, .int x2_2)] → va_P (dC, dI) vwCl (ww_X9_writeByTurn cs ad raS raO S_2 O) H → va_D (va_A (ww_X9_writeByTurn cs ad raS raO zD zD) s.heap.size) (ww_X9_writeByTurn cs ad raS raO S_2 O) → va_S (va_A (ww_X9_writeByTurn cs ad raS raO zD zD) s.heap.size) s.heap H locs → rc_2 x2_2 S_2 = some r → W p l e (headSpec wsX9_writeByTurn rm_X9_writeByTurn).room s m args below meth c H locs 0 0 (MQ below (cQi dC dI cs (va_A (ww_X9_writeByTurn cs ad raS raO zD zD) s.heap.size) r.1 (ww_X9_writeByTurn cs ad raS raO r.2 O)) args s 0 0 (va_A (ww_X9_writeByTurn cs ad raS raO zD zD) s.heap.size)) (F0 m 2 ls [])) (by
      intro x2_2 S_2 ls H locs hl hP hD hS hf
      cases hf) (by
      intro rc_2 ih_2 x2_2 S_2 ls H locs hl hP hD hS hf
      unfold g_X9_writeByTurn_2 at hf
      have h_61 : ∀ (x2_61 : Int32) (S_61 : kD) (ls : Array Slot) (H : Heap) (locs : List Loc), lv_has ls 5 [(0, .ref (raS 0)), (1, .ref (raO 0)), (2, .int x2_61)] → va_P (dC, dI) vwCl (ww_X9_writeByTurn cs ad raS raO S_61 O) H → va_D (va_A (ww_X9_writeByTurn cs ad raS raO zD zD) s.heap.size) (ww_X9_writeByTurn cs ad raS raO S_61 O) → va_S (va_A (ww_X9_writeByTurn cs ad raS raO zD zD) s.heap.size) s.heap H locs → g_X9_writeByTurn_61 rc_2 O x2_61 S_61 = some r → W p l e (headSpec wsX9_writeByTurn rm_X9_writeByTurn).room s m args below meth c H locs 0 0 (MQ below (cQi dC dI cs (va_A (ww_X9_writeByTurn cs ad raS raO zD zD) s.heap.size) r.1 (ww_X9_writeByTurn cs ad raS raO r.2 O)) args s 0 0 (va_A (ww_X9_writeByTurn cs ad raS raO zD zD) s.heap.size)) (F0 m 61 ls []) := by
        intro x2_61 S_61 ls H locs hl hP hD hS hf
        unfold g_X9_writeByTurn_61 at hf
        obtain ⟨v3, ev3, hf⟩ := bd1_e hf
        refine lv_iinc (k := 2) (x := x2_61) (v := v3) (nL := 5) (lv' := [(2, .int v3), (0, .ref (raS 0)), (1, .ref (raO 0))]) hx hb dX9_writeByTurn_61 hl rfl (kt_inc (w := 1) (by decide) ev3) (by decide) rfl (fun ls hl => ?_)
        refine lv_goto (tgt := 2) hx hb dX9_writeByTurn_64 (by decide) ?_
        exact ih_2 v3 S_61 ls _ _ (lv_sub hl [1, 2, 0] rfl) hP hD hS hf
      have h_25 := lp_ind (z := (fun _ _ _ _ => none)) (b := (g_X9_writeByTurn_25 rc_2 O)) (fun (rc_25 : Int32 → Int32 → Int32 → kD → Option (Int32 × kD)) => ∀ (x2_25 : Int32) (x3_25 : Int32) (x4_25 : Int32) (S_25 : kD) (ls : Array Slot) (H : Heap) (locs : List Loc), lv_has ls 5 [(0, .ref (raS 0)), (1, .ref (raO 0)), (2, .int x2_25), (3, .int x3_25), (4, .int x4_25)] → va_P (dC, dI) vwCl (ww_X9_writeByTurn cs ad raS raO S_25 O) H → va_D (va_A (ww_X9_writeByTurn cs ad raS raO zD zD) s.heap.size) (ww_X9_writeByTurn cs ad raS raO S_25 O) → va_S (va_A (ww_X9_writeByTurn cs ad raS raO zD zD) s.heap.size) s.heap H locs → rc_25 x2_25 x3_25 x4_25 S_25 = some r → W p l e (headSpec wsX9_writeByTurn rm_X9_writeByTurn).room s m args below meth c H locs 0 0 (MQ below (cQi dC dI cs (va_A (ww_X9_writeByTurn cs ad raS raO zD zD) s.heap.size) r.1 (ww_X9_writeByTurn cs ad raS raO r.2 O)) args s 0 0 (va_A (ww_X9_writeByTurn cs ad raS raO zD zD) s.heap.size)) (F0 m 25 ls [])) (by
          intro x2_25 x3_25 x4_25 S_25 ls H locs hl hP hD hS hf
          cases hf) (by
          intro rc_25 ih_25 x2_25 x3_25 x4_25 S_25 ls H locs hl hP hD hS hf
          unfold g_X9_writeByTurn_25 at hf
          refine lv_iload hx hb dX9_writeByTurn_25 (lv_at hl 4 rfl) ?_
          refine lv_aload_n hx hb dX9_writeByTurn_27 rfl (lv_at hl 1 rfl) ?_
          refine va_getN (D := (dC, dI)) (ci := 4) (C := RX3) (T := TX3) (N := 11) hx hb hts hinX3 hown hK hP 5 rfl rfl 2 (by decide) (v := .int (O.1 0 2)) (va_Nw.use rfl (hN _ (List.mem_of_getElem? (i := 17) rfl))) (fun _ h9 => h9) rfl dX9_writeByTurn_28 ?_
          refine lv_icmp_ge (tgt := 61) hx hb dX9_writeByTurn_31 (by decide) (fun hb8 => ?_) (fun hb8 => ?_)
          · have hf := (if_pos hb8).symm.trans hf
            exact h_61 x2_25 S_25 ls _ _ (lv_sub hl [0, 1, 2] rfl) hP hD hS hf
          · have hf := (if_neg hb8).symm.trans hf
            refine lv_aload_n hx hb dX9_writeByTurn_34 rfl (lv_at hl 0 rfl) ?_
            refine lv_aload_n hx hb dX9_writeByTurn_35 rfl (lv_at hl 1 rfl) ?_
            refine lv_iload_n hx hb dX9_writeByTurn_36 rfl (lv_at hl 3 rfl) ?_
            refine lv_iload hx hb dX9_writeByTurn_37 (lv_at hl 4 rfl) ?_
            obtain ⟨v5, hq4, hf⟩ := bo_e hf
            refine ko_call (v := some (.int v5)) (va_runV (As := [.ref (raO 0), .int x3_25, .int x4_25]) (rest := []) ⟨hx, hb, hml, hown, hts⟩ (c_X9_whyNotWrite l dC dI cs ad raS raO S_25 O x3_25 x4_25 v5 hq4) (cwV 3 hts gX9_writeByTurn_X9_whyNotWrite rfl rfl rfl (by decide +kernel) ⟨Nat.le_of_ble_eq_true rfl, Nat.le_of_ble_eq_true rfl⟩) ⟨fun a U g mk q => ⟨q.1, (fun _ _ _ _ => cPr_bl) a U g mk q.2⟩, va_recv hK hP (ci := 10) (q0 := 0) rfl rfl, fun U hU hW => ⟨rfl, ⟨by rw [hU]; exact (hP.sub (ws' := (ww_X9_whyNotWrite cs ad raS raO S_25 O)) [0, 1, 2, 3, 4, 5, 6, 7, 8, 9, 10, 11, 12] rfl), va_K.moved hW.alike hK, kN_warm hW hN⟩⟩⟩ rfl rfl hl.1 rfl (lv_room (Nat.le_of_ble_eq_true rfl)) dX9_writeByTurn_39 ⟨Nat.le_refl _, Nat.le_refl _⟩) ?_
            refine lv_if_ne (tgt := 55) hx hb dX9_writeByTurn_42 (by decide) (fun hb7 => ?_) (fun hb7 => ?_)
            · have hf := (if_neg hb7).symm.trans hf
              obtain ⟨v6, ev6, hf⟩ := bd1_e hf
              refine lv_iinc (k := 4) (x := x4_25) (v := v6) (nL := 5) (lv' := [(4, .int v6), (0, .ref (raS 0)), (1, .ref (raO 0)), (2, .int x2_25), (3, .int x3_25)]) hx hb dX9_writeByTurn_55 hl rfl (kt_inc (w := 1) (by decide) ev6) (by decide) rfl (fun ls hl => ?_)
              refine lv_goto (tgt := 25) hx hb dX9_writeByTurn_58 (by decide) ?_
              exact ih_25 x2_25 x3_25 v6 S_25 ls _ _ (lv_sub hl [1, 2, 3, 4, 0] rfl) hP hD hS hf
            · have hf := (if_pos hb7).symm.trans hf
              exact h_45 x3_25 x4_25 S_25 ls _ _ (lv_sub hl [0, 1, 3, 4] rfl) hP hD hS hf) 2000
      refine lv_iload_n hx hb dX9_writeByTurn_2 rfl (lv_at hl 2 rfl) ?_
      refine lv_aload_n hx hb dX9_writeByTurn_3 rfl (lv_at hl 1 rfl) ?_
      refine va_getN (D := (dC, dI)) (ci := 4) (C := RX3) (T := TX3) (N := 11) hx hb hts hinX3 hown hK hP 5 rfl rfl 1 (by decide) (v := .int (O.1 0 1)) (va_Nw.use rfl (hN _ (List.mem_of_getElem? (i := 13) rfl))) (fun _ h9 => h9) rfl dX9_writeByTurn_4 ?_
      refine lv_icmp_gt (tgt := 67) hx hb dX9_writeByTurn_7 (by decide) (fun hb11 => ?_) (fun hb11 => ?_)
      · have hf := (if_pos hb11).symm.trans hf
        refine lv_iconst (v := 0) hx hb dX9_writeByTurn_67 (by decide) ?_
        have hf := Option.some.inj hf
        subst hf
        exact c_zret (v := (0 : Int32)) hx hb hr rfl hlocks hP hK hD hS dX9_writeByTurn_68
      · have hf := (if_neg hb11).symm.trans hf
        refine lv_aload_n hx hb dX9_writeByTurn_10 rfl (lv_at hl 0 rfl) ?_
        refine va_get (D := (dC, dI)) (ci := 10) (C := RX9) (T := TX9) (N := 9) hx hb hts hinX9 hown hK hP 0 rfl rfl 2 (by decide) (v := .int (S_2.1 0 2)) k_fieldLink_RX9_28__KeyLetters_State___writer___I_ (fun _ h9 => h9) rfl dX9_writeByTurn_11 ?_
        refine lv_iload_n hx hb dX9_writeByTurn_14 rfl (lv_at hl 2 rfl) ?_
        refine lv_iadd hx hb dX9_writeByTurn_15 ?_
        refine lv_aload_n hx hb dX9_writeByTurn_16 rfl (lv_at hl 1 rfl) ?_
        refine va_getN (D := (dC, dI)) (ci := 4) (C := RX3) (T := TX3) (N := 11) hx hb hts hinX3 hown hK hP 5 rfl rfl 1 (by decide) (v := .int (O.1 0 1)) (va_Nw.use rfl (hN _ (List.mem_of_getElem? (i := 13) rfl))) (fun _ h9 => h9) rfl dX9_writeByTurn_17 ?_
        obtain ⟨hc9, hf⟩ := ck_e hf
        refine lv_irem hx hb dX9_writeByTurn_20 hc9 ?_
        obtain ⟨v10, ev10, hf⟩ := bd1_e hf
        refine kt_i ev10 ?_
        refine lv_istore_n (nL := 5) (lv' := [(3, .int v10), (0, .ref (raS 0)), (1, .ref (raO 0)), (2, .int x2_2)]) hx hb dX9_writeByTurn_21 rfl hl (by decide) rfl (fun ls hl => ?_)
        refine lv_iconst (v := 0) hx hb dX9_writeByTurn_22 (by decide) ?_
        refine lv_istore (nL := 5) (lv' := [(4, .int (0 : Int32)), (3, .int v10), (0, .ref (raS 0)), (1, .ref (raO 0)), (2, .int x2_2)]) hx hb dX9_writeByTurn_23 hl (by decide) rfl (fun ls hl => ?_)
        exact h_25 x2_2 v10 (0 : Int32) S_2 ls _ _ (lv_sub hl [2, 3, 4, 1, 0] rfl) hP hD hS hf) 2000
  refine lv_iconst (v := 1) hx hb dX9_writeByTurn_0 (by decide) ?_
  refine lv_istore_n (nL := 5) (lv' := [(2, .int (1 : Int32)), (0, .ref (raS 0)), (1, .ref (raO 0))]) hx hb dX9_writeByTurn_1 rfl hl (by decide) rfl (fun ls hl => ?_)
  exact h_2 (1 : Int32) S ls _ _ (lv_sub hl [1, 2, 0] rfl) hP hD hS hf

def ww_X9_passDay (cs : Nat → ClassId) (ad : Nat → Nat) (raS : Nat → Nat) (raO : Nat → Nat) (S : kD) (O : kD) : va_W := (wX9 cs ad raS S ++ (wX3 cs ad raO O))
abbrev rm_X9_passDay : Room := { frames := 4, cells := 0, slots := 0, locals := 90 }
set_option maxHeartbeats 4000000 in
set_option maxRecDepth 100000 in
theorem c_X9_passDay (l : Launch) (dC : Nat → ClassId) (dI : Nat → Nat → Nat) (cs : Nat → ClassId) (ad : Nat → Nat) (raS : Nat → Nat) (raO : Nat → Nat) (sz : Nat) (S : kD) (O : kD) (r : Int32 × kD) (hf : f_X9_passDay S O = some r) : Met l yX9_passDay wsX9_passDay rm_X9_passDay (va_Pc [.ref (raS 0), .ref (raO 0)] (cPw dC dI cs sz (ww_X9_passDay cs ad raS raO S O))) (cQi dC dI cs (va_A (ww_X9_passDay cs ad raS raO zD zD) sz) r.1 (ww_X9_passDay cs ad raS raO r.2 O)) 0 0 (va_A (ww_X9_passDay cs ad raS raO zD zD) sz) := by
  refine Met.ofW (cc := cX9_passDay) (maxL := 3) (ret := (some .boolean)) (by decide) rfl ?_
  intro p e s m args below meth c s₁ B hml hv
  obtain ⟨hav, hsz, hP, hK, hD0, hN⟩ := hv
  have hx := B.exec
  have hb := B.bytes
  have hr := B.returns
  have hts := atoms_spec (ws := wsX9_passDay) B.pre
  have hown : s.vm.findClass RX9 = some m.cls := findClass_of_methodNamed B.named
  have hlocks := B.notSynchronized
  subst hsz
  have hA : ∀ q, s.heap.size ≤ q → va_A (ww_X9_passDay cs ad raS raO zD zD) s.heap.size q := fun q h => Or.inr h
  have hD : va_D (va_A (ww_X9_passDay cs ad raS raO zD zD) s.heap.size) (ww_X9_passDay cs ad raS raO S O) := hD0.weaken (fun k q h _ => cA_in (ws := (ww_X9_passDay cs ad raS raO S O)) (ws' := (ww_X9_passDay cs ad raS raO zD zD)) rfl h)
  have hS : va_S (va_A (ww_X9_passDay cs ad raS raO zD zD) s.heap.size) s.heap s.heap [] := va_S.rf
  have hinX9 := (show ∀ w ∈ wsX90, w ∈ wsX9_passDay from fun w h => List.mem_cons_of_mem _ (List.mem_append_left _ (List.mem_append_right _ h)))
  have k_fieldLink_RX9_24__KeyLetters_State___latest___I_ := hts (.fieldLink RX9 24 "KeyLetters$State" "latest" "I") (List.mem_of_getElem? (i := 1) rfl)
  have k_fieldLink_RX9_28__KeyLetters_State___writer___I_ := hts (.fieldLink RX9 28 "KeyLetters$State" "writer" "I") (List.mem_of_getElem? (i := 2) rfl)
  have k_fieldLink_RX9_31__KeyLetters_State___day___I_ := hts (.fieldLink RX9 31 "KeyLetters$State" "day" "I") (List.mem_of_getElem? (i := 4) rfl)
  have k_fieldLink_RX9_37__KeyLetters_State___lettersOver___I_ := hts (.fieldLink RX9 37 "KeyLetters$State" "lettersOver" "I") (List.mem_of_getElem? (i := 3) rfl)
  have hl := lv_entry ([.ref (raS 0), .ref (raO 0)]) (n := 3) (Nat.le_of_ble_eq_true rfl)
  rw [show entryFrame m args 3 = entryFrame m ([.ref (raS 0), .ref (raO 0)] : List Value).toArray 3 from by rw [hav], lg_entry_eq]
  generalize (lg_sl ([.ref (raS 0), .ref (raO 0)]) ++ List.replicate (3 - (lg_sl ([.ref (raS 0), .ref (raO 0)])).length) Slot.unset).toArray = ls at hl ⊢
  have hl : lv_has ls 3 [(0, .ref (raS 0)), (1, .ref (raO 0))] := hl
  unfold f_X9_passDay at hf
  have h_38 : ∀ (x2_38 : Int32) (S_38 : kD) (ls : Array Slot) (H : Heap) (locs : List Loc), lv_has ls 3 [(0, .ref (raS 0)), (2, .int x2_38)] → va_P (dC, dI) vwCl (ww_X9_passDay cs ad raS raO S_38 O) H → va_D (va_A (ww_X9_passDay cs ad raS raO zD zD) s.heap.size) (ww_X9_passDay cs ad raS raO S_38 O) → va_S (va_A (ww_X9_passDay cs ad raS raO zD zD) s.heap.size) s.heap H locs → g_X9_passDay_38 O x2_38 S_38 = some r → W p l e (headSpec wsX9_passDay rm_X9_passDay).room s m args below meth c H locs 0 0 (MQ below (cQi dC dI cs (va_A (ww_X9_passDay cs ad raS raO zD zD) s.heap.size) r.1 (ww_X9_passDay cs ad raS raO r.2 O)) args s 0 0 (va_A (ww_X9_passDay cs ad raS raO zD zD) s.heap.size)) (F0 m 38 ls []) := by
    intro x2_38 S_38 ls H locs hl hP hD hS hf
    unfold g_X9_passDay_38 at hf
    refine lv_aload_n hx hb dX9_passDay_38 rfl (lv_at hl 0 rfl) ?_
    refine lv_dup hx hb dX9_passDay_39 rfl ?_
    refine va_get (D := (dC, dI)) (ci := 10) (C := RX9) (T := TX9) (N := 9) hx hb hts hinX9 hown hK hP 0 rfl rfl 0 (by decide) (v := .int (S_38.1 0 0)) k_fieldLink_RX9_31__KeyLetters_State___day___I_ (fun _ h9 => h9) rfl dX9_passDay_40 ?_
    refine lv_iconst (v := 1) hx hb dX9_passDay_43 (by decide) ?_
    refine lv_iadd hx hb dX9_passDay_44 ?_
    obtain ⟨Sv1, eSv1, hf⟩ := bd1_e hf
    refine g_put (D := (dC, dI)) (ci := 10) (C := RX9) (T := TX9) (N := 9) hx hb hts hinX9 tyX9 tyX9_ok nmX9 hown hK hP hD hS 0 rfl rfl 0 (by decide) k_fieldLink_RX9_31__KeyLetters_State___day___I_ (fun _ h9 => h9) rfl (ty := .int) (v := .int ((S_38.1 0 0) + (1 : Int32))) (by decide +kernel) rfl rfl (Nat.le_of_ble_eq_true rfl) (ws' := (ww_X9_passDay cs ad raS raO Sv1 O)) (by rw [eSv1]; rfl) dX9_passDay_45 (fun H locs hP hD hS => ?_)
    refine lv_iload_n hx hb dX9_passDay_48 rfl (lv_at hl 1 rfl) ?_
    obtain ⟨hc2, hf⟩ := ck_e hf
    have hf := Option.some.inj hf
    subst hf
    exact c_zret (v := x2_38) hx hb hr (kt_z (Decidable.not_not.mp hc2)) hlocks hP hK hD hS dX9_passDay_49
  refine lv_aload_n hx hb dX9_passDay_0 rfl (lv_at hl 0 rfl) ?_
  refine lv_aload_n hx hb dX9_passDay_1 rfl (lv_at hl 1 rfl) ?_
  obtain ⟨v4, Sv5, hq3, hf⟩ := bo2_e hf
  refine g_callw (isC := [0, 1, 2, 3, 4, 5, 6, 7, 8, 9, 10, 11, 12]) (isR := []) (wc := (ww_X9_writeByTurn cs ad raS raO S O)) (wz := (ww_X9_writeByTurn cs ad raS raO zD zD)) (w1 := (ww_X9_writeByTurn cs ad raS raO Sv5 O)) (ws' := (ww_X9_passDay cs ad raS raO Sv5 O)) (v := v4) (va_runV (As := [.ref (raO 0)]) (rest := []) ⟨hx, hb, hml, hown, hts⟩ (c_X9_writeByTurn l dC dI cs ad raS raO _ S O (v4, Sv5) hq3) (cwV 1 hts gX9_passDay_X9_writeByTurn rfl rfl rfl (by decide +kernel) ⟨Nat.le_of_ble_eq_true rfl, Nat.le_of_ble_eq_true rfl⟩) ⟨fun a U g mk q => ⟨q.1, (fun _ _ _ _ => cPw_bl) a U g mk q.2⟩, va_recv hK hP (ci := 10) (q0 := 0) rfl rfl, fun U hU hW => ⟨rfl, ⟨by rw [hU], by rw [hU]; exact (hP.sub (ws' := (ww_X9_writeByTurn cs ad raS raO S O)) [0, 1, 2, 3, 4, 5, 6, 7, 8, 9, 10, 11, 12] rfl), va_K.moved hW.alike hK, (hD.sub (ws' := (ww_X9_writeByTurn cs ad raS raO S O)) [0, 1, 2, 3, 4, 5, 6, 7, 8, 9, 10, 11, 12] (by decide) rfl).weaken (fun _ _ _ _ => trivial), kN_warm hW hN⟩⟩⟩ rfl rfl hl.1 rfl (lv_room (Nat.le_of_ble_eq_true rfl)) dX9_passDay_2 ⟨Nat.le_refl _, Nat.le_refl _⟩) hP hD hS hA rfl rfl (wr := ([] : va_W)) rfl rfl rfl (nw := 13) rfl (by decide +kernel) rfl (fun H locs hP hD hS => ?_)
  refine lv_istore_n (nL := 3) (lv' := [(2, .int v4), (0, .ref (raS 0)), (1, .ref (raO 0))]) hx hb dX9_passDay_5 rfl hl (by decide) rfl (fun ls hl => ?_)
  refine lv_iload_n hx hb dX9_passDay_6 rfl (lv_at hl 0 rfl) ?_
  refine lv_if_ne (tgt := 38) hx hb dX9_passDay_7 (by decide) (fun hb10 => ?_) (fun hb10 => ?_)
  · have hf := (if_neg hb10).symm.trans hf
    exact h_38 v4 Sv5 ls _ _ (lv_sub hl [1, 0] rfl) hP hD hS hf
  · have hf := (if_pos hb10).symm.trans hf
    refine lv_aload_n hx hb dX9_passDay_10 rfl (lv_at hl 1 rfl) ?_
    refine va_get (D := (dC, dI)) (ci := 10) (C := RX9) (T := TX9) (N := 9) hx hb hts hinX9 hown hK hP 0 rfl rfl 1 (by decide) (v := .int (Sv5.1 0 1)) k_fieldLink_RX9_24__KeyLetters_State___latest___I_ (fun _ h9 => h9) rfl dX9_passDay_11 ?_
    refine lv_iconst (v := -1) hx hb dX9_passDay_14 (by decide) ?_
    refine lv_icmp_eq (tgt := 38) hx hb dX9_passDay_15 (by decide) (fun hb9 => ?_) (fun hb9 => ?_)
    · have hf := (if_pos hb9).symm.trans hf
      exact h_38 v4 Sv5 ls _ _ (lv_sub hl [1, 0] rfl) hP hD hS hf
    · have hf := (if_neg hb9).symm.trans hf
      refine lv_aload_n hx hb dX9_passDay_18 rfl (lv_at hl 1 rfl) ?_
      refine lv_iconst (v := -1) hx hb dX9_passDay_19 (by decide) ?_
      obtain ⟨Sv6, eSv6, hf⟩ := bd1_e hf
      refine g_put (D := (dC, dI)) (ci := 10) (C := RX9) (T := TX9) (N := 9) hx hb hts hinX9 tyX9 tyX9_ok nmX9 hown hK hP hD hS 0 rfl rfl 1 (by decide) k_fieldLink_RX9_24__KeyLetters_State___latest___I_ (fun _ h9 => h9) rfl (ty := .int) (v := .int (-1 : Int32)) (by decide +kernel) rfl rfl (Nat.le_of_ble_eq_true rfl) (ws' := (ww_X9_passDay cs ad raS raO Sv6 O)) (by rw [eSv6]; rfl) dX9_passDay_20 (fun H locs hP hD hS => ?_)
      refine lv_aload_n hx hb dX9_passDay_23 rfl (lv_at hl 1 rfl) ?_
      refine lv_iconst (v := -1) hx hb dX9_passDay_24 (by decide) ?_
      obtain ⟨Sv7, eSv7, hf⟩ := bd1_e hf
      refine g_put (D := (dC, dI)) (ci := 10) (C := RX9) (T := TX9) (N := 9) hx hb hts hinX9 tyX9 tyX9_ok nmX9 hown hK hP hD hS 0 rfl rfl 2 (by decide) k_fieldLink_RX9_28__KeyLetters_State___writer___I_ (fun _ h9 => h9) rfl (ty := .int) (v := .int (-1 : Int32)) (by decide +kernel) rfl rfl (Nat.le_of_ble_eq_true rfl) (ws' := (ww_X9_passDay cs ad raS raO Sv7 O)) (by rw [eSv7]; rfl) dX9_passDay_25 (fun H locs hP hD hS => ?_)
      refine lv_aload_n hx hb dX9_passDay_28 rfl (lv_at hl 1 rfl) ?_
      refine lv_dup hx hb dX9_passDay_29 rfl ?_
      refine va_get (D := (dC, dI)) (ci := 10) (C := RX9) (T := TX9) (N := 9) hx hb hts hinX9 hown hK hP 0 rfl rfl 4 (by decide) (v := .int (Sv7.1 0 4)) k_fieldLink_RX9_37__KeyLetters_State___lettersOver___I_ (fun _ h9 => h9) rfl dX9_passDay_30 ?_
      refine lv_iconst (v := 1) hx hb dX9_passDay_33 (by decide) ?_
      refine lv_iadd hx hb dX9_passDay_34 ?_
      obtain ⟨Sv8, eSv8, hf⟩ := bd1_e hf
      refine g_put (D := (dC, dI)) (ci := 10) (C := RX9) (T := TX9) (N := 9) hx hb hts hinX9 tyX9 tyX9_ok nmX9 hown hK hP hD hS 0 rfl rfl 4 (by decide) k_fieldLink_RX9_37__KeyLetters_State___lettersOver___I_ (fun _ h9 => h9) rfl (ty := .int) (v := .int ((Sv7.1 0 4) + (1 : Int32))) (by decide +kernel) rfl rfl (Nat.le_of_ble_eq_true rfl) (ws' := (ww_X9_passDay cs ad raS raO Sv8 O)) (by rw [eSv8]; rfl) dX9_passDay_35 (fun H locs hP hD hS => ?_)
      exact h_38 v4 Sv8 ls _ _ (lv_sub hl [1, 0] rfl) hP hD hS hf

def ww_X9_passDays (cs : Nat → ClassId) (ad : Nat → Nat) (raS : Nat → Nat) (raO : Nat → Nat) (S : kD) (O : kD) : va_W := (wX9 cs ad raS S ++ (wX3 cs ad raO O))
abbrev rm_X9_passDays : Room := { frames := 5, cells := 0, slots := 0, locals := 112 }
set_option maxHeartbeats 4000000 in
set_option maxRecDepth 100000 in
theorem c_X9_passDays (l : Launch) (dC : Nat → ClassId) (dI : Nat → Nat → Nat) (cs : Nat → ClassId) (ad : Nat → Nat) (raS : Nat → Nat) (raO : Nat → Nat) (sz : Nat) (S : kD) (O : kD) (a1 : Int32) (r : kD) (hf : f_X9_passDays a1 S O = some r) : Met l yX9_passDays wsX9_passDays rm_X9_passDays (va_Pc [.ref (raS 0), .ref (raO 0), .int a1] (cPw dC dI cs sz (ww_X9_passDays cs ad raS raO S O))) (cQv dC dI cs (va_A (ww_X9_passDays cs ad raS raO zD zD) sz) (ww_X9_passDays cs ad raS raO r O)) 0 0 (va_A (ww_X9_passDays cs ad raS raO zD zD) sz) := by
  refine Met.ofW (cc := cX9_passDays) (maxL := 4) (ret := none) (by decide) rfl ?_
  intro p e s m args below meth c s₁ B hml hv
  obtain ⟨hav, hsz, hP, hK, hD0, hN⟩ := hv
  have hx := B.exec
  have hb := B.bytes
  have hr := B.returns
  have hts := atoms_spec (ws := wsX9_passDays) B.pre
  have hown : s.vm.findClass RX9 = some m.cls := findClass_of_methodNamed B.named
  have hlocks := B.notSynchronized
  subst hsz
  have hA : ∀ q, s.heap.size ≤ q → va_A (ww_X9_passDays cs ad raS raO zD zD) s.heap.size q := fun q h => Or.inr h
  have hD : va_D (va_A (ww_X9_passDays cs ad raS raO zD zD) s.heap.size) (ww_X9_passDays cs ad raS raO S O) := hD0.weaken (fun k q h _ => cA_in (ws := (ww_X9_passDays cs ad raS raO S O)) (ws' := (ww_X9_passDays cs ad raS raO zD zD)) rfl h)
  have hS : va_S (va_A (ww_X9_passDays cs ad raS raO zD zD) s.heap.size) s.heap s.heap [] := va_S.rf
  have hl := lv_entry ([.ref (raS 0), .ref (raO 0), .int a1]) (n := 4) (Nat.le_of_ble_eq_true rfl)
  rw [show entryFrame m args 4 = entryFrame m ([.ref (raS 0), .ref (raO 0), .int a1] : List Value).toArray 4 from by rw [hav], lg_entry_eq]
  generalize (lg_sl ([.ref (raS 0), .ref (raO 0), .int a1]) ++ List.replicate (4 - (lg_sl ([.ref (raS 0), .ref (raO 0), .int a1])).length) Slot.unset).toArray = ls at hl ⊢
  have hl : lv_has ls 4 [(0, .ref (raS 0)), (1, .ref (raO 0)), (2, .int a1)] := hl
  unfold f_X9_passDays at hf
  have h_2 := lp_ind (z := (fun _ _ _ => none)) (b := (g_X9_passDays_2 O)) (fun (rc_2 : Int32 → Int32 → kD → Option kD) => ∀ (x2_2 : Int32) (x3_2 : Int32) (S_2 : kD) (ls : Array Slot) (H : Heap) (locs : List Loc), lv_has ls 4 [(0, .ref (raS 0)), (1, .ref (raO 0)), (2, .int x2_2), (3, .int x3_2)] → va_P (dC, dI) vwCl (ww_X9_passDays cs ad raS raO S_2 O) H → va_D (va_A (ww_X9_passDays cs ad raS raO zD zD) s.heap.size) (ww_X9_passDays cs ad raS raO S_2 O) → va_S (va_A (ww_X9_passDays cs ad raS raO zD zD) s.heap.size) s.heap H locs → rc_2 x2_2 x3_2 S_2 = some r → W p l e (headSpec wsX9_passDays rm_X9_passDays).room s m args below meth c H locs 0 0 (MQ below (cQv dC dI cs (va_A (ww_X9_passDays cs ad raS raO zD zD) s.heap.size) (ww_X9_passDays cs ad raS raO r O)) args s 0 0 (va_A (ww_X9_passDays cs ad raS raO zD zD) s.heap.size)) (F0 m 2 ls [])) (by
      intro x2_2 x3_2 S_2 ls H locs hl hP hD hS hf
      cases hf) (by
      intro rc_2 ih_2 x2_2 x3_2 S_2 ls H locs hl hP hD hS hf
      unfold g_X9_passDays_2 at hf
      refine lv_iload_n hx hb dX9_passDays_2 rfl (lv_at hl 3 rfl) ?_
      refine lv_iload_n hx hb dX9_passDays_3 rfl (lv_at hl 2 rfl) ?_
      refine lv_icmp_ge (tgt := 19) hx hb dX9_passDays_4 (by decide) (fun hb5 => ?_) (fun hb5 => ?_)
      · have hf := (if_pos hb5).symm.trans hf
        have hf := Option.some.inj hf
        subst hf
        exact c_vret hx hb hr hlocks hP hK hD hS dX9_passDays_19
      · have hf := (if_neg hb5).symm.trans hf
        refine lv_aload_n hx hb dX9_passDays_7 rfl (lv_at hl 0 rfl) ?_
        refine lv_aload_n hx hb dX9_passDays_8 rfl (lv_at hl 1 rfl) ?_
        obtain ⟨v2, Sv3, hq1, hf⟩ := bo2_e hf
        refine g_callw (isC := [0, 1, 2, 3, 4, 5, 6, 7, 8, 9, 10, 11, 12]) (isR := []) (wc := (ww_X9_passDay cs ad raS raO S_2 O)) (wz := (ww_X9_passDay cs ad raS raO zD zD)) (w1 := (ww_X9_passDay cs ad raS raO Sv3 O)) (ws' := (ww_X9_passDays cs ad raS raO Sv3 O)) (v := v2) (va_runV (As := [.ref (raO 0)]) (rest := []) ⟨hx, hb, hml, hown, hts⟩ (c_X9_passDay l dC dI cs ad raS raO _ S_2 O (v2, Sv3) hq1) (cwV 1 hts gX9_passDays_X9_passDay rfl rfl rfl (by decide +kernel) ⟨Nat.le_of_ble_eq_true rfl, Nat.le_of_ble_eq_true rfl⟩) ⟨fun a U g mk q => ⟨q.1, (fun _ _ _ _ => cPw_bl) a U g mk q.2⟩, va_recv hK hP (ci := 10) (q0 := 0) rfl rfl, fun U hU hW => ⟨rfl, ⟨by rw [hU], by rw [hU]; exact (hP.sub (ws' := (ww_X9_passDay cs ad raS raO S_2 O)) [0, 1, 2, 3, 4, 5, 6, 7, 8, 9, 10, 11, 12] rfl), va_K.moved hW.alike hK, (hD.sub (ws' := (ww_X9_passDay cs ad raS raO S_2 O)) [0, 1, 2, 3, 4, 5, 6, 7, 8, 9, 10, 11, 12] (by decide) rfl).weaken (fun _ _ _ _ => trivial), kN_warm hW hN⟩⟩⟩ rfl rfl hl.1 rfl (lv_room (Nat.le_of_ble_eq_true rfl)) dX9_passDays_9 ⟨Nat.le_refl _, Nat.le_refl _⟩) hP hD hS hA rfl rfl (wr := ([] : va_W)) rfl rfl rfl (nw := 13) rfl (by decide +kernel) rfl (fun H locs hP hD hS => ?_)
        refine lv_pop hx hb dX9_passDays_12 rfl ?_
        obtain ⟨v4, ev4, hf⟩ := bd1_e hf
        refine lv_iinc (k := 3) (x := x3_2) (v := v4) (nL := 4) (lv' := [(3, .int v4), (0, .ref (raS 0)), (1, .ref (raO 0)), (2, .int x2_2)]) hx hb dX9_passDays_13 hl rfl (kt_inc (w := 1) (by decide) ev4) (by decide) rfl (fun ls hl => ?_)
        refine lv_goto (tgt := 2) hx hb dX9_passDays_16 (by decide) ?_
        exact ih_2 x2_2 v4 Sv3 ls _ _ (lv_sub hl [1, 2, 3, 0] rfl) hP hD hS hf) 2000
  refine lv_iconst (v := 0) hx hb dX9_passDays_0 (by decide) ?_
  refine lv_istore_n (nL := 4) (lv' := [(3, .int (0 : Int32)), (0, .ref (raS 0)), (1, .ref (raO 0)), (2, .int a1)]) hx hb dX9_passDays_1 rfl hl (by decide) rfl (fun ls hl => ?_)
  exact h_2 a1 (0 : Int32) S ls _ _ (lv_sub hl [1, 2, 3, 0] rfl) hP hD hS hf

def ww_X9_settle (cs : Nat → ClassId) (ad : Nat → Nat) (raS : Nat → Nat) (S : kD) : va_W := (wX9 cs ad raS S)
abbrev rm_X9_settle : Room := { frames := 1, cells := 0, slots := 0, locals := 40 }
set_option maxHeartbeats 4000000 in
set_option maxRecDepth 100000 in
theorem c_X9_settle (l : Launch) (dC : Nat → ClassId) (dI : Nat → Nat → Nat) (cs : Nat → ClassId) (ad : Nat → Nat) (raS : Nat → Nat) (sz : Nat) (S : kD) (r : kD) (hf : f_X9_settle S = some r) : Met l yX9_settle wsX9_settle rm_X9_settle (va_Pc [.ref (raS 0)] (cPw dC dI cs sz (ww_X9_settle cs ad raS S))) (cQv dC dI cs (va_A (ww_X9_settle cs ad raS zD) sz) (ww_X9_settle cs ad raS r)) 0 0 (va_A (ww_X9_settle cs ad raS zD) sz) := by
  refine Met.ofW (cc := cX9_settle) (maxL := 4) (ret := none) (by decide) rfl ?_
  intro p e s m args below meth c s₁ B hml hv
  obtain ⟨hav, hsz, hP, hK, hD0, hN⟩ := hv
  have hx := B.exec
  have hb := B.bytes
  have hr := B.returns
  have hts := atoms_spec (ws := wsX9_settle) B.pre
  have hown : s.vm.findClass RX9 = some m.cls := findClass_of_methodNamed B.named
  have hlocks := B.notSynchronized
  subst hsz
  have hA : ∀ q, s.heap.size ≤ q → va_A (ww_X9_settle cs ad raS zD) s.heap.size q := fun q h => Or.inr h
  have hD : va_D (va_A (ww_X9_settle cs ad raS zD) s.heap.size) (ww_X9_settle cs ad raS S) := hD0.weaken (fun k q h _ => cA_in (ws := (ww_X9_settle cs ad raS S)) (ws' := (ww_X9_settle cs ad raS zD)) rfl h)
  have hS : va_S (va_A (ww_X9_settle cs ad raS zD) s.heap.size) s.heap s.heap [] := va_S.rf
  have k_code_Lib_Math_min_name_Lib_Math_min_code_2__some__int_ := hts (.code Lib.Math.min.name Lib.Math.min.code 2 (some .int)) (List.mem_of_getElem? (i := 4) rfl)
  have k_initialized__java_lang_Math_ := hts (.initialized "java/lang/Math") (List.mem_of_getElem? (i := 3) rfl)
  have k_methodLink_RX9_109_Lib_Math_min_name := hts (.methodLink RX9 109 Lib.Math.min.name) (List.mem_of_getElem? (i := 1) rfl)
  have k_static_Lib_Math_min_name := hts (.static Lib.Math.min.name) (List.mem_of_getElem? (i := 2) rfl)
  have hl := lv_entry ([.ref (raS 0)]) (n := 4) (Nat.le_of_ble_eq_true rfl)
  rw [show entryFrame m args 4 = entryFrame m ([.ref (raS 0)] : List Value).toArray 4 from by rw [hav], lg_entry_eq]
  generalize (lg_sl ([.ref (raS 0)]) ++ List.replicate (4 - (lg_sl ([.ref (raS 0)])).length) Slot.unset).toArray = ls at hl ⊢
  have hl : lv_has ls 4 [(0, .ref (raS 0))] := hl
  unfold f_X9_settle at hf
  have h_2 := lp_ind (z := (fun _ _ => none)) (b := (g_X9_settle_2)) (fun (rc_2 : Int32 → kD → Option kD) => ∀ (x1_2 : Int32) (S_2 : kD) (ls : Array Slot) (H : Heap) (locs : List Loc), lv_has ls 4 [(0, .ref (raS 0)), (1, .int x1_2)] → va_P (dC, dI) vwCl (ww_X9_settle cs ad raS S_2) H → va_D (va_A (ww_X9_settle cs ad raS zD) s.heap.size) (ww_X9_settle cs ad raS S_2) → va_S (va_A (ww_X9_settle cs ad raS zD) s.heap.size) s.heap H locs → rc_2 x1_2 S_2 = some r → W p l e (headSpec wsX9_settle rm_X9_settle).room s m args below meth c H locs 0 0 (MQ below (cQv dC dI cs (va_A (ww_X9_settle cs ad raS zD) s.heap.size) (ww_X9_settle cs ad raS r)) args s 0 0 (va_A (ww_X9_settle cs ad raS zD) s.heap.size)) (F0 m 2 ls [])) (by
      intro x1_2 S_2 ls H locs hl hP hD hS hf
      cases hf) (by
      intro rc_2 ih_2 x1_2 S_2 ls H locs hl hP hD hS hf
      unfold g_X9_settle_2 at hf
      have h_65 : ∀ (x1_65 : Int32) (S_65 : kD) (ls : Array Slot) (H : Heap) (locs : List Loc), lv_has ls 4 [(0, .ref (raS 0)), (1, .int x1_65)] → va_P (dC, dI) vwCl (ww_X9_settle cs ad raS S_65) H → va_D (va_A (ww_X9_settle cs ad raS zD) s.heap.size) (ww_X9_settle cs ad raS S_65) → va_S (va_A (ww_X9_settle cs ad raS zD) s.heap.size) s.heap H locs → g_X9_settle_65 rc_2 x1_65 S_65 = some r → W p l e (headSpec wsX9_settle rm_X9_settle).room s m args below meth c H locs 0 0 (MQ below (cQv dC dI cs (va_A (ww_X9_settle cs ad raS zD) s.heap.size) (ww_X9_settle cs ad raS r)) args s 0 0 (va_A (ww_X9_settle cs ad raS zD) s.heap.size)) (F0 m 65 ls []) := by
        intro x1_65 S_65 ls H locs hl hP hD hS hf
        unfold g_X9_settle_65 at hf
        obtain ⟨v1, ev1, hf⟩ := bd1_e hf
        refine lv_iinc (k := 1) (x := x1_65) (v := v1) (nL := 4) (lv' := [(1, .int v1), (0, .ref (raS 0))]) hx hb dX9_settle_65 hl rfl (kt_inc (w := 1) (by decide) ev1) (by decide) rfl (fun ls hl => ?_)
        refine lv_goto (tgt := 2) hx hb dX9_settle_68 (by decide) ?_
        exact ih_2 v1 S_65 ls _ _ (lv_sub hl [1, 0] rfl) hP hD hS hf
      have h_10 := lp_ind (z := (fun _ _ _ => none)) (b := (g_X9_settle_10 rc_2)) (fun (rc_10 : Int32 → Int32 → kD → Option kD) => ∀ (x1_10 : Int32) (x2_10 : Int32) (S_10 : kD) (ls : Array Slot) (H : Heap) (locs : List Loc), lv_has ls 4 [(0, .ref (raS 0)), (1, .int x1_10), (2, .int x2_10)] → va_P (dC, dI) vwCl (ww_X9_settle cs ad raS S_10) H → va_D (va_A (ww_X9_settle cs ad raS zD) s.heap.size) (ww_X9_settle cs ad raS S_10) → va_S (va_A (ww_X9_settle cs ad raS zD) s.heap.size) s.heap H locs → rc_10 x1_10 x2_10 S_10 = some r → W p l e (headSpec wsX9_settle rm_X9_settle).room s m args below meth c H locs 0 0 (MQ below (cQv dC dI cs (va_A (ww_X9_settle cs ad raS zD) s.heap.size) (ww_X9_settle cs ad raS r)) args s 0 0 (va_A (ww_X9_settle cs ad raS zD) s.heap.size)) (F0 m 10 ls [])) (by
          intro x1_10 x2_10 S_10 ls H locs hl hP hD hS hf
          cases hf) (by
          intro rc_10 ih_10 x1_10 x2_10 S_10 ls H locs hl hP hD hS hf
          unfold g_X9_settle_10 at hf
          refine lv_iload_n hx hb dX9_settle_10 rfl (lv_at hl 2 rfl) ?_
          refine lv_iload_n hx hb dX9_settle_11 rfl (lv_at hl 1 rfl) ?_
          refine lv_icmp_ge (tgt := 65) hx hb dX9_settle_12 (by decide) (fun hb16 => ?_) (fun hb16 => ?_)
          · have hf := (if_pos hb16).symm.trans hf
            exact h_65 x1_10 S_10 ls _ _ (lv_sub hl [0, 1] rfl) hP hD hS hf
          · have hf := (if_neg hb16).symm.trans hf
            refine lv_aload_n hx hb dX9_settle_15 rfl (lv_at hl 0 rfl) ?_
            refine lv_iload_n hx hb dX9_settle_16 rfl (lv_at hl 1 rfl) ?_
            refine lv_iload_n hx hb dX9_settle_17 rfl (lv_at hl 2 rfl) ?_
            obtain ⟨v3, hq2, hf⟩ := bo_e hf
            refine ko_call (v := some (.int v3)) (va_runV (As := [.int x1_10, .int x2_10]) (rest := []) ⟨hx, hb, hml, hown, hts⟩ (c_X9_debtOf l dC dI cs ad raS S_10 x1_10 x2_10 v3 hq2) (cwV 2 hts gX9_settle_X9_debtOf rfl rfl rfl (by decide +kernel) ⟨Nat.le_of_ble_eq_true rfl, Nat.le_of_ble_eq_true rfl⟩) ⟨fun a U g mk q => ⟨q.1, (fun _ _ _ _ => cPr_bl) a U g mk q.2⟩, va_recv hK hP (ci := 10) (q0 := 0) rfl rfl, fun U hU hW => ⟨rfl, ⟨by rw [hU]; exact (hP.sub (ws' := (ww_X9_debtOf cs ad raS S_10)) [0, 1, 2, 3, 4] rfl), va_K.moved hW.alike hK, kN_warm hW hN⟩⟩⟩ rfl rfl hl.1 rfl (lv_room (Nat.le_of_ble_eq_true rfl)) dX9_settle_18 ⟨Nat.le_refl _, Nat.le_refl _⟩) ?_
            refine lv_aload_n hx hb dX9_settle_21 rfl (lv_at hl 0 rfl) ?_
            refine lv_iload_n hx hb dX9_settle_22 rfl (lv_at hl 2 rfl) ?_
            refine lv_iload_n hx hb dX9_settle_23 rfl (lv_at hl 1 rfl) ?_
            obtain ⟨v5, hq4, hf⟩ := bo_e hf
            refine ko_call (v := some (.int v5)) (va_runV (As := [.int x2_10, .int x1_10]) (rest := [.int v3]) ⟨hx, hb, hml, hown, hts⟩ (c_X9_debtOf l dC dI cs ad raS S_10 x2_10 x1_10 v5 hq4) (cwV 2 hts gX9_settle_X9_debtOf rfl rfl rfl (by decide +kernel) ⟨Nat.le_of_ble_eq_true rfl, Nat.le_of_ble_eq_true rfl⟩) ⟨fun a U g mk q => ⟨q.1, (fun _ _ _ _ => cPr_bl) a U g mk q.2⟩, va_recv hK hP (ci := 10) (q0 := 0) rfl rfl, fun U hU hW => ⟨rfl, ⟨by rw [hU]; exact (hP.sub (ws' := (ww_X9_debtOf cs ad raS S_10)) [0, 1, 2, 3, 4] rfl), va_K.moved hW.alike hK, kN_warm hW hN⟩⟩⟩ rfl rfl hl.1 rfl (lv_room (Nat.le_of_ble_eq_true rfl)) dX9_settle_24 ⟨Nat.le_refl _, Nat.le_refl _⟩) ?_
            refine va_mmin hx hb (hml.trans hl.1.symm) hown k_methodLink_RX9_109_Lib_Math_min_name k_static_Lib_Math_min_name k_initialized__java_lang_Math_ k_code_Lib_Math_min_name_Lib_Math_min_code_2__some__int_ (Nat.le_of_ble_eq_true rfl) (Nat.le_of_ble_eq_true rfl) (Nat.zero_le _) (Nat.zero_le _) dX9_settle_27 ?_
            obtain ⟨v6, ev6, hf⟩ := bd1_e hf
            refine kt_i ev6 ?_
            refine lv_istore_n (nL := 4) (lv' := [(3, .int v6), (0, .ref (raS 0)), (1, .int x1_10), (2, .int x2_10)]) hx hb dX9_settle_30 rfl hl (by decide) rfl (fun ls hl => ?_)
            refine lv_aload_n hx hb dX9_settle_31 rfl (lv_at hl 1 rfl) ?_
            refine lv_iload_n hx hb dX9_settle_32 rfl (lv_at hl 2 rfl) ?_
            refine lv_iload_n hx hb dX9_settle_33 rfl (lv_at hl 3 rfl) ?_
            refine lv_aload_n hx hb dX9_settle_34 rfl (lv_at hl 1 rfl) ?_
            refine lv_iload_n hx hb dX9_settle_35 rfl (lv_at hl 2 rfl) ?_
            refine lv_iload_n hx hb dX9_settle_36 rfl (lv_at hl 3 rfl) ?_
            obtain ⟨v8, hq7, hf⟩ := bo_e hf
            refine ko_call (v := some (.int v8)) (va_runV (As := [.int x1_10, .int x2_10]) (rest := [.int x2_10, .int x1_10, .ref (raS 0)]) ⟨hx, hb, hml, hown, hts⟩ (c_X9_debtOf l dC dI cs ad raS S_10 x1_10 x2_10 v8 hq7) (cwV 2 hts gX9_settle_X9_debtOf rfl rfl rfl (by decide +kernel) ⟨Nat.le_of_ble_eq_true rfl, Nat.le_of_ble_eq_true rfl⟩) ⟨fun a U g mk q => ⟨q.1, (fun _ _ _ _ => cPr_bl) a U g mk q.2⟩, va_recv hK hP (ci := 10) (q0 := 0) rfl rfl, fun U hU hW => ⟨rfl, ⟨by rw [hU]; exact (hP.sub (ws' := (ww_X9_debtOf cs ad raS S_10)) [0, 1, 2, 3, 4] rfl), va_K.moved hW.alike hK, kN_warm hW hN⟩⟩⟩ rfl rfl hl.1 rfl (lv_room (Nat.le_of_ble_eq_true rfl)) dX9_settle_37 ⟨Nat.le_refl _, Nat.le_refl _⟩) ?_
            refine lv_iload_n hx hb dX9_settle_40 rfl (lv_at hl 0 rfl) ?_
            refine lv_isub hx hb dX9_settle_41 ?_
            obtain ⟨Sv10, hq9, hf⟩ := bo_e hf
            refine g_callv (isC := [0, 1, 2, 3, 4]) (isR := []) (wc := (ww_X9_setDebt cs ad raS S_10)) (wz := (ww_X9_setDebt cs ad raS zD)) (w1 := (ww_X9_setDebt cs ad raS Sv10)) (ws' := (ww_X9_settle cs ad raS Sv10)) (va_runV (As := [.int x1_10, .int x2_10, .int (v8 - v6)]) (rest := []) ⟨hx, hb, hml, hown, hts⟩ (c_X9_setDebt l dC dI cs ad raS _ S_10 x1_10 x2_10 (v8 - v6) Sv10 hq9) (cwV 3 hts gX9_settle_X9_setDebt rfl rfl rfl (by decide +kernel) ⟨Nat.le_of_ble_eq_true rfl, Nat.le_of_ble_eq_true rfl⟩) ⟨fun a U g mk q => ⟨q.1, (fun _ _ _ _ => cPw_bl) a U g mk q.2⟩, va_recv hK hP (ci := 10) (q0 := 0) rfl rfl, fun U hU hW => ⟨rfl, ⟨by rw [hU], by rw [hU]; exact (hP.sub (ws' := (ww_X9_setDebt cs ad raS S_10)) [0, 1, 2, 3, 4] rfl), va_K.moved hW.alike hK, (hD.sub (ws' := (ww_X9_setDebt cs ad raS S_10)) [0, 1, 2, 3, 4] (by decide) rfl).weaken (fun _ _ _ _ => trivial), kN_warm hW hN⟩⟩⟩ rfl rfl hl.1 rfl (lv_room (Nat.le_of_ble_eq_true rfl)) dX9_settle_42 ⟨Nat.le_refl _, Nat.le_refl _⟩) hP hD hS hA rfl rfl (wr := ([] : va_W)) rfl rfl rfl (nw := 5) rfl (by decide +kernel) rfl (fun H locs hP hD hS => ?_)
            refine lv_aload_n hx hb dX9_settle_45 rfl (lv_at hl 1 rfl) ?_
            refine lv_iload_n hx hb dX9_settle_46 rfl (lv_at hl 3 rfl) ?_
            refine lv_iload_n hx hb dX9_settle_47 rfl (lv_at hl 2 rfl) ?_
            refine lv_aload_n hx hb dX9_settle_48 rfl (lv_at hl 1 rfl) ?_
            refine lv_iload_n hx hb dX9_settle_49 rfl (lv_at hl 3 rfl) ?_
            refine lv_iload_n hx hb dX9_settle_50 rfl (lv_at hl 2 rfl) ?_
            obtain ⟨v12, hq11, hf⟩ := bo_e hf
            refine ko_call (v := some (.int v12)) (va_runV (As := [.int x2_10, .int x1_10]) (rest := [.int x1_10, .int x2_10, .ref (raS 0)]) ⟨hx, hb, hml, hown, hts⟩ (c_X9_debtOf l dC dI cs ad raS Sv10 x2_10 x1_10 v12 hq11) (cwV 2 hts gX9_settle_X9_debtOf rfl rfl rfl (by decide +kernel) ⟨Nat.le_of_ble_eq_true rfl, Nat.le_of_ble_eq_true rfl⟩) ⟨fun a U g mk q => ⟨q.1, (fun _ _ _ _ => cPr_bl) a U g mk q.2⟩, va_recv hK hP (ci := 10) (q0 := 0) rfl rfl, fun U hU hW => ⟨rfl, ⟨by rw [hU]; exact (hP.sub (ws' := (ww_X9_debtOf cs ad raS Sv10)) [0, 1, 2, 3, 4] rfl), va_K.moved hW.alike hK, kN_warm hW hN⟩⟩⟩ rfl rfl hl.1 rfl (lv_room (Nat.le_of_ble_eq_true rfl)) dX9_settle_51 ⟨Nat.le_refl _, Nat.le_refl _⟩) ?_
            refine lv_iload_n hx hb dX9_settle_54 rfl (lv_at hl 0 rfl) ?_
            refine lv_isub hx hb dX9_settle_55 ?_
            obtain ⟨Sv14, hq13, hf⟩ := bo_e hf
            refine g_callv (isC := [0, 1, 2, 3, 4]) (isR := []) (wc := (ww_X9_setDebt cs ad raS Sv10)) (wz := (ww_X9_setDebt cs ad raS zD)) (w1 := (ww_X9_setDebt cs ad raS Sv14)) (ws' := (ww_X9_settle cs ad raS Sv14)) (va_runV (As := [.int x2_10, .int x1_10, .int (v12 - v6)]) (rest := []) ⟨hx, hb, hml, hown, hts⟩ (c_X9_setDebt l dC dI cs ad raS _ Sv10 x2_10 x1_10 (v12 - v6) Sv14 hq13) (cwV 3 hts gX9_settle_X9_setDebt rfl rfl rfl (by decide +kernel) ⟨Nat.le_of_ble_eq_true rfl, Nat.le_of_ble_eq_true rfl⟩) ⟨fun a U g mk q => ⟨q.1, (fun _ _ _ _ => cPw_bl) a U g mk q.2⟩, va_recv hK hP (ci := 10) (q0 := 0) rfl rfl, fun U hU hW => ⟨rfl, ⟨by rw [hU], by rw [hU]; exact (hP.sub (ws' := (ww_X9_setDebt cs ad raS Sv10)) [0, 1, 2, 3, 4] rfl), va_K.moved hW.alike hK, (hD.sub (ws' := (ww_X9_setDebt cs ad raS Sv10)) [0, 1, 2, 3, 4] (by decide) rfl).weaken (fun _ _ _ _ => trivial), kN_warm hW hN⟩⟩⟩ rfl rfl hl.1 rfl (lv_room (Nat.le_of_ble_eq_true rfl)) dX9_settle_56 ⟨Nat.le_refl _, Nat.le_refl _⟩) hP hD hS hA rfl rfl (wr := ([] : va_W)) rfl rfl rfl (nw := 5) rfl (by decide +kernel) rfl (fun H locs hP hD hS => ?_)
            obtain ⟨v15, ev15, hf⟩ := bd1_e hf
            refine lv_iinc (k := 3) (x := x2_10) (v := v15) (nL := 4) (lv' := [(2, .int v15), (3, .int v6), (0, .ref (raS 0)), (1, .int x1_10)]) hx hb dX9_settle_59 hl rfl (kt_inc (w := 1) (by decide) ev15) (by decide) rfl (fun ls hl => ?_)
            refine lv_goto (tgt := 10) hx hb dX9_settle_62 (by decide) ?_
            exact ih_10 x1_10 v15 Sv14 ls _ _ (lv_sub hl [2, 3, 0] rfl) hP hD hS hf) 2000
      refine lv_iload_n hx hb dX9_settle_2 rfl (lv_at hl 1 rfl) ?_
      refine lv_bipush (v := 6) hx hb dX9_settle_3 (by decide) ?_
      refine lv_icmp_ge (tgt := 71) hx hb dX9_settle_5 (by decide) (fun hb17 => ?_) (fun hb17 => ?_)
      · have hf := (if_pos hb17).symm.trans hf
        have hf := Option.some.inj hf
        subst hf
        exact c_vret hx hb hr hlocks hP hK hD hS dX9_settle_71
      · have hf := (if_neg hb17).symm.trans hf
        refine lv_iconst (v := 0) hx hb dX9_settle_8 (by decide) ?_
        refine lv_istore_n (nL := 4) (lv' := [(2, .int (0 : Int32)), (0, .ref (raS 0)), (1, .int x1_2)]) hx hb dX9_settle_9 rfl hl (by decide) rfl (fun ls hl => ?_)
        exact h_10 x1_2 (0 : Int32) S_2 ls _ _ (lv_sub hl [1, 2, 0] rfl) hP hD hS hf) 2000
  refine lv_iconst (v := 0) hx hb dX9_settle_0 (by decide) ?_
  refine lv_istore_n (nL := 4) (lv' := [(1, .int (0 : Int32)), (0, .ref (raS 0))]) hx hb dX9_settle_1 rfl hl (by decide) rfl (fun ls hl => ?_)
  exact h_2 (0 : Int32) S ls _ _ (lv_sub hl [1, 0] rfl) hP hD hS hf

def ww_X9_perform (cs : Nat → ClassId) (ad : Nat → Nat) (raS : Nat → Nat) (raO : Nat → Nat) (S : kD) (O : kD) : va_W := (wX9 cs ad raS S ++ (wX3 cs ad raO O))
abbrev rm_X9_perform : Room := { frames := 2, cells := 0, slots := 0, locals := 63 }
set_option maxHeartbeats 4000000 in
set_option maxRecDepth 100000 in
theorem c_X9_perform (l : Launch) (dC : Nat → ClassId) (dI : Nat → Nat → Nat) (cs : Nat → ClassId) (ad : Nat → Nat) (raS : Nat → Nat) (raO : Nat → Nat) (sz : Nat) (S : kD) (O : kD) (a1 : Int32) (a2 : Int32) (a3 : Int32) (r : kD) (hf : f_X9_perform a1 a2 a3 S O = some r) : Met l yX9_perform wsX9_perform rm_X9_perform (va_Pc [.ref (raS 0), .ref (raO 0), .int a1, .int a2, .int a3] (cPw dC dI cs sz (ww_X9_perform cs ad raS raO S O))) (cQv dC dI cs (va_A (ww_X9_perform cs ad raS raO zD zD) sz) (ww_X9_perform cs ad raS raO r O)) 0 0 (va_A (ww_X9_perform cs ad raS raO zD zD) sz) := by
  refine Met.ofW (cc := cX9_perform) (maxL := 5) (ret := none) (by decide) rfl ?_
  intro p e s m args below meth c s₁ B hml hv
  obtain ⟨hav, hsz, hP, hK, hD0, hN⟩ := hv
  have hx := B.exec
  have hb := B.bytes
  have hr := B.returns
  have hts := atoms_spec (ws := wsX9_perform) B.pre
  have hown : s.vm.findClass RX9 = some m.cls := findClass_of_methodNamed B.named
  have hlocks := B.notSynchronized
  subst hsz
  have hA : ∀ q, s.heap.size ≤ q → va_A (ww_X9_perform cs ad raS raO zD zD) s.heap.size q := fun q h => Or.inr h
  have hD : va_D (va_A (ww_X9_perform cs ad raS raO zD zD) s.heap.size) (ww_X9_perform cs ad raS raO S O) := hD0.weaken (fun k q h _ => cA_in (ws := (ww_X9_perform cs ad raS raO S O)) (ws' := (ww_X9_perform cs ad raS raO zD zD)) rfl h)
  have hS : va_S (va_A (ww_X9_perform cs ad raS raO zD zD) s.heap.size) s.heap s.heap [] := va_S.rf
  have hinX9 := (show ∀ w ∈ wsX90, w ∈ wsX9_perform from fun w h => List.mem_cons_of_mem _ (List.mem_append_left _ (List.mem_append_right _ h)))
  have k_fieldLink_RX9_34__KeyLetters_State___held___I_ := hts (.fieldLink RX9 34 "KeyLetters$State" "held" "I") (List.mem_of_getElem? (i := 2) rfl)
  have k_fieldLink_RX9_9__KeyLetters_State___ink____I_ := hts (.fieldLink RX9 9 "KeyLetters$State" "ink" "[I") (List.mem_of_getElem? (i := 1) rfl)
  have k_initialized_RX3 := hts (.initialized RX3) (List.mem_of_getElem? (i := 30) rfl)
  have k_instanceMethod_yX3_hasMachine := hts (.instanceMethod yX3_hasMachine) (List.mem_of_getElem? (i := 29) rfl)
  have k_selects_RX3_yX3_hasMachine_yX3_hasMachine := hts (.selects RX3 yX3_hasMachine yX3_hasMachine) (List.mem_of_getElem? (i := 31) rfl)
  have hl := lv_entry ([.ref (raS 0), .ref (raO 0), .int a1, .int a2, .int a3]) (n := 5) (Nat.le_of_ble_eq_true rfl)
  rw [show entryFrame m args 5 = entryFrame m ([.ref (raS 0), .ref (raO 0), .int a1, .int a2, .int a3] : List Value).toArray 5 from by rw [hav], lg_entry_eq]
  generalize (lg_sl ([.ref (raS 0), .ref (raO 0), .int a1, .int a2, .int a3]) ++ List.replicate (5 - (lg_sl ([.ref (raS 0), .ref (raO 0), .int a1, .int a2, .int a3])).length) Slot.unset).toArray = ls at hl ⊢
  have hl : lv_has ls 5 [(0, .ref (raS 0)), (1, .ref (raO 0)), (2, .int a1), (3, .int a2), (4, .int a3)] := hl
  unfold f_X9_perform at hf
  have h_53 : ∀ (x2_53 : Int32) (x3_53 : Int32) (S_53 : kD) (ls : Array Slot) (H : Heap) (locs : List Loc), lv_has ls 5 [(0, .ref (raS 0)), (2, .int x2_53), (3, .int x3_53)] → va_P (dC, dI) vwCl (ww_X9_perform cs ad raS raO S_53 O) H → va_D (va_A (ww_X9_perform cs ad raS raO zD zD) s.heap.size) (ww_X9_perform cs ad raS raO S_53 O) → va_S (va_A (ww_X9_perform cs ad raS raO zD zD) s.heap.size) s.heap H locs → g_X9_perform_53 O x2_53 x3_53 S_53 = some r → W p l e (headSpec wsX9_perform rm_X9_perform).room s m args below meth c H locs 0 0 (MQ below (cQv dC dI cs (va_A (ww_X9_perform cs ad raS raO zD zD) s.heap.size) (ww_X9_perform cs ad raS raO r O)) args s 0 0 (va_A (ww_X9_perform cs ad raS raO zD zD) s.heap.size)) (F0 m 53 ls []) := by
    intro x2_53 x3_53 S_53 ls H locs hl hP hD hS hf
    unfold g_X9_perform_53 at hf
    refine lv_iload_n hx hb dX9_perform_53 rfl (lv_at hl 1 rfl) ?_
    refine lv_bipush (v := 10) hx hb dX9_perform_54 (by decide) ?_
    refine lv_icmp_ne (tgt := 74) hx hb dX9_perform_56 (by decide) (fun hb4 => ?_) (fun hb4 => ?_)
    · have hf := (if_neg hb4).symm.trans hf
      refine lv_iload_n hx hb dX9_perform_74 rfl (lv_at hl 1 rfl) ?_
      refine lv_bipush (v := 20) hx hb dX9_perform_75 (by decide) ?_
      refine lv_icmp_ne (tgt := 94) hx hb dX9_perform_77 (by decide) (fun hb2 => ?_) (fun hb2 => ?_)
      · have hf := (if_neg hb2).symm.trans hf
        have hf := Option.some.inj hf
        subst hf
        exact c_vret hx hb hr hlocks hP hK hD hS dX9_perform_94
      · have hf := (if_pos hb2).symm.trans hf
        refine lv_aload_n hx hb dX9_perform_80 rfl (lv_at hl 0 rfl) ?_
        refine lv_dup hx hb dX9_perform_81 rfl ?_
        refine va_get (D := (dC, dI)) (ci := 10) (C := RX9) (T := TX9) (N := 9) hx hb hts hinX9 hown hK hP 0 rfl rfl 3 (by decide) (v := .int (S_53.1 0 3)) k_fieldLink_RX9_34__KeyLetters_State___held___I_ (fun _ h9 => h9) rfl dX9_perform_82 ?_
        refine lv_iconst (v := 1) hx hb dX9_perform_85 (by decide) ?_
        refine lv_iload_n hx hb dX9_perform_86 rfl (lv_at hl 2 rfl) ?_
        refine lv_ishl hx hb dX9_perform_87 ?_
        refine lv_iconst (v := -1) hx hb dX9_perform_88 (by decide) ?_
        refine lv_ixor hx hb dX9_perform_89 ?_
        refine lv_iand hx hb dX9_perform_90 ?_
        obtain ⟨Sv1, eSv1, hf⟩ := bd1_e hf
        refine g_put (D := (dC, dI)) (ci := 10) (C := RX9) (T := TX9) (N := 9) hx hb hts hinX9 tyX9 tyX9_ok nmX9 hown hK hP hD hS 0 rfl rfl 3 (by decide) k_fieldLink_RX9_34__KeyLetters_State___held___I_ (fun _ h9 => h9) rfl (ty := .int) (v := .int ((S_53.1 0 3) &&& (((1 : Int32) <<< (x3_53 &&& 31)) ^^^ (-1 : Int32)))) (by decide +kernel) rfl rfl (Nat.le_of_ble_eq_true rfl) (ws' := (ww_X9_perform cs ad raS raO Sv1 O)) (by rw [eSv1]; rfl) dX9_perform_91 (fun H locs hP hD hS => ?_)
        have hf := Option.some.inj hf
        subst hf
        exact c_vret hx hb hr hlocks hP hK hD hS dX9_perform_94
    · have hf := (if_pos hb4).symm.trans hf
      refine lv_aload_n hx hb dX9_perform_59 rfl (lv_at hl 0 rfl) ?_
      refine lv_dup hx hb dX9_perform_60 rfl ?_
      refine va_get (D := (dC, dI)) (ci := 10) (C := RX9) (T := TX9) (N := 9) hx hb hts hinX9 hown hK hP 0 rfl rfl 3 (by decide) (v := .int (S_53.1 0 3)) k_fieldLink_RX9_34__KeyLetters_State___held___I_ (fun _ h9 => h9) rfl dX9_perform_61 ?_
      refine lv_iconst (v := 1) hx hb dX9_perform_64 (by decide) ?_
      refine lv_iload_n hx hb dX9_perform_65 rfl (lv_at hl 2 rfl) ?_
      refine lv_ishl hx hb dX9_perform_66 ?_
      refine lv_ior hx hb dX9_perform_67 ?_
      obtain ⟨Sv3, eSv3, hf⟩ := bd1_e hf
      refine g_put (D := (dC, dI)) (ci := 10) (C := RX9) (T := TX9) (N := 9) hx hb hts hinX9 tyX9 tyX9_ok nmX9 hown hK hP hD hS 0 rfl rfl 3 (by decide) k_fieldLink_RX9_34__KeyLetters_State___held___I_ (fun _ h9 => h9) rfl (ty := .int) (v := .int ((S_53.1 0 3) ||| ((1 : Int32) <<< (x3_53 &&& 31)))) (by decide +kernel) rfl rfl (Nat.le_of_ble_eq_true rfl) (ws' := (ww_X9_perform cs ad raS raO Sv3 O)) (by rw [eSv3]; rfl) dX9_perform_68 (fun H locs hP hD hS => ?_)
      refine lv_goto (tgt := 94) hx hb dX9_perform_71 (by decide) ?_
      have hf := Option.some.inj hf
      subst hf
      exact c_vret hx hb hr hlocks hP hK hD hS dX9_perform_94
  refine lv_iload_n hx hb dX9_perform_0 rfl (lv_at hl 2 rfl) ?_
  refine lv_bipush (v := 40) hx hb dX9_perform_1 (by decide) ?_
  refine lv_icmp_ne (tgt := 13) hx hb dX9_perform_3 (by decide) (fun hb14 => ?_) (fun hb14 => ?_)
  · have hf := (if_neg hb14).symm.trans hf
    refine lv_iload_n hx hb dX9_perform_13 rfl (lv_at hl 2 rfl) ?_
    refine lv_if_ne (tgt := 28) hx hb dX9_perform_14 (by decide) (fun hb11 => ?_) (fun hb11 => ?_)
    · have hf := (if_neg hb11).symm.trans hf
      refine lv_iload_n hx hb dX9_perform_28 rfl (lv_at hl 2 rfl) ?_
      refine lv_bipush (v := 30) hx hb dX9_perform_29 (by decide) ?_
      refine lv_icmp_ne (tgt := 53) hx hb dX9_perform_31 (by decide) (fun hb8 => ?_) (fun hb8 => ?_)
      · have hf := (if_neg hb8).symm.trans hf
        exact h_53 a1 a2 S ls _ _ (lv_sub hl [0, 2, 3] rfl) hP hD hS hf
      · have hf := (if_pos hb8).symm.trans hf
        refine lv_aload_n hx hb dX9_perform_34 rfl (lv_at hl 1 rfl) ?_
        refine lv_iload_n hx hb dX9_perform_35 rfl (lv_at hl 3 rfl) ?_
        refine ko_call (v := some (.int (f_X3_hasMachine a2 O))) (va_runVN (As := [.int a2]) (rest := []) ⟨hx, hb, hml, hown, hts⟩ (c_X3_hasMachine l dC dI cs ad raO O a2 _ rfl) ⟨va_cnB 1 hts gX9_perform_X3_hasMachine_n65 rfl rfl rfl (hN _ (List.mem_of_getElem? (i := 96) rfl)) k_initialized_RX3 (by decide +kernel) ⟨Nat.le_of_ble_eq_true rfl, Nat.le_of_ble_eq_true rfl⟩, k_instanceMethod_yX3_hasMachine, k_selects_RX3_yX3_hasMachine_yX3_hasMachine⟩ ⟨fun a U g mk q => ⟨q.1, (fun _ _ _ _ => cPr_bl) a U g mk q.2⟩, va_recv hK hP (ci := 4) (q0 := 5) rfl rfl, fun U hU hW => ⟨rfl, ⟨by rw [hU]; exact (hP.sub (ws' := (ww_X3_hasMachine cs ad raO O)) [5, 6, 7, 8, 9, 10, 11, 12] rfl), va_K.moved hW.alike hK, kN_warm hW hN⟩⟩⟩ rfl rfl hl.1 rfl (lv_room (Nat.le_of_ble_eq_true rfl)) dX9_perform_36 ⟨Nat.le_refl _, Nat.le_refl _⟩) ?_
        refine lv_if_eq (tgt := 53) hx hb dX9_perform_39 (by decide) (fun hb7 => ?_) (fun hb7 => ?_)
        · have hf := (if_pos hb7).symm.trans hf
          exact h_53 a1 a2 S ls _ _ (lv_sub hl [0, 2, 3] rfl) hP hD hS hf
        · have hf := (if_neg hb7).symm.trans hf
          refine lv_aload_n hx hb dX9_perform_42 rfl (lv_at hl 0 rfl) ?_
          refine va_get (D := (dC, dI)) (ci := 10) (C := RX9) (T := TX9) (N := 9) hx hb hts hinX9 hown hK hP 0 rfl rfl 5 (by decide) (v := .ref (raS 5)) k_fieldLink_RX9_9__KeyLetters_State___ink____I_ (fun _ h9 => h9) rfl dX9_perform_43 ?_
          refine lv_iload_n hx hb dX9_perform_46 rfl (lv_at hl 3 rfl) ?_
          refine lv_iload hx hb dX9_perform_47 (lv_at hl 4 rfl) ?_
          obtain ⟨hc5, hf⟩ := ck_e hf
          obtain ⟨Sv6, eSv6, hf⟩ := bd1_e hf
          refine va_iast hx hb hK hP hD hS 1 1 rfl rfl hc5 dX9_perform_49 (fun H locs hP hD hS => ?_)
          have hP : va_P (dC, dI) vwCl (ww_X9_perform cs ad raS raO Sv6 O) H := g_toP (by rw [eSv6]; rfl) hP
          have hD : va_D (va_A (ww_X9_perform cs ad raS raO zD zD) s.heap.size) (ww_X9_perform cs ad raS raO Sv6 O) := g_toD (by rw [eSv6]; rfl) hD
          refine lv_goto (tgt := 94) hx hb dX9_perform_50 (by decide) ?_
          have hf := Option.some.inj hf
          subst hf
          exact c_vret hx hb hr hlocks hP hK hD hS dX9_perform_94
    · have hf := (if_pos hb11).symm.trans hf
      refine lv_aload_n hx hb dX9_perform_17 rfl (lv_at hl 0 rfl) ?_
      refine lv_aload_n hx hb dX9_perform_18 rfl (lv_at hl 1 rfl) ?_
      refine lv_iload_n hx hb dX9_perform_19 rfl (lv_at hl 3 rfl) ?_
      refine lv_iload hx hb dX9_perform_20 (lv_at hl 4 rfl) ?_
      obtain ⟨Sv10, hq9, hf⟩ := bo_e hf
      refine g_callv (isC := [0, 1, 2, 3, 4, 5, 6, 7, 8, 9, 10, 11, 12]) (isR := []) (wc := (ww_X9_put cs ad raS raO S O)) (wz := (ww_X9_put cs ad raS raO zD zD)) (w1 := (ww_X9_put cs ad raS raO Sv10 O)) (ws' := (ww_X9_perform cs ad raS raO Sv10 O)) (va_runV (As := [.ref (raO 0), .int a2, .int a3]) (rest := []) ⟨hx, hb, hml, hown, hts⟩ (c_X9_put l dC dI cs ad raS raO _ S O a2 a3 Sv10 hq9) (cwV 3 hts gX9_perform_X9_put rfl rfl rfl (by decide +kernel) ⟨Nat.le_of_ble_eq_true rfl, Nat.le_of_ble_eq_true rfl⟩) ⟨fun a U g mk q => ⟨q.1, (fun _ _ _ _ => cPw_bl) a U g mk q.2⟩, va_recv hK hP (ci := 10) (q0 := 0) rfl rfl, fun U hU hW => ⟨rfl, ⟨by rw [hU], by rw [hU]; exact (hP.sub (ws' := (ww_X9_put cs ad raS raO S O)) [0, 1, 2, 3, 4, 5, 6, 7, 8, 9, 10, 11, 12] rfl), va_K.moved hW.alike hK, (hD.sub (ws' := (ww_X9_put cs ad raS raO S O)) [0, 1, 2, 3, 4, 5, 6, 7, 8, 9, 10, 11, 12] (by decide) rfl).weaken (fun _ _ _ _ => trivial), kN_warm hW hN⟩⟩⟩ rfl rfl hl.1 rfl (lv_room (Nat.le_of_ble_eq_true rfl)) dX9_perform_22 ⟨Nat.le_refl _, Nat.le_refl _⟩) hP hD hS hA rfl rfl (wr := ([] : va_W)) rfl rfl rfl (nw := 13) rfl (by decide +kernel) rfl (fun H locs hP hD hS => ?_)
      refine lv_goto (tgt := 94) hx hb dX9_perform_25 (by decide) ?_
      have hf := Option.some.inj hf
      subst hf
      exact c_vret hx hb hr hlocks hP hK hD hS dX9_perform_94
  · have hf := (if_pos hb14).symm.trans hf
    refine lv_aload_n hx hb dX9_perform_6 rfl (lv_at hl 0 rfl) ?_
    obtain ⟨Sv13, hq12, hf⟩ := bo_e hf
    refine g_callv (isC := [0, 1, 2, 3, 4]) (isR := [5, 6, 7, 8, 9, 10, 11, 12]) (wc := (ww_X9_settle cs ad raS S)) (wz := (ww_X9_settle cs ad raS zD)) (w1 := (ww_X9_settle cs ad raS Sv13)) (ws' := (ww_X9_perform cs ad raS raO Sv13 O)) (va_runV (As := []) (rest := []) ⟨hx, hb, hml, hown, hts⟩ (c_X9_settle l dC dI cs ad raS _ S Sv13 hq12) (cwV 0 hts gX9_perform_X9_settle rfl rfl rfl (by decide +kernel) ⟨Nat.le_of_ble_eq_true rfl, Nat.le_of_ble_eq_true rfl⟩) ⟨fun a U g mk q => ⟨q.1, (fun _ _ _ _ => cPw_bl) a U g mk q.2⟩, va_recv hK hP (ci := 10) (q0 := 0) rfl rfl, fun U hU hW => ⟨rfl, ⟨by rw [hU], by rw [hU]; exact (hP.sub (ws' := (ww_X9_settle cs ad raS S)) [0, 1, 2, 3, 4] rfl), va_K.moved hW.alike hK, (hD.sub (ws' := (ww_X9_settle cs ad raS S)) [0, 1, 2, 3, 4] (by decide) rfl).weaken (fun _ _ _ _ => trivial), kN_warm hW hN⟩⟩⟩ rfl rfl hl.1 rfl (lv_room (Nat.le_of_ble_eq_true rfl)) dX9_perform_7 ⟨Nat.le_refl _, Nat.le_refl _⟩) hP hD hS hA rfl rfl (wr := ((wX3 cs ad raO O))) rfl rfl rfl (nw := 13) rfl (by decide +kernel) rfl (fun H locs hP hD hS => ?_)
    refine lv_goto (tgt := 94) hx hb dX9_perform_10 (by decide) ?_
    have hf := Option.some.inj hf
    subst hf
    exact c_vret hx hb hr hlocks hP hK hD hS dX9_perform_94

def ww_X0_live (cs : Nat → ClassId) (ad : Nat → Nat) (raBk : Nat → Nat) (raO : Nat → Nat) (raS : Nat → Nat) (Bk : kD) (O : kD) (S : kD) : va_W := (wX0 cs ad raBk Bk ++ (wX3 cs ad raO O ++ (wX9 cs ad raS S)))
abbrev rm_X0_live : Room := { frames := 6, cells := 0, slots := 0, locals := 135 }
set_option maxHeartbeats 4000000 in
set_option maxRecDepth 100000 in
theorem c_X0_live (l : Launch) (dC : Nat → ClassId) (dI : Nat → Nat → Nat) (cs : Nat → ClassId) (ad : Nat → Nat) (raBk : Nat → Nat) (raO : Nat → Nat) (raS : Nat → Nat) (sz : Nat) (Bk : kD) (O : kD) (S : kD) (r : kD × kD) (hf : f_X0_live Bk O S = some r) : Met l yX0_live wsX0_live rm_X0_live (va_Pc [.ref (raBk 0), .ref (raO 0), .ref (raS 0)] (cPw dC dI cs sz (ww_X0_live cs ad raBk raO raS Bk O S))) (cQv dC dI cs (va_A (ww_X0_live cs ad raBk raO raS zD zD zD) sz) (ww_X0_live cs ad raBk raO raS r.1 O r.2)) 0 0 (va_A (ww_X0_live cs ad raBk raO raS zD zD zD) sz) := by
  refine Met.ofW (cc := cX0_live) (maxL := 5) (ret := none) (by decide) rfl ?_
  intro p e s m args below meth c s₁ B hml hv
  obtain ⟨hav, hsz, hP, hK, hD0, hN⟩ := hv
  have hx := B.exec
  have hb := B.bytes
  have hr := B.returns
  have hts := atoms_spec (ws := wsX0_live) B.pre
  have hown : s.vm.findClass RX0 = some m.cls := findClass_of_methodNamed B.named
  have hlocks := B.notSynchronized
  subst hsz
  have hA : ∀ q, s.heap.size ≤ q → va_A (ww_X0_live cs ad raBk raO raS zD zD zD) s.heap.size q := fun q h => Or.inr h
  have hD : va_D (va_A (ww_X0_live cs ad raBk raO raS zD zD zD) s.heap.size) (ww_X0_live cs ad raBk raO raS Bk O S) := hD0.weaken (fun k q h _ => cA_in (ws := (ww_X0_live cs ad raBk raO raS Bk O S)) (ws' := (ww_X0_live cs ad raBk raO raS zD zD zD)) rfl h)
  have hS : va_S (va_A (ww_X0_live cs ad raBk raO raS zD zD zD) s.heap.size) s.heap s.heap [] := va_S.rf
  have hinX0 := (show ∀ w ∈ wsX00, w ∈ wsX0_live from fun w h => List.mem_cons_of_mem _ (List.mem_append_left _ (List.mem_append_left _ (List.mem_append_right _ h))))
  have k_fieldLink_RX0_115__KeyLetters_Book___lived___I_ := hts (.fieldLink RX0 115 "KeyLetters$Book" "lived" "I") (List.mem_of_getElem? (i := 1) rfl)
  have k_fieldLink_RX0_118__KeyLetters_Book___whyWrong___I_ := hts (.fieldLink RX0 118 "KeyLetters$Book" "whyWrong" "I") (List.mem_of_getElem? (i := 2) rfl)
  have k_fieldLink_RX0_11__KeyLetters_Book___acts____I_ := hts (.fieldLink RX0 11 "KeyLetters$Book" "acts" "[I") (List.mem_of_getElem? (i := 4) rfl)
  have k_fieldLink_RX0_15__KeyLetters_Book___machines____I_ := hts (.fieldLink RX0 15 "KeyLetters$Book" "machines" "[I") (List.mem_of_getElem? (i := 5) rfl)
  have k_fieldLink_RX0_18__KeyLetters_Book___numbers____I_ := hts (.fieldLink RX0 18 "KeyLetters$Book" "numbers" "[I") (List.mem_of_getElem? (i := 6) rfl)
  have k_fieldLink_RX0_21__KeyLetters_Book___lines___I_ := hts (.fieldLink RX0 21 "KeyLetters$Book" "lines" "I") (List.mem_of_getElem? (i := 3) rfl)
  have k_initialized_RX9 := hts (.initialized RX9) (List.mem_of_getElem? (i := 8) rfl)
  have k_instanceMethod_yX9_passDays := hts (.instanceMethod yX9_passDays) (List.mem_of_getElem? (i := 59) rfl)
  have k_instanceMethod_yX9_perform := hts (.instanceMethod yX9_perform) (List.mem_of_getElem? (i := 85) rfl)
  have k_instanceMethod_yX9_whyNot := hts (.instanceMethod yX9_whyNot) (List.mem_of_getElem? (i := 7) rfl)
  have k_selects_RX9_yX9_passDays_yX9_passDays := hts (.selects RX9 yX9_passDays yX9_passDays) (List.mem_of_getElem? (i := 60) rfl)
  have k_selects_RX9_yX9_perform_yX9_perform := hts (.selects RX9 yX9_perform yX9_perform) (List.mem_of_getElem? (i := 86) rfl)
  have k_selects_RX9_yX9_whyNot_yX9_whyNot := hts (.selects RX9 yX9_whyNot yX9_whyNot) (List.mem_of_getElem? (i := 9) rfl)
  have hl := lv_entry ([.ref (raBk 0), .ref (raO 0), .ref (raS 0)]) (n := 5) (Nat.le_of_ble_eq_true rfl)
  rw [show entryFrame m args 5 = entryFrame m ([.ref (raBk 0), .ref (raO 0), .ref (raS 0)] : List Value).toArray 5 from by rw [hav], lg_entry_eq]
  generalize (lg_sl ([.ref (raBk 0), .ref (raO 0), .ref (raS 0)]) ++ List.replicate (5 - (lg_sl ([.ref (raBk 0), .ref (raO 0), .ref (raS 0)])).length) Slot.unset).toArray = ls at hl ⊢
  have hl : lv_has ls 5 [(0, .ref (raBk 0)), (1, .ref (raO 0)), (2, .ref (raS 0))] := hl
  unfold f_X0_live at hf
  have h_56 : ∀ (x3_56 : Int32) (x4_56 : Int32) (Bk_56 : kD) (S_56 : kD) (ls : Array Slot) (H : Heap) (locs : List Loc), lv_has ls 5 [(0, .ref (raBk 0)), (3, .int x3_56), (4, .int x4_56)] → va_P (dC, dI) vwCl (ww_X0_live cs ad raBk raO raS Bk_56 O S_56) H → va_D (va_A (ww_X0_live cs ad raBk raO raS zD zD zD) s.heap.size) (ww_X0_live cs ad raBk raO raS Bk_56 O S_56) → va_S (va_A (ww_X0_live cs ad raBk raO raS zD zD zD) s.heap.size) s.heap H locs → g_X0_live_56 O x3_56 x4_56 Bk_56 S_56 = some r → W p l e (headSpec wsX0_live rm_X0_live).room s m args below meth c H locs 0 0 (MQ below (cQv dC dI cs (va_A (ww_X0_live cs ad raBk raO raS zD zD zD) s.heap.size) (ww_X0_live cs ad raBk raO raS r.1 O r.2)) args s 0 0 (va_A (ww_X0_live cs ad raBk raO raS zD zD zD) s.heap.size)) (F0 m 56 ls []) := by
    intro x3_56 x4_56 Bk_56 S_56 ls H locs hl hP hD hS hf
    unfold g_X0_live_56 at hf
    refine lv_aload_n hx hb dX0_live_56 rfl (lv_at hl 0 rfl) ?_
    refine lv_aload_n hx hb dX0_live_57 rfl (lv_at hl 0 rfl) ?_
    refine va_get (D := (dC, dI)) (ci := 1) (C := RX0) (T := TX0) (N := 6) hx hb hts hinX0 hown hK hP 0 rfl rfl 3 (by decide) (v := .ref (raBk 3)) k_fieldLink_RX0_11__KeyLetters_Book___acts____I_ (fun _ h9 => h9) rfl dX0_live_58 ?_
    refine lv_iload_n hx hb dX0_live_61 rfl (lv_at hl 1 rfl) ?_
    obtain ⟨hc1, hf⟩ := ck_e hf
    refine va_iald hx hb hK hP 1 1 rfl rfl hc1 dX0_live_62 ?_
    refine lv_iload hx hb dX0_live_63 (lv_at hl 2 rfl) ?_
    refine lv_iadd hx hb dX0_live_65 ?_
    obtain ⟨Bkv2, eBkv2, hf⟩ := bd1_e hf
    refine g_put (D := (dC, dI)) (ci := 1) (C := RX0) (T := TX0) (N := 6) hx hb hts hinX0 tyX0 tyX0_ok nmX0 hown hK hP hD hS 0 rfl rfl 2 (by decide) k_fieldLink_RX0_118__KeyLetters_Book___whyWrong___I_ (fun _ h9 => h9) rfl (ty := .int) (v := .int ((Bk_56.1 3 x3_56.toNatClampNeg) + x4_56)) (by decide +kernel) rfl rfl (Nat.le_of_ble_eq_true rfl) (ws' := (ww_X0_live cs ad raBk raO raS Bkv2 O S_56)) (by rw [eBkv2]; rfl) dX0_live_66 (fun H locs hP hD hS => ?_)
    have hf := Option.some.inj hf
    subst hf
    exact c_vret hx hb hr hlocks hP hK hD hS dX0_live_69
  have h_12 := lp_ind (z := (fun _ _ _ => none)) (b := (g_X0_live_12 O)) (fun (rc_12 : Int32 → kD → kD → Option (kD × kD)) => ∀ (x3_12 : Int32) (Bk_12 : kD) (S_12 : kD) (ls : Array Slot) (H : Heap) (locs : List Loc), lv_has ls 5 [(0, .ref (raBk 0)), (1, .ref (raO 0)), (2, .ref (raS 0)), (3, .int x3_12)] → va_P (dC, dI) vwCl (ww_X0_live cs ad raBk raO raS Bk_12 O S_12) H → va_D (va_A (ww_X0_live cs ad raBk raO raS zD zD zD) s.heap.size) (ww_X0_live cs ad raBk raO raS Bk_12 O S_12) → va_S (va_A (ww_X0_live cs ad raBk raO raS zD zD zD) s.heap.size) s.heap H locs → rc_12 x3_12 Bk_12 S_12 = some r → W p l e (headSpec wsX0_live rm_X0_live).room s m args below meth c H locs 0 0 (MQ below (cQv dC dI cs (va_A (ww_X0_live cs ad raBk raO raS zD zD zD) s.heap.size) (ww_X0_live cs ad raBk raO raS r.1 O r.2)) args s 0 0 (va_A (ww_X0_live cs ad raBk raO raS zD zD zD) s.heap.size)) (F0 m 12 ls [])) (by
      intro x3_12 Bk_12 S_12 ls H locs hl hP hD hS hf
      cases hf) (by
      intro rc_12 ih_12 x3_12 Bk_12 S_12 ls H locs hl hP hD hS hf
      unfold g_X0_live_12 at hf
      have h_118 : ∀ (x3_118 : Int32) (Bk_118 : kD) (S_118 : kD) (ls : Array Slot) (H : Heap) (locs : List Loc), lv_has ls 5 [(0, .ref (raBk 0)), (1, .ref (raO 0)), (2, .ref (raS 0)), (3, .int x3_118)] → va_P (dC, dI) vwCl (ww_X0_live cs ad raBk raO raS Bk_118 O S_118) H → va_D (va_A (ww_X0_live cs ad raBk raO raS zD zD zD) s.heap.size) (ww_X0_live cs ad raBk raO raS Bk_118 O S_118) → va_S (va_A (ww_X0_live cs ad raBk raO raS zD zD zD) s.heap.size) s.heap H locs → g_X0_live_118 rc_12 O x3_118 Bk_118 S_118 = some r → W p l e (headSpec wsX0_live rm_X0_live).room s m args below meth c H locs 0 0 (MQ below (cQv dC dI cs (va_A (ww_X0_live cs ad raBk raO raS zD zD zD) s.heap.size) (ww_X0_live cs ad raBk raO raS r.1 O r.2)) args s 0 0 (va_A (ww_X0_live cs ad raBk raO raS zD zD zD) s.heap.size)) (F0 m 118 ls []) := by
        intro x3_118 Bk_118 S_118 ls H locs hl hP hD hS hf
        unfold g_X0_live_118 at hf
        refine lv_aload_n hx hb dX0_live_118 rfl (lv_at hl 0 rfl) ?_
        refine lv_dup hx hb dX0_live_119 rfl ?_
        refine va_get (D := (dC, dI)) (ci := 1) (C := RX0) (T := TX0) (N := 6) hx hb hts hinX0 hown hK hP 0 rfl rfl 1 (by decide) (v := .int (Bk_118.1 0 1)) k_fieldLink_RX0_115__KeyLetters_Book___lived___I_ (fun _ h9 => h9) rfl dX0_live_120 ?_
        refine lv_iconst (v := 1) hx hb dX0_live_123 (by decide) ?_
        refine lv_iadd hx hb dX0_live_124 ?_
        obtain ⟨Bkv3, eBkv3, hf⟩ := bd1_e hf
        refine g_put (D := (dC, dI)) (ci := 1) (C := RX0) (T := TX0) (N := 6) hx hb hts hinX0 tyX0 tyX0_ok nmX0 hown hK hP hD hS 0 rfl rfl 1 (by decide) k_fieldLink_RX0_115__KeyLetters_Book___lived___I_ (fun _ h9 => h9) rfl (ty := .int) (v := .int ((Bk_118.1 0 1) + (1 : Int32))) (by decide +kernel) rfl rfl (Nat.le_of_ble_eq_true rfl) (ws' := (ww_X0_live cs ad raBk raO raS Bkv3 O S_118)) (by rw [eBkv3]; rfl) dX0_live_125 (fun H locs hP hD hS => ?_)
        obtain ⟨v4, ev4, hf⟩ := bd1_e hf
        refine lv_iinc (k := 3) (x := x3_118) (v := v4) (nL := 5) (lv' := [(3, .int v4), (0, .ref (raBk 0)), (1, .ref (raO 0)), (2, .ref (raS 0))]) hx hb dX0_live_128 hl rfl (kt_inc (w := 1) (by decide) ev4) (by decide) rfl (fun ls hl => ?_)
        refine lv_goto (tgt := 12) hx hb dX0_live_131 (by decide) ?_
        exact ih_12 v4 Bkv3 S_118 ls _ _ (lv_sub hl [1, 2, 3, 0] rfl) hP hD hS hf
      refine lv_iload_n hx hb dX0_live_12 rfl (lv_at hl 3 rfl) ?_
      refine lv_aload_n hx hb dX0_live_13 rfl (lv_at hl 0 rfl) ?_
      refine va_get (D := (dC, dI)) (ci := 1) (C := RX0) (T := TX0) (N := 6) hx hb hts hinX0 hown hK hP 0 rfl rfl 0 (by decide) (v := .int (Bk_12.1 0 0)) k_fieldLink_RX0_21__KeyLetters_Book___lines___I_ (fun _ h9 => h9) rfl dX0_live_14 ?_
      refine lv_icmp_ge (tgt := 134) hx hb dX0_live_17 (by decide) (fun hb22 => ?_) (fun hb22 => ?_)
      · have hf := (if_pos hb22).symm.trans hf
        have hf := Option.some.inj hf
        subst hf
        exact c_vret hx hb hr hlocks hP hK hD hS dX0_live_134
      · have hf := (if_neg hb22).symm.trans hf
        refine lv_iload_n hx hb dX0_live_20 rfl (lv_at hl 3 rfl) ?_
        refine lv_bipush (v := 40) hx hb dX0_live_21 (by decide) ?_
        refine lv_icmp_ge (tgt := 134) hx hb dX0_live_23 (by decide) (fun hb21 => ?_) (fun hb21 => ?_)
        · have hf := (if_pos hb21).symm.trans hf
          have hf := Option.some.inj hf
          subst hf
          exact c_vret hx hb hr hlocks hP hK hD hS dX0_live_134
        · have hf := (if_neg hb21).symm.trans hf
          refine lv_aload_n hx hb dX0_live_26 rfl (lv_at hl 2 rfl) ?_
          refine lv_aload_n hx hb dX0_live_27 rfl (lv_at hl 1 rfl) ?_
          refine lv_aload_n hx hb dX0_live_28 rfl (lv_at hl 0 rfl) ?_
          refine va_get (D := (dC, dI)) (ci := 1) (C := RX0) (T := TX0) (N := 6) hx hb hts hinX0 hown hK hP 0 rfl rfl 3 (by decide) (v := .ref (raBk 3)) k_fieldLink_RX0_11__KeyLetters_Book___acts____I_ (fun _ h9 => h9) rfl dX0_live_29 ?_
          refine lv_iload_n hx hb dX0_live_32 rfl (lv_at hl 3 rfl) ?_
          obtain ⟨hc5, hf⟩ := ck_e hf
          refine va_iald hx hb hK hP 1 1 rfl rfl hc5 dX0_live_33 ?_
          refine lv_aload_n hx hb dX0_live_34 rfl (lv_at hl 0 rfl) ?_
          refine va_get (D := (dC, dI)) (ci := 1) (C := RX0) (T := TX0) (N := 6) hx hb hts hinX0 hown hK hP 0 rfl rfl 4 (by decide) (v := .ref (raBk 4)) k_fieldLink_RX0_15__KeyLetters_Book___machines____I_ (fun _ h9 => h9) rfl dX0_live_35 ?_
          refine lv_iload_n hx hb dX0_live_38 rfl (lv_at hl 3 rfl) ?_
          obtain ⟨hc6, hf⟩ := ck_e hf
          refine va_iald hx hb hK hP 2 1 rfl rfl hc6 dX0_live_39 ?_
          refine lv_aload_n hx hb dX0_live_40 rfl (lv_at hl 0 rfl) ?_
          refine va_get (D := (dC, dI)) (ci := 1) (C := RX0) (T := TX0) (N := 6) hx hb hts hinX0 hown hK hP 0 rfl rfl 5 (by decide) (v := .ref (raBk 5)) k_fieldLink_RX0_18__KeyLetters_Book___numbers____I_ (fun _ h9 => h9) rfl dX0_live_41 ?_
          refine lv_iload_n hx hb dX0_live_44 rfl (lv_at hl 3 rfl) ?_
          obtain ⟨hc7, hf⟩ := ck_e hf
          refine va_iald hx hb hK hP 3 1 rfl rfl hc7 dX0_live_45 ?_
          obtain ⟨v9, hq8, hf⟩ := bo_e hf
          refine ko_call (v := some (.int v9)) (va_runVN (As := [.ref (raO 0), .int (Bk_12.1 3 x3_12.toNatClampNeg), .int (Bk_12.1 4 x3_12.toNatClampNeg), .int (Bk_12.1 5 x3_12.toNatClampNeg)]) (rest := []) ⟨hx, hb, hml, hown, hts⟩ (c_X9_whyNot l dC dI cs ad raS raO S_12 O (Bk_12.1 3 x3_12.toNatClampNeg) (Bk_12.1 4 x3_12.toNatClampNeg) (Bk_12.1 5 x3_12.toNatClampNeg) v9 hq8) ⟨va_cnB 4 hts gX0_live_X9_whyNot_n121 rfl rfl rfl (hN _ (List.mem_of_getElem? (i := 130) rfl)) k_initialized_RX9 (by decide +kernel) ⟨Nat.le_of_ble_eq_true rfl, Nat.le_of_ble_eq_true rfl⟩, k_instanceMethod_yX9_whyNot, k_selects_RX9_yX9_whyNot_yX9_whyNot⟩ ⟨fun a U g mk q => ⟨q.1, (fun _ _ _ _ => cPr_bl) a U g mk q.2⟩, va_recv hK hP (ci := 10) (q0 := 12) rfl rfl, fun U hU hW => ⟨rfl, ⟨by rw [hU]; exact (hP.sub (ws' := (ww_X9_whyNot cs ad raS raO S_12 O)) [12, 13, 14, 15, 16, 4, 5, 6, 7, 8, 9, 10, 11] rfl), va_K.moved hW.alike hK, kN_warm hW hN⟩⟩⟩ rfl rfl hl.1 rfl (lv_room (Nat.le_of_ble_eq_true rfl)) dX0_live_46 ⟨Nat.le_refl _, Nat.le_refl _⟩) ?_
          refine lv_istore (nL := 5) (lv' := [(4, .int v9), (0, .ref (raBk 0)), (1, .ref (raO 0)), (2, .ref (raS 0)), (3, .int x3_12)]) hx hb dX0_live_49 hl (by decide) rfl (fun ls hl => ?_)
          refine lv_iload hx hb dX0_live_51 (lv_at hl 0 rfl) ?_
          refine lv_if_eq (tgt := 70) hx hb dX0_live_53 (by decide) (fun hb20 => ?_) (fun hb20 => ?_)
          · have hf := (if_pos hb20).symm.trans hf
            refine lv_aload_n hx hb dX0_live_70 rfl (lv_at hl 1 rfl) ?_
            refine va_get (D := (dC, dI)) (ci := 1) (C := RX0) (T := TX0) (N := 6) hx hb hts hinX0 hown hK hP 0 rfl rfl 3 (by decide) (v := .ref (raBk 3)) k_fieldLink_RX0_11__KeyLetters_Book___acts____I_ (fun _ h9 => h9) rfl dX0_live_71 ?_
            refine lv_iload_n hx hb dX0_live_74 rfl (lv_at hl 4 rfl) ?_
            obtain ⟨hc10, hf⟩ := ck_e hf
            refine va_iald hx hb hK hP 1 1 rfl rfl hc10 dX0_live_75 ?_
            refine lv_bipush (v := 50) hx hb dX0_live_76 (by decide) ?_
            refine lv_icmp_ne (tgt := 95) hx hb dX0_live_78 (by decide) (fun hb19 => ?_) (fun hb19 => ?_)
            · have hf := (if_neg hb19).symm.trans hf
              refine lv_aload_n hx hb dX0_live_95 rfl (lv_at hl 3 rfl) ?_
              refine lv_aload_n hx hb dX0_live_96 rfl (lv_at hl 2 rfl) ?_
              refine lv_aload_n hx hb dX0_live_97 rfl (lv_at hl 1 rfl) ?_
              refine va_get (D := (dC, dI)) (ci := 1) (C := RX0) (T := TX0) (N := 6) hx hb hts hinX0 hown hK hP 0 rfl rfl 3 (by decide) (v := .ref (raBk 3)) k_fieldLink_RX0_11__KeyLetters_Book___acts____I_ (fun _ h9 => h9) rfl dX0_live_98 ?_
              refine lv_iload_n hx hb dX0_live_101 rfl (lv_at hl 4 rfl) ?_
              obtain ⟨hc11, hf⟩ := ck_e hf
              refine va_iald hx hb hK hP 1 1 rfl rfl hc11 dX0_live_102 ?_
              refine lv_aload_n hx hb dX0_live_103 rfl (lv_at hl 1 rfl) ?_
              refine va_get (D := (dC, dI)) (ci := 1) (C := RX0) (T := TX0) (N := 6) hx hb hts hinX0 hown hK hP 0 rfl rfl 4 (by decide) (v := .ref (raBk 4)) k_fieldLink_RX0_15__KeyLetters_Book___machines____I_ (fun _ h9 => h9) rfl dX0_live_104 ?_
              refine lv_iload_n hx hb dX0_live_107 rfl (lv_at hl 4 rfl) ?_
              obtain ⟨hc12, hf⟩ := ck_e hf
              refine va_iald hx hb hK hP 2 1 rfl rfl hc12 dX0_live_108 ?_
              refine lv_aload_n hx hb dX0_live_109 rfl (lv_at hl 1 rfl) ?_
              refine va_get (D := (dC, dI)) (ci := 1) (C := RX0) (T := TX0) (N := 6) hx hb hts hinX0 hown hK hP 0 rfl rfl 5 (by decide) (v := .ref (raBk 5)) k_fieldLink_RX0_18__KeyLetters_Book___numbers____I_ (fun _ h9 => h9) rfl dX0_live_110 ?_
              refine lv_iload_n hx hb dX0_live_113 rfl (lv_at hl 4 rfl) ?_
              obtain ⟨hc13, hf⟩ := ck_e hf
              refine va_iald hx hb hK hP 3 1 rfl rfl hc13 dX0_live_114 ?_
              obtain ⟨Sv15, hq14, hf⟩ := bo_e hf
              refine g_callv (isC := [12, 13, 14, 15, 16, 4, 5, 6, 7, 8, 9, 10, 11]) (isR := [0, 1, 2, 3]) (wc := (ww_X9_perform cs ad raS raO S_12 O)) (wz := (ww_X9_perform cs ad raS raO zD zD)) (w1 := (ww_X9_perform cs ad raS raO Sv15 O)) (ws' := (ww_X0_live cs ad raBk raO raS Bk_12 O Sv15)) (va_runVN (As := [.ref (raO 0), .int (Bk_12.1 3 x3_12.toNatClampNeg), .int (Bk_12.1 4 x3_12.toNatClampNeg), .int (Bk_12.1 5 x3_12.toNatClampNeg)]) (rest := []) ⟨hx, hb, hml, hown, hts⟩ (c_X9_perform l dC dI cs ad raS raO _ S_12 O (Bk_12.1 3 x3_12.toNatClampNeg) (Bk_12.1 4 x3_12.toNatClampNeg) (Bk_12.1 5 x3_12.toNatClampNeg) Sv15 hq14) ⟨va_cnB 4 hts gX0_live_X9_perform_n131 rfl rfl rfl (hN _ (List.mem_of_getElem? (i := 132) rfl)) k_initialized_RX9 (by decide +kernel) ⟨Nat.le_of_ble_eq_true rfl, Nat.le_of_ble_eq_true rfl⟩, k_instanceMethod_yX9_perform, k_selects_RX9_yX9_perform_yX9_perform⟩ ⟨fun a U g mk q => ⟨q.1, (fun _ _ _ _ => cPw_bl) a U g mk q.2⟩, va_recv hK hP (ci := 10) (q0 := 12) rfl rfl, fun U hU hW => ⟨rfl, ⟨by rw [hU], by rw [hU]; exact (hP.sub (ws' := (ww_X9_perform cs ad raS raO S_12 O)) [12, 13, 14, 15, 16, 4, 5, 6, 7, 8, 9, 10, 11] rfl), va_K.moved hW.alike hK, (hD.sub (ws' := (ww_X9_perform cs ad raS raO S_12 O)) [12, 13, 14, 15, 16, 4, 5, 6, 7, 8, 9, 10, 11] (by decide) rfl).weaken (fun _ _ _ _ => trivial), kN_warm hW hN⟩⟩⟩ rfl rfl hl.1 rfl (lv_room (Nat.le_of_ble_eq_true rfl)) dX0_live_115 ⟨Nat.le_refl _, Nat.le_refl _⟩) hP hD hS hA rfl rfl (wr := ((wX0 cs ad raBk Bk_12))) rfl rfl rfl (nw := 17) rfl (by decide +kernel) rfl (fun H locs hP hD hS => ?_)
              exact h_118 x3_12 Bk_12 Sv15 ls _ _ (lv_sub hl [1, 2, 3, 4] rfl) hP hD hS hf
            · have hf := (if_pos hb19).symm.trans hf
              refine lv_aload_n hx hb dX0_live_81 rfl (lv_at hl 3 rfl) ?_
              refine lv_aload_n hx hb dX0_live_82 rfl (lv_at hl 2 rfl) ?_
              refine lv_aload_n hx hb dX0_live_83 rfl (lv_at hl 1 rfl) ?_
              refine va_get (D := (dC, dI)) (ci := 1) (C := RX0) (T := TX0) (N := 6) hx hb hts hinX0 hown hK hP 0 rfl rfl 5 (by decide) (v := .ref (raBk 5)) k_fieldLink_RX0_18__KeyLetters_Book___numbers____I_ (fun _ h9 => h9) rfl dX0_live_84 ?_
              refine lv_iload_n hx hb dX0_live_87 rfl (lv_at hl 4 rfl) ?_
              obtain ⟨hc16, hf⟩ := ck_e hf
              refine va_iald hx hb hK hP 3 1 rfl rfl hc16 dX0_live_88 ?_
              obtain ⟨Sv18, hq17, hf⟩ := bo_e hf
              refine g_callv (isC := [12, 13, 14, 15, 16, 4, 5, 6, 7, 8, 9, 10, 11]) (isR := [0, 1, 2, 3]) (wc := (ww_X9_passDays cs ad raS raO S_12 O)) (wz := (ww_X9_passDays cs ad raS raO zD zD)) (w1 := (ww_X9_passDays cs ad raS raO Sv18 O)) (ws' := (ww_X0_live cs ad raBk raO raS Bk_12 O Sv18)) (va_runVN (As := [.ref (raO 0), .int (Bk_12.1 5 x3_12.toNatClampNeg)]) (rest := []) ⟨hx, hb, hml, hown, hts⟩ (c_X9_passDays l dC dI cs ad raS raO _ S_12 O (Bk_12.1 5 x3_12.toNatClampNeg) Sv18 hq17) ⟨va_cnB 2 hts gX0_live_X9_passDays_n127 rfl rfl rfl (hN _ (List.mem_of_getElem? (i := 131) rfl)) k_initialized_RX9 (by decide +kernel) ⟨Nat.le_of_ble_eq_true rfl, Nat.le_of_ble_eq_true rfl⟩, k_instanceMethod_yX9_passDays, k_selects_RX9_yX9_passDays_yX9_passDays⟩ ⟨fun a U g mk q => ⟨q.1, (fun _ _ _ _ => cPw_bl) a U g mk q.2⟩, va_recv hK hP (ci := 10) (q0 := 12) rfl rfl, fun U hU hW => ⟨rfl, ⟨by rw [hU], by rw [hU]; exact (hP.sub (ws' := (ww_X9_passDays cs ad raS raO S_12 O)) [12, 13, 14, 15, 16, 4, 5, 6, 7, 8, 9, 10, 11] rfl), va_K.moved hW.alike hK, (hD.sub (ws' := (ww_X9_passDays cs ad raS raO S_12 O)) [12, 13, 14, 15, 16, 4, 5, 6, 7, 8, 9, 10, 11] (by decide) rfl).weaken (fun _ _ _ _ => trivial), kN_warm hW hN⟩⟩⟩ rfl rfl hl.1 rfl (lv_room (Nat.le_of_ble_eq_true rfl)) dX0_live_89 ⟨Nat.le_refl _, Nat.le_refl _⟩) hP hD hS hA rfl rfl (wr := ((wX0 cs ad raBk Bk_12))) rfl rfl rfl (nw := 17) rfl (by decide +kernel) rfl (fun H locs hP hD hS => ?_)
              refine lv_goto (tgt := 118) hx hb dX0_live_92 (by decide) ?_
              exact h_118 x3_12 Bk_12 Sv18 ls _ _ (lv_sub hl [1, 2, 3, 4] rfl) hP hD hS hf
          · have hf := (if_neg hb20).symm.trans hf
            exact h_56 x3_12 v9 Bk_12 S_12 ls _ _ (lv_sub hl [1, 4, 0] rfl) hP hD hS hf) 2000
  refine lv_aload_n hx hb dX0_live_0 rfl (lv_at hl 0 rfl) ?_
  refine lv_iconst (v := 0) hx hb dX0_live_1 (by decide) ?_
  obtain ⟨Bkv23, eBkv23, hf⟩ := bd1_e hf
  refine g_put (D := (dC, dI)) (ci := 1) (C := RX0) (T := TX0) (N := 6) hx hb hts hinX0 tyX0 tyX0_ok nmX0 hown hK hP hD hS 0 rfl rfl 1 (by decide) k_fieldLink_RX0_115__KeyLetters_Book___lived___I_ (fun _ h9 => h9) rfl (ty := .int) (v := .int (0 : Int32)) (by decide +kernel) rfl rfl (Nat.le_of_ble_eq_true rfl) (ws' := (ww_X0_live cs ad raBk raO raS Bkv23 O S)) (by rw [eBkv23]; rfl) dX0_live_2 (fun H locs hP hD hS => ?_)
  refine lv_aload_n hx hb dX0_live_5 rfl (lv_at hl 0 rfl) ?_
  refine lv_iconst (v := 0) hx hb dX0_live_6 (by decide) ?_
  obtain ⟨Bkv24, eBkv24, hf⟩ := bd1_e hf
  refine g_put (D := (dC, dI)) (ci := 1) (C := RX0) (T := TX0) (N := 6) hx hb hts hinX0 tyX0 tyX0_ok nmX0 hown hK hP hD hS 0 rfl rfl 2 (by decide) k_fieldLink_RX0_118__KeyLetters_Book___whyWrong___I_ (fun _ h9 => h9) rfl (ty := .int) (v := .int (0 : Int32)) (by decide +kernel) rfl rfl (Nat.le_of_ble_eq_true rfl) (ws' := (ww_X0_live cs ad raBk raO raS Bkv24 O S)) (by rw [eBkv24]; rfl) dX0_live_7 (fun H locs hP hD hS => ?_)
  refine lv_iconst (v := 0) hx hb dX0_live_10 (by decide) ?_
  refine lv_istore_n (nL := 5) (lv' := [(3, .int (0 : Int32)), (0, .ref (raBk 0)), (1, .ref (raO 0)), (2, .ref (raS 0))]) hx hb dX0_live_11 rfl hl (by decide) rfl (fun ls hl => ?_)
  exact h_12 (0 : Int32) Bkv24 S ls _ _ (lv_sub hl [1, 2, 3, 0] rfl) hP hD hS hf

def ww_X1_draw (cs : Nat → ClassId) (ad : Nat → Nat) (raD : Nat → Nat) (D : kD) : va_W := (wX1 cs ad raD D)
abbrev rm_X1_draw : Room := { frames := 0, cells := 0, slots := 0, locals := 0 }
set_option maxHeartbeats 4000000 in
set_option maxRecDepth 100000 in
theorem c_X1_draw (l : Launch) (dC : Nat → ClassId) (dI : Nat → Nat → Nat) (cs : Nat → ClassId) (ad : Nat → Nat) (raD : Nat → Nat) (sz : Nat) (D : kD) (a0 : Int32) (r : Int32 × kD) (hf : f_X1_draw a0 D = some r) : Met l yX1_draw wsX1_draw rm_X1_draw (va_Pc [.ref (raD 0), .int a0] (cPw dC dI cs sz (ww_X1_draw cs ad raD D))) (cQi dC dI cs (va_A (ww_X1_draw cs ad raD zD) sz) r.1 (ww_X1_draw cs ad raD r.2)) 0 0 (va_A (ww_X1_draw cs ad raD zD) sz) := by
  refine Met.ofW (cc := cX1_draw) (maxL := 2) (ret := (some .int)) (by decide) rfl ?_
  intro p e s m args below meth c s₁ B hml hv
  obtain ⟨hav, hsz, hP, hK, hD0, hN⟩ := hv
  have hx := B.exec
  have hb := B.bytes
  have hr := B.returns
  have hts := atoms_spec (ws := wsX1_draw) B.pre
  have hown : s.vm.findClass RX1 = some m.cls := findClass_of_methodNamed B.named
  have hlocks := B.notSynchronized
  subst hsz
  have hA : ∀ q, s.heap.size ≤ q → va_A (ww_X1_draw cs ad raD zD) s.heap.size q := fun q h => Or.inr h
  have hD : va_D (va_A (ww_X1_draw cs ad raD zD) s.heap.size) (ww_X1_draw cs ad raD D) := hD0.weaken (fun k q h _ => cA_in (ws := (ww_X1_draw cs ad raD D)) (ws' := (ww_X1_draw cs ad raD zD)) rfl h)
  have hS : va_S (va_A (ww_X1_draw cs ad raD zD) s.heap.size) s.heap s.heap [] := va_S.rf
  have hinX1 := (show ∀ w ∈ wsX10, w ∈ wsX1_draw from fun w h => List.mem_cons_of_mem _ (List.mem_append_right _ h))
  have k_constant_RX1_13_1103515245 := hts (.constant RX1 13 1103515245) (by decide +kernel)
  have k_fieldLink_RX1_7__KeyLetters_Dice___seed___I_ := hts (.fieldLink RX1 7 "KeyLetters$Dice" "seed" "I") (List.mem_of_getElem? (i := 1) rfl)
  have hl := lv_entry ([.ref (raD 0), .int a0]) (n := 2) (Nat.le_of_ble_eq_true rfl)
  rw [show entryFrame m args 2 = entryFrame m ([.ref (raD 0), .int a0] : List Value).toArray 2 from by rw [hav], lg_entry_eq]
  generalize (lg_sl ([.ref (raD 0), .int a0]) ++ List.replicate (2 - (lg_sl ([.ref (raD 0), .int a0])).length) Slot.unset).toArray = ls at hl ⊢
  have hl : lv_has ls 2 [(0, .ref (raD 0)), (1, .int a0)] := hl
  unfold f_X1_draw at hf
  refine lv_aload_n hx hb dX1_draw_0 rfl (lv_at hl 0 rfl) ?_
  refine lv_aload_n hx hb dX1_draw_1 rfl (lv_at hl 0 rfl) ?_
  refine va_get (D := (dC, dI)) (ci := 2) (C := RX1) (T := TX1) (N := 1) hx hb hts hinX1 hown hK hP 0 rfl rfl 0 (by decide) (v := .int (D.1 0 0)) k_fieldLink_RX1_7__KeyLetters_Dice___seed___I_ (fun _ h9 => h9) rfl dX1_draw_2 ?_
  refine lv_ldc (v := 1103515245) hx hb hown k_constant_RX1_13_1103515245 dX1_draw_5 ?_
  refine lv_imul hx hb dX1_draw_7 ?_
  refine lv_sipush (v := 12345) hx hb dX1_draw_8 (by decide) ?_
  refine lv_iadd hx hb dX1_draw_11 ?_
  obtain ⟨Dv1, eDv1, hf⟩ := bd1_e hf
  refine g_put (D := (dC, dI)) (ci := 2) (C := RX1) (T := TX1) (N := 1) hx hb hts hinX1 tyX1 tyX1_ok nmX1 hown hK hP hD hS 0 rfl rfl 0 (by decide) k_fieldLink_RX1_7__KeyLetters_Dice___seed___I_ (fun _ h9 => h9) rfl (ty := .int) (v := .int (((D.1 0 0) * (1103515245 : Int32)) + (12345 : Int32))) (by decide +kernel) rfl rfl (Nat.le_of_ble_eq_true rfl) (ws' := (ww_X1_draw cs ad raD Dv1)) (by rw [eDv1]; rfl) dX1_draw_12 (fun H locs hP hD hS => ?_)
  refine lv_iload_n hx hb dX1_draw_15 rfl (lv_at hl 1 rfl) ?_
  refine lv_if_le (tgt := 31) hx hb dX1_draw_16 (by decide) (fun hb3 => ?_) (fun hb3 => ?_)
  · have hf := (if_pos hb3).symm.trans hf
    refine lv_iconst (v := 0) hx hb dX1_draw_31 (by decide) ?_
    have hf := Option.some.inj hf
    subst hf
    exact c_iret (v := (0 : Int32)) hx hb hr hlocks hP hK hD hS dX1_draw_32
  · have hf := (if_neg hb3).symm.trans hf
    refine lv_aload_n hx hb dX1_draw_19 rfl (lv_at hl 0 rfl) ?_
    refine va_get (D := (dC, dI)) (ci := 2) (C := RX1) (T := TX1) (N := 1) hx hb hts hinX1 hown hK hP 0 rfl rfl 0 (by decide) (v := .int (Dv1.1 0 0)) k_fieldLink_RX1_7__KeyLetters_Dice___seed___I_ (fun _ h9 => h9) rfl dX1_draw_20 ?_
    refine lv_bipush (v := 8) hx hb dX1_draw_23 (by decide) ?_
    refine lv_iushr (v := (kUshr (Dv1.1 0 0) (8 : Int32))) hx hb dX1_draw_25 rfl ?_
    refine lv_iload_n hx hb dX1_draw_26 rfl (lv_at hl 1 rfl) ?_
    obtain ⟨hc2, hf⟩ := ck_e hf
    refine lv_irem hx hb dX1_draw_27 hc2 ?_
    refine lv_goto (tgt := 32) hx hb dX1_draw_28 (by decide) ?_
    have hf := Option.some.inj hf
    subst hf
    exact c_iret (v := (kRem (kUshr (Dv1.1 0 0) (8 : Int32)) a0)) hx hb hr hlocks hP hK hD hS dX1_draw_32

