def ww_X4_advance (cs : Nat → ClassId) (ad : Nat → Nat) (raR : Nat → Nat) (raT : Nat) (xR : Nat) (nT : Nat) (R : kD) (T : Nat → Int32) : va_W := (wX4 cs ad raR xR raT R ++ ([(raT, .inl (cs 1, nT, .inl T))]))
abbrev rm_X4_advance : Room := { frames := 5, cells := 0, slots := 0, locals := 145 }
set_option maxHeartbeats 4000000 in
set_option maxRecDepth 100000 in
theorem c_X4_advance (l : Launch) (dC : Nat → ClassId) (dI : Nat → Nat → Nat) (cs : Nat → ClassId) (ad : Nat → Nat) (raR : Nat → Nat) (raT : Nat) (xR : Nat) (nT : Nat) (sz : Nat) (R : kD) (T : Nat → Int32) (r : kD) (hf : f_X4_advance nT R T = some r) : Met l yX4_advance wsX4_advance rm_X4_advance (va_Pc [.ref (raR 0)] (cPe ad (va_A (ww_X4_advance cs ad raR raT xR nT zD (fun _ => 0)) sz) (cPw dC dI cs sz (ww_X4_advance cs ad raR raT xR nT R T)))) (cQv dC dI cs (va_A (ww_X4_advance cs ad raR raT xR nT zD (fun _ => 0)) sz) (ww_X4_advance cs ad raR raT xR nT r T)) 0 0 (va_A (ww_X4_advance cs ad raR raT xR nT zD (fun _ => 0)) sz) := by
  refine Met.ofW (cc := cX4_advance) (maxL := 2) (ret := none) (by decide) rfl ?_
  intro p e s m args below meth c s₁ B hml hv
  obtain ⟨hav, hE, hsz, hP, hK, hD0, hN⟩ := hv
  have hx := B.exec
  have hb := B.bytes
  have hr := B.returns
  have hts := atoms_spec (ws := wsX4_advance) B.pre
  have hown : s.vm.findClass RX4 = some m.cls := findClass_of_methodNamed B.named
  have hlocks := B.notSynchronized
  subst hsz
  have hA : ∀ q, s.heap.size ≤ q → va_A (ww_X4_advance cs ad raR raT xR nT zD (fun _ => 0)) s.heap.size q := fun q h => Or.inr h
  have hD : va_D (va_A (ww_X4_advance cs ad raR raT xR nT zD (fun _ => 0)) s.heap.size) (ww_X4_advance cs ad raR raT xR nT R T) := hD0.weaken (fun k q h _ => cA_in (ws := (ww_X4_advance cs ad raR raT xR nT R T)) (ws' := (ww_X4_advance cs ad raR raT xR nT zD (fun _ => 0))) rfl h)
  have hS : va_S (va_A (ww_X4_advance cs ad raR raT xR nT zD (fun _ => 0)) s.heap.size) s.heap s.heap [] := va_S.rf
  have hinX4 := (show ∀ w ∈ wsX40, w ∈ wsX4_advance from fun w h => List.mem_cons_of_mem _ (List.mem_append_right _ h))
  have k_code_Lib_Math_min_name_Lib_Math_min_code_2__some__int_ := hts (.code Lib.Math.min.name Lib.Math.min.code 2 (some .int)) (List.mem_of_getElem? (i := 6) rfl)
  have k_fieldLink_RX4_30__KeyLetters_Reader___bytes___I_ := hts (.fieldLink RX4 30 "KeyLetters$Reader" "bytes" "I") (List.mem_of_getElem? (i := 1) rfl)
  have k_fieldLink_RX4_34__KeyLetters_Reader___most___I_ := hts (.fieldLink RX4 34 "KeyLetters$Reader" "most" "I") (List.mem_of_getElem? (i := 2) rfl)
  have k_fieldLink_RX4_37__KeyLetters_Reader___next___I_ := hts (.fieldLink RX4 37 "KeyLetters$Reader" "next" "I") (List.mem_of_getElem? (i := 7) rfl)
  have k_fieldLink_RX4_49__KeyLetters_Reader___place___I_ := hts (.fieldLink RX4 49 "KeyLetters$Reader" "place" "I") (List.mem_of_getElem? (i := 11) rfl)
  have k_fieldLink_RX4_52__KeyLetters_Reader___sort___I_ := hts (.fieldLink RX4 52 "KeyLetters$Reader" "sort" "I") (List.mem_of_getElem? (i := 12) rfl)
  have k_fieldLink_RX4_58__KeyLetters_Reader___value___I_ := hts (.fieldLink RX4 58 "KeyLetters$Reader" "value" "I") (List.mem_of_getElem? (i := 13) rfl)
  have k_fieldLink_RX4_9__KeyLetters_Reader___text____I_ := hts (.fieldLink RX4 9 "KeyLetters$Reader" "text" "[I") (List.mem_of_getElem? (i := 8) rfl)
  have k_initialized__java_lang_Math_ := hts (.initialized "java/lang/Math") (List.mem_of_getElem? (i := 5) rfl)
  have k_methodLink_RX4_24_Lib_Math_min_name := hts (.methodLink RX4 24 Lib.Math.min.name) (List.mem_of_getElem? (i := 3) rfl)
  have k_static_Lib_Math_min_name := hts (.static Lib.Math.min.name) (List.mem_of_getElem? (i := 4) rfl)
  have keldLink_RX4_15__KeyLetters_Word___OTHER___LKeyLetters_Word__ := hts (.fieldLink RX4 15 "KeyLetters$Word" "OTHER" "LKeyLetters$Word;") (List.mem_of_getElem? (i := 9) rfl)
  have kldLink_RX4_21__KeyLetters_Reader___word___LKeyLetters_Word__ := hts (.fieldLink RX4 21 "KeyLetters$Reader" "word" "LKeyLetters$Word;") (List.mem_of_getElem? (i := 10) rfl)
  have hl := lv_entry ([.ref (raR 0)]) (n := 2) (Nat.le_of_ble_eq_true rfl)
  rw [show entryFrame m args 2 = entryFrame m ([.ref (raR 0)] : List Value).toArray 2 from by rw [hav], lg_entry_eq]
  generalize (lg_sl ([.ref (raR 0)]) ++ List.replicate (2 - (lg_sl ([.ref (raR 0)])).length) Slot.unset).toArray = ls at hl ⊢
  have hl : lv_has ls 2 [(0, .ref (raR 0))] := hl
  unfold f_X4_advance at hf
  have h_61 : ∀ (x1_61 : Int32) (R_61 : kD) (ls : Array Slot) (H : Heap) (locs : List Loc), lv_has ls 2 [(0, .ref (raR 0)), (1, .int x1_61)] → va_P (dC, dI) vwCl (ww_X4_advance cs ad raR raT xR nT R_61 T) H → va_D (va_A (ww_X4_advance cs ad raR raT xR nT zD (fun _ => 0)) s.heap.size) (ww_X4_advance cs ad raR raT xR nT R_61 T) → va_S (va_A (ww_X4_advance cs ad raR raT xR nT zD (fun _ => 0)) s.heap.size) s.heap H locs → g_X4_advance_61 nT T x1_61 R_61 = some r → W p l e (headSpec wsX4_advance rm_X4_advance).room s m args below meth c H locs 0 0 (MQ below (cQv dC dI cs (va_A (ww_X4_advance cs ad raR raT xR nT zD (fun _ => 0)) s.heap.size) (ww_X4_advance cs ad raR raT xR nT r T)) args s 0 0 (va_A (ww_X4_advance cs ad raR raT xR nT zD (fun _ => 0)) s.heap.size)) (F0 m 61 ls []) := by
    intro x1_61 R_61 ls H locs hl hP hD hS hf
    unfold g_X4_advance_61 at hf
    have h_154 : ∀ (t1_154 : Int32) (R_154 : kD) (ls : Array Slot) (H : Heap) (locs : List Loc), lv_has ls 2 [(0, .ref (raR 0))] → va_P (dC, dI) vwCl (ww_X4_advance cs ad raR raT xR nT R_154 T) H → va_D (va_A (ww_X4_advance cs ad raR raT xR nT zD (fun _ => 0)) s.heap.size) (ww_X4_advance cs ad raR raT xR nT R_154 T) → va_S (va_A (ww_X4_advance cs ad raR raT xR nT zD (fun _ => 0)) s.heap.size) s.heap H locs → g_X4_advance_154 nT T t1_154 R_154 = some r → W p l e (headSpec wsX4_advance rm_X4_advance).room s m args below meth c H locs 0 0 (MQ below (cQv dC dI cs (va_A (ww_X4_advance cs ad raR raT xR nT zD (fun _ => 0)) s.heap.size) (ww_X4_advance cs ad raR raT xR nT r T)) args s 0 0 (va_A (ww_X4_advance cs ad raR raT xR nT zD (fun _ => 0)) s.heap.size)) (F0 m 154 ls [.int t1_154, .ref (raR 0)]) := by
      intro t1_154 R_154 ls H locs hl hP hD hS hf
      unfold g_X4_advance_154 at hf
      obtain ⟨Rv1, eRv1, hf⟩ := bd1_e hf
      refine g_put (D := (dC, dI)) (ci := 5) (C := RX4) (T := TX4) (N := 11) hx hb hts hinX4 tyX4 tyX4_ok nmX4 hown hK hP hD hS 0 rfl rfl 4 (by decide) k_fieldLink_RX4_52__KeyLetters_Reader___sort___I_ (fun _ h9 => h9) rfl (ty := .int) (v := .int t1_154) (by decide +kernel) rfl rfl (Nat.le_of_ble_eq_true rfl) (ws' := (ww_X4_advance cs ad raR raT xR nT Rv1 T)) (by rw [eRv1]; rfl) dX4_advance_154 (fun H locs hP hD hS => ?_)
      refine lv_aload_n hx hb dX4_advance_157 rfl (lv_at hl 0 rfl) ?_
      refine lv_dup hx hb dX4_advance_158 rfl ?_
      refine va_get (D := (dC, dI)) (ci := 5) (C := RX4) (T := TX4) (N := 11) hx hb hts hinX4 hown hK hP 0 rfl rfl 3 (by decide) (v := .int (Rv1.1 0 3)) k_fieldLink_RX4_37__KeyLetters_Reader___next___I_ (fun _ h9 => h9) rfl dX4_advance_159 ?_
      refine lv_iconst (v := 1) hx hb dX4_advance_162 (by decide) ?_
      refine lv_iadd hx hb dX4_advance_163 ?_
      obtain ⟨Rv2, eRv2, hf⟩ := bd1_e hf
      refine g_put (D := (dC, dI)) (ci := 5) (C := RX4) (T := TX4) (N := 11) hx hb hts hinX4 tyX4 tyX4_ok nmX4 hown hK hP hD hS 0 rfl rfl 3 (by decide) k_fieldLink_RX4_37__KeyLetters_Reader___next___I_ (fun _ h9 => h9) rfl (ty := .int) (v := .int ((Rv1.1 0 3) + (1 : Int32))) (by decide +kernel) rfl rfl (Nat.le_of_ble_eq_true rfl) (ws' := (ww_X4_advance cs ad raR raT xR nT Rv2 T)) (by rw [eRv2]; rfl) dX4_advance_164 (fun H locs hP hD hS => ?_)
      refine lv_goto (tgt := 195) hx hb dX4_advance_167 (by decide) ?_
      have hf := Option.some.inj hf
      subst hf
      exact c_vret hx hb hr hlocks hP hK hD hS dX4_advance_195
    refine lv_aload_n hx hb dX4_advance_61 rfl (lv_at hl 0 rfl) ?_
    refine va_gets hx hb (show va_Z "KeyLetters$Word" "OTHER" "LKeyLetters$Word;" (.ref (ad 0)) _ s s.heap from (hE.1.1 0 (by decide)).1) hS hown keldLink_RX4_15__KeyLetters_Word___OTHER___LKeyLetters_Word__ (fun _ h9 => h9) dX4_advance_62 ?_
    refine kt_v (show Value.ref (ad (0 : Int32).toNatClampNeg) = va_rf (kW ad (0 : Int32)) from (kW_in ad (by decide +kernel)).symm) ?_
    obtain ⟨Rv3, eRv3, hf⟩ := bd1_e hf
    refine g_put (D := (dC, dI)) (ci := 5) (C := RX4) (T := TX4) (N := 11) hx hb hts hinX4 tyX4 tyX4_ok nmX4 hown hK hP hD hS 0 rfl rfl 6 (by decide) kldLink_RX4_21__KeyLetters_Reader___word___LKeyLetters_Word__ (fun _ h9 => h9) rfl (ty := .object "KeyLetters$Word") (v := va_rf (kW ad (0 : Int32))) (by decide +kernel) (kt_nar _) (kt_fit _) (Nat.le_of_ble_eq_true rfl) (ws' := (ww_X4_advance cs ad raR raT xR nT Rv3 T)) (by rw [eRv3]; rfl) dX4_advance_65 (fun H locs hP hD hS => ?_)
    refine lv_aload_n hx hb dX4_advance_68 rfl (lv_at hl 0 rfl) ?_
    refine va_get (D := (dC, dI)) (ci := 5) (C := RX4) (T := TX4) (N := 11) hx hb hts hinX4 hown hK hP 0 rfl rfl 3 (by decide) (v := .int (Rv3.1 0 3)) k_fieldLink_RX4_37__KeyLetters_Reader___next___I_ (fun _ h9 => h9) rfl dX4_advance_69 ?_
    refine lv_iload_n hx hb dX4_advance_72 rfl (lv_at hl 1 rfl) ?_
    refine lv_icmp_lt (tgt := 102) hx hb dX4_advance_73 (by decide) (fun hb21 => ?_) (fun hb21 => ?_)
    · have hf := (if_pos hb21).symm.trans hf
      refine lv_aload_n hx hb dX4_advance_102 rfl (lv_at hl 0 rfl) ?_
      refine lv_aload_n hx hb dX4_advance_103 rfl (lv_at hl 0 rfl) ?_
      refine va_get (D := (dC, dI)) (ci := 5) (C := RX4) (T := TX4) (N := 11) hx hb hts hinX4 hown hK hP 0 rfl rfl 3 (by decide) (v := .int (Rv3.1 0 3)) k_fieldLink_RX4_37__KeyLetters_Reader___next___I_ (fun _ h9 => h9) rfl dX4_advance_104 ?_
      obtain ⟨Rv4, eRv4, hf⟩ := bd1_e hf
      refine g_put (D := (dC, dI)) (ci := 5) (C := RX4) (T := TX4) (N := 11) hx hb hts hinX4 tyX4 tyX4_ok nmX4 hown hK hP hD hS 0 rfl rfl 5 (by decide) k_fieldLink_RX4_49__KeyLetters_Reader___place___I_ (fun _ h9 => h9) rfl (ty := .int) (v := .int (Rv3.1 0 3)) (by decide +kernel) rfl rfl (Nat.le_of_ble_eq_true rfl) (ws' := (ww_X4_advance cs ad raR raT xR nT Rv4 T)) (by rw [eRv4]; rfl) dX4_advance_107 (fun H locs hP hD hS => ?_)
      refine lv_aload_n hx hb dX4_advance_110 rfl (lv_at hl 0 rfl) ?_
      obtain ⟨Rv6, hq5, hf⟩ := bo_e hf
      refine g_callv (isC := [0, 1]) (isR := []) (wc := (ww_X4_readRun cs ad raR raT xR nT Rv4 T)) (wz := (ww_X4_readRun cs ad raR raT xR nT zD (fun _ => 0))) (w1 := (ww_X4_readRun cs ad raR raT xR nT Rv6 T)) (ws' := (ww_X4_advance cs ad raR raT xR nT Rv6 T)) (va_runV (As := []) (rest := []) ⟨hx, hb, hml, hown, hts⟩ (c_X4_readRun l dC dI cs ad raR raT xR nT _ Rv4 T Rv6 hq5) (cwV 0 hts gX4_advance_X4_readRun rfl rfl rfl (by decide +kernel) ⟨Nat.le_of_ble_eq_true rfl, Nat.le_of_ble_eq_true rfl⟩) ⟨fun a U g mk q => ⟨q.1, (fun _ _ _ _ => cPw_bl) a U g mk q.2⟩, va_recv hK hP (ci := 5) (q0 := 0) rfl rfl, fun U hU hW => ⟨rfl, ⟨by rw [hU], by rw [hU]; exact (hP.sub (ws' := (ww_X4_readRun cs ad raR raT xR nT Rv4 T)) [0, 1] rfl), va_K.moved hW.alike hK, (hD.sub (ws' := (ww_X4_readRun cs ad raR raT xR nT Rv4 T)) [0, 1] (by decide) rfl).weaken (fun _ _ _ _ => trivial), kN_warm hW hN⟩⟩⟩ rfl rfl hl.1 rfl (lv_room (Nat.le_of_ble_eq_true rfl)) dX4_advance_111 ⟨Nat.le_refl _, Nat.le_refl _⟩) hP hD hS hA rfl rfl (wr := ([] : va_W)) rfl rfl rfl (nw := 2) rfl (by decide +kernel) rfl (fun H locs hP hD hS => ?_)
      refine lv_aload_n hx hb dX4_advance_114 rfl (lv_at hl 0 rfl) ?_
      refine va_get (D := (dC, dI)) (ci := 5) (C := RX4) (T := TX4) (N := 11) hx hb hts hinX4 hown hK hP 0 rfl rfl 3 (by decide) (v := .int (Rv6.1 0 3)) k_fieldLink_RX4_37__KeyLetters_Reader___next___I_ (fun _ h9 => h9) rfl dX4_advance_115 ?_
      refine lv_aload_n hx hb dX4_advance_118 rfl (lv_at hl 0 rfl) ?_
      refine va_get (D := (dC, dI)) (ci := 5) (C := RX4) (T := TX4) (N := 11) hx hb hts hinX4 hown hK hP 0 rfl rfl 5 (by decide) (v := .int (Rv6.1 0 5)) k_fieldLink_RX4_49__KeyLetters_Reader___place___I_ (fun _ h9 => h9) rfl dX4_advance_119 ?_
      refine lv_icmp_ne (tgt := 170) hx hb dX4_advance_122 (by decide) (fun hb16 => ?_) (fun hb16 => ?_)
      · have hf := (if_neg hb16).symm.trans hf
        refine lv_aload_n hx hb dX4_advance_170 rfl (lv_at hl 0 rfl) ?_
        refine va_get (D := (dC, dI)) (ci := 5) (C := RX4) (T := TX4) (N := 11) hx hb hts hinX4 hown hK hP 0 rfl rfl 4 (by decide) (v := .int (Rv6.1 0 4)) k_fieldLink_RX4_52__KeyLetters_Reader___sort___I_ (fun _ h9 => h9) rfl dX4_advance_171 ?_
        refine lv_iconst (v := 2) hx hb dX4_advance_174 (by decide) ?_
        refine lv_icmp_ne (tgt := 195) hx hb dX4_advance_175 (by decide) (fun hb10 => ?_) (fun hb10 => ?_)
        · have hf := (if_neg hb10).symm.trans hf
          have hf := Option.some.inj hf
          subst hf
          exact c_vret hx hb hr hlocks hP hK hD hS dX4_advance_195
        · have hf := (if_pos hb10).symm.trans hf
          refine lv_aload_n hx hb dX4_advance_178 rfl (lv_at hl 0 rfl) ?_
          refine lv_aload_n hx hb dX4_advance_179 rfl (lv_at hl 0 rfl) ?_
          refine lv_aload_n hx hb dX4_advance_180 rfl (lv_at hl 0 rfl) ?_
          refine va_get (D := (dC, dI)) (ci := 5) (C := RX4) (T := TX4) (N := 11) hx hb hts hinX4 hown hK hP 0 rfl rfl 3 (by decide) (v := .int (Rv6.1 0 3)) k_fieldLink_RX4_37__KeyLetters_Reader___next___I_ (fun _ h9 => h9) rfl dX4_advance_181 ?_
          refine lv_aload_n hx hb dX4_advance_184 rfl (lv_at hl 0 rfl) ?_
          refine va_get (D := (dC, dI)) (ci := 5) (C := RX4) (T := TX4) (N := 11) hx hb hts hinX4 hown hK hP 0 rfl rfl 5 (by decide) (v := .int (Rv6.1 0 5)) k_fieldLink_RX4_49__KeyLetters_Reader___place___I_ (fun _ h9 => h9) rfl dX4_advance_185 ?_
          refine lv_isub hx hb dX4_advance_188 ?_
          obtain ⟨v8, hq7, hf⟩ := bo_e hf
          have hEc := cE_subF hE hS
          refine ko_call (v := some (.ref (ad v8.toNatClampNeg))) (va_runV (As := [.int ((Rv6.1 0 3) - (Rv6.1 0 5))]) (rest := [.ref (raR 0)]) ⟨hx, hb, hml, hown, hts⟩ (c_X4_wordOf l dC dI cs ad raR raT xR nT Rv6 T ((Rv6.1 0 3) - (Rv6.1 0 5)) v8 hq7) (cwV 1 hts gX4_advance_X4_wordOf rfl rfl rfl (by decide +kernel) ⟨Nat.le_of_ble_eq_true rfl, Nat.le_of_ble_eq_true rfl⟩) ⟨fun a U g mk q => ⟨q.1, (fun _ _ _ _ => cPe_bl (fun h => cPr_bl h)) a U g mk q.2⟩, va_recv hK hP (ci := 5) (q0 := 0) rfl rfl, fun U hU hW => ⟨rfl, ⟨hEc U hU hW, ⟨by rw [hU]; exact (hP.sub (ws' := (ww_X4_wordOf cs ad raR raT xR nT Rv6 T)) [0, 1] rfl), va_K.moved hW.alike hK, kN_warm hW hN⟩⟩⟩⟩ rfl rfl hl.1 rfl (lv_room (Nat.le_of_ble_eq_true rfl)) dX4_advance_189 ⟨Nat.le_refl _, Nat.le_refl _⟩) ?_
          refine kt_v (show Value.ref (ad v8.toNatClampNeg) = va_rf (kW ad v8) from (kW_in ad (f_X4_wordOf_in hq7)).symm) ?_
          obtain ⟨Rv9, eRv9, hf⟩ := bd1_e hf
          refine g_put (D := (dC, dI)) (ci := 5) (C := RX4) (T := TX4) (N := 11) hx hb hts hinX4 tyX4 tyX4_ok nmX4 hown hK hP hD hS 0 rfl rfl 6 (by decide) kldLink_RX4_21__KeyLetters_Reader___word___LKeyLetters_Word__ (fun _ h9 => h9) rfl (ty := .object "KeyLetters$Word") (v := va_rf (kW ad v8)) (by decide +kernel) (kt_nar _) (kt_fit _) (Nat.le_of_ble_eq_true rfl) (ws' := (ww_X4_advance cs ad raR raT xR nT Rv9 T)) (by rw [eRv9]; rfl) dX4_advance_192 (fun H locs hP hD hS => ?_)
          have hf := Option.some.inj hf
          subst hf
          exact c_vret hx hb hr hlocks hP hK hD hS dX4_advance_195
      · have hf := (if_pos hb16).symm.trans hf
        refine lv_aload_n hx hb dX4_advance_125 rfl (lv_at hl 0 rfl) ?_
        refine lv_aload_n hx hb dX4_advance_126 rfl (lv_at hl 0 rfl) ?_
        obtain ⟨hc11, hf⟩ := ck_e hf
        refine va_get (D := (dC, dI)) (ci := 5) (C := RX4) (T := TX4) (N := 11) hx hb hts hinX4 hown hK hP 0 rfl rfl 0 (by decide) (v := .ref (kTx xR raT (Rv6.1 0 0))) k_fieldLink_RX4_9__KeyLetters_Reader___text____I_ (fun _ h9 => h9) rfl dX4_advance_127 ?_
        rw [kTx_1 xR raT (Decidable.not_not.mp hc11)]
        refine lv_aload_n hx hb dX4_advance_130 rfl (lv_at hl 0 rfl) ?_
        refine va_get (D := (dC, dI)) (ci := 5) (C := RX4) (T := TX4) (N := 11) hx hb hts hinX4 hown hK hP 0 rfl rfl 5 (by decide) (v := .int (Rv6.1 0 5)) k_fieldLink_RX4_49__KeyLetters_Reader___place___I_ (fun _ h9 => h9) rfl dX4_advance_131 ?_
        obtain ⟨v12, ev12, hf⟩ := bd1_e hf
        refine kt_i ev12 ?_
        obtain ⟨hc13, hf⟩ := ck_e hf
        refine va_iald hx hb hK hP 1 1 rfl rfl hc13 dX4_advance_134 ?_
        obtain ⟨Rv14, eRv14, hf⟩ := bd1_e hf
        refine g_put (D := (dC, dI)) (ci := 5) (C := RX4) (T := TX4) (N := 11) hx hb hts hinX4 tyX4 tyX4_ok nmX4 hown hK hP hD hS 0 rfl rfl 8 (by decide) k_fieldLink_RX4_58__KeyLetters_Reader___value___I_ (fun _ h9 => h9) rfl (ty := .int) (v := .int (T v12.toNatClampNeg)) (by decide +kernel) rfl rfl (Nat.le_of_ble_eq_true rfl) (ws' := (ww_X4_advance cs ad raR raT xR nT Rv14 T)) (by rw [eRv14]; rfl) dX4_advance_135 (fun H locs hP hD hS => ?_)
        refine lv_aload_n hx hb dX4_advance_138 rfl (lv_at hl 0 rfl) ?_
        refine lv_aload_n hx hb dX4_advance_139 rfl (lv_at hl 0 rfl) ?_
        refine va_get (D := (dC, dI)) (ci := 5) (C := RX4) (T := TX4) (N := 11) hx hb hts hinX4 hown hK hP 0 rfl rfl 8 (by decide) (v := .int (Rv14.1 0 8)) k_fieldLink_RX4_58__KeyLetters_Reader___value___I_ (fun _ h9 => h9) rfl dX4_advance_140 ?_
        refine ko_call (v := some (.int (f_X4_isSignByte (Rv14.1 0 8)))) (va_runS (As := [.int (Rv14.1 0 8)]) (rest := [.ref (raR 0)]) ⟨hx, hb, hml, hown, hts⟩ (c_X4_isSignByte l dC dI cs ad (Rv14.1 0 8) _ rfl) (va_cwS 1 hts gX4_advance_X4_isSignByte rfl rfl rfl (by decide +kernel) ⟨Nat.le_of_ble_eq_true rfl, Nat.le_of_ble_eq_true rfl⟩) ⟨fun a U g mk q => ⟨q.1, (fun _ _ _ _ => cPr_bl) a U g mk q.2⟩, fun U hU hW => ⟨rfl, ⟨by rw [hU]; exact (hP.sub (ws' := ([] : va_W)) [] rfl), va_K.moved hW.alike hK, kN_warm hW hN⟩⟩⟩ rfl rfl hl.1 rfl (lv_room (Nat.le_of_ble_eq_true rfl)) dX4_advance_143 ⟨Nat.le_refl _, Nat.le_refl _⟩) ?_
        refine lv_if_eq (tgt := 153) hx hb dX4_advance_146 (by decide) (fun hb15 => ?_) (fun hb15 => ?_)
        · have hf := (if_pos hb15).symm.trans hf
          refine lv_iconst (v := 0) hx hb dX4_advance_153 (by decide) ?_
          exact h_154 (0 : Int32) Rv14 ls _ _ (lv_sub hl [0] rfl) hP hD hS hf
        · have hf := (if_neg hb15).symm.trans hf
          refine lv_iconst (v := 4) hx hb dX4_advance_149 (by decide) ?_
          refine lv_goto (tgt := 154) hx hb dX4_advance_150 (by decide) ?_
          exact h_154 (4 : Int32) Rv14 ls _ _ (lv_sub hl [0] rfl) hP hD hS hf
    · have hf := (if_neg hb21).symm.trans hf
      refine lv_aload_n hx hb dX4_advance_76 rfl (lv_at hl 0 rfl) ?_
      refine lv_iload_n hx hb dX4_advance_77 rfl (lv_at hl 1 rfl) ?_
      obtain ⟨Rv17, eRv17, hf⟩ := bd1_e hf
      refine g_put (D := (dC, dI)) (ci := 5) (C := RX4) (T := TX4) (N := 11) hx hb hts hinX4 tyX4 tyX4_ok nmX4 hown hK hP hD hS 0 rfl rfl 5 (by decide) k_fieldLink_RX4_49__KeyLetters_Reader___place___I_ (fun _ h9 => h9) rfl (ty := .int) (v := .int x1_61) (by decide +kernel) rfl rfl (Nat.le_of_ble_eq_true rfl) (ws' := (ww_X4_advance cs ad raR raT xR nT Rv17 T)) (by rw [eRv17]; rfl) dX4_advance_78 (fun H locs hP hD hS => ?_)
      refine lv_aload_n hx hb dX4_advance_81 rfl (lv_at hl 0 rfl) ?_
      refine lv_aload_n hx hb dX4_advance_82 rfl (lv_at hl 0 rfl) ?_
      refine va_get (D := (dC, dI)) (ci := 5) (C := RX4) (T := TX4) (N := 11) hx hb hts hinX4 hown hK hP 0 rfl rfl 1 (by decide) (v := .int (Rv17.1 0 1)) k_fieldLink_RX4_30__KeyLetters_Reader___bytes___I_ (fun _ h9 => h9) rfl dX4_advance_83 ?_
      refine lv_aload_n hx hb dX4_advance_86 rfl (lv_at hl 0 rfl) ?_
      refine va_get (D := (dC, dI)) (ci := 5) (C := RX4) (T := TX4) (N := 11) hx hb hts hinX4 hown hK hP 0 rfl rfl 2 (by decide) (v := .int (Rv17.1 0 2)) k_fieldLink_RX4_34__KeyLetters_Reader___most___I_ (fun _ h9 => h9) rfl dX4_advance_87 ?_
      refine lv_icmp_le (tgt := 97) hx hb dX4_advance_90 (by decide) (fun hb20 => ?_) (fun hb20 => ?_)
      · have hf := (if_pos hb20).symm.trans hf
        refine lv_iconst (v := 1) hx hb dX4_advance_97 (by decide) ?_
        obtain ⟨Rv18, eRv18, hf⟩ := bd1_e hf
        refine g_put (D := (dC, dI)) (ci := 5) (C := RX4) (T := TX4) (N := 11) hx hb hts hinX4 tyX4 tyX4_ok nmX4 hown hK hP hD hS 0 rfl rfl 4 (by decide) k_fieldLink_RX4_52__KeyLetters_Reader___sort___I_ (fun _ h9 => h9) rfl (ty := .int) (v := .int (1 : Int32)) (by decide +kernel) rfl rfl (Nat.le_of_ble_eq_true rfl) (ws' := (ww_X4_advance cs ad raR raT xR nT Rv18 T)) (by rw [eRv18]; rfl) dX4_advance_98 (fun H locs hP hD hS => ?_)
        have hf := Option.some.inj hf
        subst hf
        exact c_vret hx hb hr hlocks hP hK hD hS dX4_advance_101
      · have hf := (if_neg hb20).symm.trans hf
        refine lv_iconst (v := 0) hx hb dX4_advance_93 (by decide) ?_
        refine lv_goto (tgt := 98) hx hb dX4_advance_94 (by decide) ?_
        obtain ⟨Rv19, eRv19, hf⟩ := bd1_e hf
        refine g_put (D := (dC, dI)) (ci := 5) (C := RX4) (T := TX4) (N := 11) hx hb hts hinX4 tyX4 tyX4_ok nmX4 hown hK hP hD hS 0 rfl rfl 4 (by decide) k_fieldLink_RX4_52__KeyLetters_Reader___sort___I_ (fun _ h9 => h9) rfl (ty := .int) (v := .int (0 : Int32)) (by decide +kernel) rfl rfl (Nat.le_of_ble_eq_true rfl) (ws' := (ww_X4_advance cs ad raR raT xR nT Rv19 T)) (by rw [eRv19]; rfl) dX4_advance_98 (fun H locs hP hD hS => ?_)
        have hf := Option.some.inj hf
        subst hf
        exact c_vret hx hb hr hlocks hP hK hD hS dX4_advance_101
  have h_12 := lp_ind (z := (fun _ _ => none)) (b := (g_X4_advance_12 nT T)) (fun (rc_12 : Int32 → kD → Option kD) => ∀ (x1_12 : Int32) (R_12 : kD) (ls : Array Slot) (H : Heap) (locs : List Loc), lv_has ls 2 [(0, .ref (raR 0)), (1, .int x1_12)] → va_P (dC, dI) vwCl (ww_X4_advance cs ad raR raT xR nT R_12 T) H → va_D (va_A (ww_X4_advance cs ad raR raT xR nT zD (fun _ => 0)) s.heap.size) (ww_X4_advance cs ad raR raT xR nT R_12 T) → va_S (va_A (ww_X4_advance cs ad raR raT xR nT zD (fun _ => 0)) s.heap.size) s.heap H locs → rc_12 x1_12 R_12 = some r → W p l e (headSpec wsX4_advance rm_X4_advance).room s m args below meth c H locs 0 0 (MQ below (cQv dC dI cs (va_A (ww_X4_advance cs ad raR raT xR nT zD (fun _ => 0)) s.heap.size) (ww_X4_advance cs ad raR raT xR nT r T)) args s 0 0 (va_A (ww_X4_advance cs ad raR raT xR nT zD (fun _ => 0)) s.heap.size)) (F0 m 12 ls [])) (by
      intro x1_12 R_12 ls H locs hl hP hD hS hf
      cases hf) (by
      intro rc_12 ih_12 x1_12 R_12 ls H locs hl hP hD hS hf
      unfold g_X4_advance_12 at hf
      have h_48 : ∀ (x1_48 : Int32) (R_48 : kD) (ls : Array Slot) (H : Heap) (locs : List Loc), lv_has ls 2 [(0, .ref (raR 0)), (1, .int x1_48)] → va_P (dC, dI) vwCl (ww_X4_advance cs ad raR raT xR nT R_48 T) H → va_D (va_A (ww_X4_advance cs ad raR raT xR nT zD (fun _ => 0)) s.heap.size) (ww_X4_advance cs ad raR raT xR nT R_48 T) → va_S (va_A (ww_X4_advance cs ad raR raT xR nT zD (fun _ => 0)) s.heap.size) s.heap H locs → g_X4_advance_48 rc_12 nT T x1_48 R_48 = some r → W p l e (headSpec wsX4_advance rm_X4_advance).room s m args below meth c H locs 0 0 (MQ below (cQv dC dI cs (va_A (ww_X4_advance cs ad raR raT xR nT zD (fun _ => 0)) s.heap.size) (ww_X4_advance cs ad raR raT xR nT r T)) args s 0 0 (va_A (ww_X4_advance cs ad raR raT xR nT zD (fun _ => 0)) s.heap.size)) (F0 m 48 ls []) := by
        intro x1_48 R_48 ls H locs hl hP hD hS hf
        unfold g_X4_advance_48 at hf
        refine lv_aload_n hx hb dX4_advance_48 rfl (lv_at hl 0 rfl) ?_
        refine lv_dup hx hb dX4_advance_49 rfl ?_
        refine va_get (D := (dC, dI)) (ci := 5) (C := RX4) (T := TX4) (N := 11) hx hb hts hinX4 hown hK hP 0 rfl rfl 3 (by decide) (v := .int (R_48.1 0 3)) k_fieldLink_RX4_37__KeyLetters_Reader___next___I_ (fun _ h9 => h9) rfl dX4_advance_50 ?_
        refine lv_iconst (v := 1) hx hb dX4_advance_53 (by decide) ?_
        refine lv_iadd hx hb dX4_advance_54 ?_
        obtain ⟨Rv22, eRv22, hf⟩ := bd1_e hf
        refine g_put (D := (dC, dI)) (ci := 5) (C := RX4) (T := TX4) (N := 11) hx hb hts hinX4 tyX4 tyX4_ok nmX4 hown hK hP hD hS 0 rfl rfl 3 (by decide) k_fieldLink_RX4_37__KeyLetters_Reader___next___I_ (fun _ h9 => h9) rfl (ty := .int) (v := .int ((R_48.1 0 3) + (1 : Int32))) (by decide +kernel) rfl rfl (Nat.le_of_ble_eq_true rfl) (ws' := (ww_X4_advance cs ad raR raT xR nT Rv22 T)) (by rw [eRv22]; rfl) dX4_advance_55 (fun H locs hP hD hS => ?_)
        refine lv_goto (tgt := 12) hx hb dX4_advance_58 (by decide) ?_
        exact ih_12 x1_48 Rv22 ls _ _ hl hP hD hS hf
      refine lv_aload_n hx hb dX4_advance_12 rfl (lv_at hl 0 rfl) ?_
      refine va_get (D := (dC, dI)) (ci := 5) (C := RX4) (T := TX4) (N := 11) hx hb hts hinX4 hown hK hP 0 rfl rfl 3 (by decide) (v := .int (R_12.1 0 3)) k_fieldLink_RX4_37__KeyLetters_Reader___next___I_ (fun _ h9 => h9) rfl dX4_advance_13 ?_
      refine lv_iload_n hx hb dX4_advance_16 rfl (lv_at hl 1 rfl) ?_
      refine lv_icmp_ge (tgt := 61) hx hb dX4_advance_17 (by decide) (fun hb31 => ?_) (fun hb31 => ?_)
      · have hf := (if_pos hb31).symm.trans hf
        exact h_61 x1_12 R_12 ls _ _ hl hP hD hS hf
      · have hf := (if_neg hb31).symm.trans hf
        refine lv_aload_n hx hb dX4_advance_20 rfl (lv_at hl 0 rfl) ?_
        obtain ⟨hc23, hf⟩ := ck_e hf
        refine va_get (D := (dC, dI)) (ci := 5) (C := RX4) (T := TX4) (N := 11) hx hb hts hinX4 hown hK hP 0 rfl rfl 0 (by decide) (v := .ref (kTx xR raT (R_12.1 0 0))) k_fieldLink_RX4_9__KeyLetters_Reader___text____I_ (fun _ h9 => h9) rfl dX4_advance_21 ?_
        rw [kTx_1 xR raT (Decidable.not_not.mp hc23)]
        refine lv_aload_n hx hb dX4_advance_24 rfl (lv_at hl 0 rfl) ?_
        refine va_get (D := (dC, dI)) (ci := 5) (C := RX4) (T := TX4) (N := 11) hx hb hts hinX4 hown hK hP 0 rfl rfl 3 (by decide) (v := .int (R_12.1 0 3)) k_fieldLink_RX4_37__KeyLetters_Reader___next___I_ (fun _ h9 => h9) rfl dX4_advance_25 ?_
        obtain ⟨v24, ev24, hf⟩ := bd1_e hf
        refine kt_i ev24 ?_
        obtain ⟨hc25, hf⟩ := ck_e hf
        refine va_iald hx hb hK hP 1 1 rfl rfl hc25 dX4_advance_28 ?_
        refine lv_bipush (v := 32) hx hb dX4_advance_29 (by decide) ?_
        refine lv_icmp_eq (tgt := 48) hx hb dX4_advance_31 (by decide) (fun hb30 => ?_) (fun hb30 => ?_)
        · have hf := (if_pos hb30).symm.trans hf
          exact h_48 x1_12 R_12 ls _ _ hl hP hD hS hf
        · have hf := (if_neg hb30).symm.trans hf
          refine lv_aload_n hx hb dX4_advance_34 rfl (lv_at hl 0 rfl) ?_
          obtain ⟨hc26, hf⟩ := ck_e hf
          refine va_get (D := (dC, dI)) (ci := 5) (C := RX4) (T := TX4) (N := 11) hx hb hts hinX4 hown hK hP 0 rfl rfl 0 (by decide) (v := .ref (kTx xR raT (R_12.1 0 0))) k_fieldLink_RX4_9__KeyLetters_Reader___text____I_ (fun _ h9 => h9) rfl dX4_advance_35 ?_
          rw [kTx_1 xR raT (Decidable.not_not.mp hc26)]
          refine lv_aload_n hx hb dX4_advance_38 rfl (lv_at hl 0 rfl) ?_
          refine va_get (D := (dC, dI)) (ci := 5) (C := RX4) (T := TX4) (N := 11) hx hb hts hinX4 hown hK hP 0 rfl rfl 3 (by decide) (v := .int (R_12.1 0 3)) k_fieldLink_RX4_37__KeyLetters_Reader___next___I_ (fun _ h9 => h9) rfl dX4_advance_39 ?_
          obtain ⟨v27, ev27, hf⟩ := bd1_e hf
          refine kt_i ev27 ?_
          obtain ⟨hc28, hf⟩ := ck_e hf
          refine va_iald hx hb hK hP 1 1 rfl rfl hc28 dX4_advance_42 ?_
          refine lv_bipush (v := 10) hx hb dX4_advance_43 (by decide) ?_
          refine lv_icmp_ne (tgt := 61) hx hb dX4_advance_45 (by decide) (fun hb29 => ?_) (fun hb29 => ?_)
          · have hf := (if_neg hb29).symm.trans hf
            exact h_61 x1_12 R_12 ls _ _ hl hP hD hS hf
          · have hf := (if_pos hb29).symm.trans hf
            exact h_48 x1_12 R_12 ls _ _ hl hP hD hS hf) 2000
  refine lv_aload_n hx hb dX4_advance_0 rfl (lv_at hl 0 rfl) ?_
  refine va_get (D := (dC, dI)) (ci := 5) (C := RX4) (T := TX4) (N := 11) hx hb hts hinX4 hown hK hP 0 rfl rfl 1 (by decide) (v := .int (R.1 0 1)) k_fieldLink_RX4_30__KeyLetters_Reader___bytes___I_ (fun _ h9 => h9) rfl dX4_advance_1 ?_
  refine lv_aload_n hx hb dX4_advance_4 rfl (lv_at hl 0 rfl) ?_
  refine va_get (D := (dC, dI)) (ci := 5) (C := RX4) (T := TX4) (N := 11) hx hb hts hinX4 hown hK hP 0 rfl rfl 2 (by decide) (v := .int (R.1 0 2)) k_fieldLink_RX4_34__KeyLetters_Reader___most___I_ (fun _ h9 => h9) rfl dX4_advance_5 ?_
  refine va_mmin hx hb (hml.trans hl.1.symm) hown k_methodLink_RX4_24_Lib_Math_min_name k_static_Lib_Math_min_name k_initialized__java_lang_Math_ k_code_Lib_Math_min_name_Lib_Math_min_code_2__some__int_ (Nat.le_of_ble_eq_true rfl) (Nat.le_of_ble_eq_true rfl) (Nat.zero_le _) (Nat.zero_le _) dX4_advance_8 ?_
  obtain ⟨v32, ev32, hf⟩ := bd1_e hf
  refine kt_i ev32 ?_
  refine lv_istore_n (nL := 2) (lv' := [(1, .int v32), (0, .ref (raR 0))]) hx hb dX4_advance_11 rfl hl (by decide) rfl (fun ls hl => ?_)
  exact h_12 v32 R ls _ _ (lv_sub hl [1, 0] rfl) hP hD hS hf

def ww_X0_passAct (cs : Nat → ClassId) (ad : Nat → Nat) (raBk : Nat → Nat) (raR : Nat → Nat) (raT : Nat) (xR : Nat) (nT : Nat) (Bk : kD) (R : kD) (T : Nat → Int32) : va_W := (wX0 cs ad raBk Bk ++ (wX4 cs ad raR xR raT R ++ ([(raT, .inl (cs 1, nT, .inl T))])))
abbrev rm_X0_passAct : Room := { frames := 6, cells := 0, slots := 0, locals := 166 }
set_option maxHeartbeats 4000000 in
set_option maxRecDepth 100000 in
theorem c_X0_passAct (l : Launch) (dC : Nat → ClassId) (dI : Nat → Nat → Nat) (cs : Nat → ClassId) (ad : Nat → Nat) (raBk : Nat → Nat) (raR : Nat → Nat) (raT : Nat) (xR : Nat) (nT : Nat) (sz : Nat) (Bk : kD) (R : kD) (T : Nat → Int32) (a1 : Int32) (r : Int32 × kD × kD) (hf : f_X0_passAct a1 nT Bk R T = some r) : Met l yX0_passAct wsX0_passAct rm_X0_passAct (va_Pc [.ref (raBk 0), .ref (raR 0), .int a1] (cPe ad (va_A (ww_X0_passAct cs ad raBk raR raT xR nT zD zD (fun _ => 0)) sz) (cPw dC dI cs sz (ww_X0_passAct cs ad raBk raR raT xR nT Bk R T)))) (cQi dC dI cs (va_A (ww_X0_passAct cs ad raBk raR raT xR nT zD zD (fun _ => 0)) sz) r.1 (ww_X0_passAct cs ad raBk raR raT xR nT r.2.1 r.2.2 T)) 0 0 (va_A (ww_X0_passAct cs ad raBk raR raT xR nT zD zD (fun _ => 0)) sz) := by
  refine Met.ofW (cc := cX0_passAct) (maxL := 3) (ret := (some .boolean)) (by decide) rfl ?_
  intro p e s m args below meth c s₁ B hml hv
  obtain ⟨hav, hE, hsz, hP, hK, hD0, hN⟩ := hv
  have hx := B.exec
  have hb := B.bytes
  have hr := B.returns
  have hts := atoms_spec (ws := wsX0_passAct) B.pre
  have hown : s.vm.findClass RX0 = some m.cls := findClass_of_methodNamed B.named
  have hlocks := B.notSynchronized
  subst hsz
  have hA : ∀ q, s.heap.size ≤ q → va_A (ww_X0_passAct cs ad raBk raR raT xR nT zD zD (fun _ => 0)) s.heap.size q := fun q h => Or.inr h
  have hD : va_D (va_A (ww_X0_passAct cs ad raBk raR raT xR nT zD zD (fun _ => 0)) s.heap.size) (ww_X0_passAct cs ad raBk raR raT xR nT Bk R T) := hD0.weaken (fun k q h _ => cA_in (ws := (ww_X0_passAct cs ad raBk raR raT xR nT Bk R T)) (ws' := (ww_X0_passAct cs ad raBk raR raT xR nT zD zD (fun _ => 0))) rfl h)
  have hS : va_S (va_A (ww_X0_passAct cs ad raBk raR raT xR nT zD zD (fun _ => 0)) s.heap.size) s.heap s.heap [] := va_S.rf
  have hinX0 := (show ∀ w ∈ wsX00, w ∈ wsX0_passAct from fun w h => List.mem_cons_of_mem _ (List.mem_append_left _ (List.mem_append_right _ h)))
  have k_fieldLink_RX0_11__KeyLetters_Book___acts____I_ := hts (.fieldLink RX0 11 "KeyLetters$Book" "acts" "[I") (List.mem_of_getElem? (i := 2) rfl)
  have k_fieldLink_RX0_21__KeyLetters_Book___lines___I_ := hts (.fieldLink RX0 21 "KeyLetters$Book" "lines" "I") (List.mem_of_getElem? (i := 1) rfl)
  have k_initialized_RX4 := hts (.initialized RX4) (List.mem_of_getElem? (i := 4) rfl)
  have k_instanceMethod_yX4_advance := hts (.instanceMethod yX4_advance) (List.mem_of_getElem? (i := 3) rfl)
  have k_selects_RX4_yX4_advance_yX4_advance := hts (.selects RX4 yX4_advance yX4_advance) (List.mem_of_getElem? (i := 5) rfl)
  have hl := lv_entry ([.ref (raBk 0), .ref (raR 0), .int a1]) (n := 3) (Nat.le_of_ble_eq_true rfl)
  rw [show entryFrame m args 3 = entryFrame m ([.ref (raBk 0), .ref (raR 0), .int a1] : List Value).toArray 3 from by rw [hav], lg_entry_eq]
  generalize (lg_sl ([.ref (raBk 0), .ref (raR 0), .int a1]) ++ List.replicate (3 - (lg_sl ([.ref (raBk 0), .ref (raR 0), .int a1])).length) Slot.unset).toArray = ls at hl ⊢
  have hl : lv_has ls 3 [(0, .ref (raBk 0)), (1, .ref (raR 0)), (2, .int a1)] := hl
  unfold f_X0_passAct at hf
  have h_29 : ∀ (Bk_29 : kD) (R_29 : kD) (ls : Array Slot) (H : Heap) (locs : List Loc), lv_has ls 3 [(1, .ref (raR 0))] → va_P (dC, dI) vwCl (ww_X0_passAct cs ad raBk raR raT xR nT Bk_29 R_29 T) H → va_D (va_A (ww_X0_passAct cs ad raBk raR raT xR nT zD zD (fun _ => 0)) s.heap.size) (ww_X0_passAct cs ad raBk raR raT xR nT Bk_29 R_29 T) → va_S (va_A (ww_X0_passAct cs ad raBk raR raT xR nT zD zD (fun _ => 0)) s.heap.size) s.heap H locs → g_X0_passAct_29 nT T Bk_29 R_29 = some r → W p l e (headSpec wsX0_passAct rm_X0_passAct).room s m args below meth c H locs 0 0 (MQ below (cQi dC dI cs (va_A (ww_X0_passAct cs ad raBk raR raT xR nT zD zD (fun _ => 0)) s.heap.size) r.1 (ww_X0_passAct cs ad raBk raR raT xR nT r.2.1 r.2.2 T)) args s 0 0 (va_A (ww_X0_passAct cs ad raBk raR raT xR nT zD zD (fun _ => 0)) s.heap.size)) (F0 m 29 ls []) := by
    intro Bk_29 R_29 ls H locs hl hP hD hS hf
    unfold g_X0_passAct_29 at hf
    refine lv_aload_n hx hb dX0_passAct_29 rfl (lv_at hl 0 rfl) ?_
    obtain ⟨Rv2, hq1, hf⟩ := bo_e hf
    have hEc := cE_sub (A1 := va_A (ww_X4_advance cs ad raR raT xR nT zD (fun _ => 0)) _) hE hS (cA_free (isC := [4, 5]) (wc := (ww_X4_advance cs ad raR raT xR nT R_29 T)) (wz := (ww_X4_advance cs ad raR raT xR nT zD (fun _ => 0))) rfl rfl hD hS hA)
    refine g_callv (isC := [4, 5]) (isR := [0, 1, 2, 3]) (wc := (ww_X4_advance cs ad raR raT xR nT R_29 T)) (wz := (ww_X4_advance cs ad raR raT xR nT zD (fun _ => 0))) (w1 := (ww_X4_advance cs ad raR raT xR nT Rv2 T)) (ws' := (ww_X0_passAct cs ad raBk raR raT xR nT Bk_29 Rv2 T)) (va_runVN (As := []) (rest := []) ⟨hx, hb, hml, hown, hts⟩ (c_X4_advance l dC dI cs ad raR raT xR nT _ R_29 T Rv2 hq1) ⟨va_cnB 0 hts gX0_passAct_X4_advance_n70 rfl rfl rfl (hN _ (List.mem_of_getElem? (i := 125) rfl)) k_initialized_RX4 (by decide +kernel) ⟨Nat.le_of_ble_eq_true rfl, Nat.le_of_ble_eq_true rfl⟩, k_instanceMethod_yX4_advance, k_selects_RX4_yX4_advance_yX4_advance⟩ ⟨fun a U g mk q => ⟨q.1, (fun _ _ _ _ => cPe_bl (fun h => cPw_bl h)) a U g mk q.2⟩, va_recv hK hP (ci := 5) (q0 := 4) rfl rfl, fun U hU hW => ⟨rfl, ⟨hEc U hU hW, ⟨by rw [hU], by rw [hU]; exact (hP.sub (ws' := (ww_X4_advance cs ad raR raT xR nT R_29 T)) [4, 5] rfl), va_K.moved hW.alike hK, (hD.sub (ws' := (ww_X4_advance cs ad raR raT xR nT R_29 T)) [4, 5] (by decide) rfl).weaken (fun _ _ _ _ => trivial), kN_warm hW hN⟩⟩⟩⟩ rfl rfl hl.1 rfl (lv_room (Nat.le_of_ble_eq_true rfl)) dX0_passAct_30 ⟨Nat.le_refl _, Nat.le_refl _⟩) hP hD hS hA rfl rfl (wr := ((wX0 cs ad raBk Bk_29))) rfl rfl rfl (nw := 6) rfl (by decide +kernel) rfl (fun H locs hP hD hS => ?_)
    refine lv_iconst (v := 1) hx hb dX0_passAct_33 (by decide) ?_
    have hf := Option.some.inj hf
    subst hf
    exact c_zret (v := (1 : Int32)) hx hb hr rfl hlocks hP hK hD hS dX0_passAct_34
  refine lv_aload_n hx hb dX0_passAct_0 rfl (lv_at hl 0 rfl) ?_
  refine va_get (D := (dC, dI)) (ci := 1) (C := RX0) (T := TX0) (N := 6) hx hb hts hinX0 hown hK hP 0 rfl rfl 0 (by decide) (v := .int (Bk.1 0 0)) k_fieldLink_RX0_21__KeyLetters_Book___lines___I_ (fun _ h9 => h9) rfl dX0_passAct_1 ?_
  refine lv_iconst (v := 1) hx hb dX0_passAct_4 (by decide) ?_
  refine lv_icmp_lt (tgt := 29) hx hb dX0_passAct_5 (by decide) (fun hb6 => ?_) (fun hb6 => ?_)
  · have hf := (if_pos hb6).symm.trans hf
    exact h_29 Bk R ls _ _ (lv_sub hl [1] rfl) hP hD hS hf
  · have hf := (if_neg hb6).symm.trans hf
    refine lv_aload_n hx hb dX0_passAct_8 rfl (lv_at hl 0 rfl) ?_
    refine va_get (D := (dC, dI)) (ci := 1) (C := RX0) (T := TX0) (N := 6) hx hb hts hinX0 hown hK hP 0 rfl rfl 0 (by decide) (v := .int (Bk.1 0 0)) k_fieldLink_RX0_21__KeyLetters_Book___lines___I_ (fun _ h9 => h9) rfl dX0_passAct_9 ?_
    refine lv_bipush (v := 40) hx hb dX0_passAct_12 (by decide) ?_
    refine lv_icmp_gt (tgt := 29) hx hb dX0_passAct_14 (by decide) (fun hb5 => ?_) (fun hb5 => ?_)
    · have hf := (if_pos hb5).symm.trans hf
      exact h_29 Bk R ls _ _ (lv_sub hl [1] rfl) hP hD hS hf
    · have hf := (if_neg hb5).symm.trans hf
      refine lv_aload_n hx hb dX0_passAct_17 rfl (lv_at hl 0 rfl) ?_
      refine va_get (D := (dC, dI)) (ci := 1) (C := RX0) (T := TX0) (N := 6) hx hb hts hinX0 hown hK hP 0 rfl rfl 3 (by decide) (v := .ref (raBk 3)) k_fieldLink_RX0_11__KeyLetters_Book___acts____I_ (fun _ h9 => h9) rfl dX0_passAct_18 ?_
      refine lv_aload_n hx hb dX0_passAct_21 rfl (lv_at hl 0 rfl) ?_
      refine va_get (D := (dC, dI)) (ci := 1) (C := RX0) (T := TX0) (N := 6) hx hb hts hinX0 hown hK hP 0 rfl rfl 0 (by decide) (v := .int (Bk.1 0 0)) k_fieldLink_RX0_21__KeyLetters_Book___lines___I_ (fun _ h9 => h9) rfl dX0_passAct_22 ?_
      refine lv_iconst (v := 1) hx hb dX0_passAct_25 (by decide) ?_
      refine lv_isub hx hb dX0_passAct_26 ?_
      refine lv_iload_n hx hb dX0_passAct_27 rfl (lv_at hl 2 rfl) ?_
      obtain ⟨hc3, hf⟩ := ck_e hf
      obtain ⟨Bkv4, eBkv4, hf⟩ := bd1_e hf
      refine va_iast hx hb hK hP hD hS 1 1 rfl rfl hc3 dX0_passAct_28 (fun H locs hP hD hS => ?_)
      have hP : va_P (dC, dI) vwCl (ww_X0_passAct cs ad raBk raR raT xR nT Bkv4 R T) H := g_toP (by rw [eBkv4]; rfl) hP
      have hD : va_D (va_A (ww_X0_passAct cs ad raBk raR raT xR nT zD zD (fun _ => 0)) s.heap.size) (ww_X0_passAct cs ad raBk raR raT xR nT Bkv4 R T) := g_toD (by rw [eBkv4]; rfl) hD
      exact h_29 Bkv4 R ls _ _ (lv_sub hl [1] rfl) hP hD hS hf

def ww_X0_passPhrase (cs : Nat → ClassId) (ad : Nat → Nat) (raBk : Nat → Nat) (raR : Nat → Nat) (raO : Nat → Nat) (raT : Nat) (xR : Nat) (nT : Nat) (Bk : kD) (R : kD) (O : kD) (T : Nat → Int32) : va_W := (wX0 cs ad raBk Bk ++ (wX4 cs ad raR xR raT R ++ (wX3 cs ad raO O ++ ([(raT, .inl (cs 1, nT, .inl T))]))))
abbrev rm_X0_passPhrase : Room := { frames := 6, cells := 0, slots := 0, locals := 166 }
set_option maxHeartbeats 4000000 in
set_option maxRecDepth 100000 in
theorem c_X0_passPhrase (l : Launch) (dC : Nat → ClassId) (dI : Nat → Nat → Nat) (cs : Nat → ClassId) (ad : Nat → Nat) (raBk : Nat → Nat) (raR : Nat → Nat) (raO : Nat → Nat) (raT : Nat) (xR : Nat) (nT : Nat) (sz : Nat) (Bk : kD) (R : kD) (O : kD) (T : Nat → Int32) (r : Int32 × kD × kD) (hf : f_X0_passPhrase nT Bk R O T = some r) : Met l yX0_passPhrase wsX0_passPhrase rm_X0_passPhrase (va_Pc [.ref (raBk 0), .ref (raR 0), .ref (raO 0)] (cPe ad (va_A (ww_X0_passPhrase cs ad raBk raR raO raT xR nT zD zD zD (fun _ => 0)) sz) (cPw dC dI cs sz (ww_X0_passPhrase cs ad raBk raR raO raT xR nT Bk R O T)))) (cQi dC dI cs (va_A (ww_X0_passPhrase cs ad raBk raR raO raT xR nT zD zD zD (fun _ => 0)) sz) r.1 (ww_X0_passPhrase cs ad raBk raR raO raT xR nT r.2.1 r.2.2 O T)) 0 0 (va_A (ww_X0_passPhrase cs ad raBk raR raO raT xR nT zD zD zD (fun _ => 0)) sz) := by
  refine Met.ofW (cc := cX0_passPhrase) (maxL := 4) (ret := (some .boolean)) (by decide) rfl ?_
  intro p e s m args below meth c s₁ B hml hv
  obtain ⟨hav, hE, hsz, hP, hK, hD0, hN⟩ := hv
  have hx := B.exec
  have hb := B.bytes
  have hr := B.returns
  have hts := atoms_spec (ws := wsX0_passPhrase) B.pre
  have hown : s.vm.findClass RX0 = some m.cls := findClass_of_methodNamed B.named
  have hlocks := B.notSynchronized
  subst hsz
  have hA : ∀ q, s.heap.size ≤ q → va_A (ww_X0_passPhrase cs ad raBk raR raO raT xR nT zD zD zD (fun _ => 0)) s.heap.size q := fun q h => Or.inr h
  have hD : va_D (va_A (ww_X0_passPhrase cs ad raBk raR raO raT xR nT zD zD zD (fun _ => 0)) s.heap.size) (ww_X0_passPhrase cs ad raBk raR raO raT xR nT Bk R O T) := hD0.weaken (fun k q h _ => cA_in (ws := (ww_X0_passPhrase cs ad raBk raR raO raT xR nT Bk R O T)) (ws' := (ww_X0_passPhrase cs ad raBk raR raO raT xR nT zD zD zD (fun _ => 0))) rfl h)
  have hS : va_S (va_A (ww_X0_passPhrase cs ad raBk raR raO raT xR nT zD zD zD (fun _ => 0)) s.heap.size) s.heap s.heap [] := va_S.rf
  have hinX3 := (show ∀ w ∈ wsX30, w ∈ wsX0_passPhrase from fun w h => List.mem_cons_of_mem _ (List.mem_append_left _ (List.mem_append_left _ (List.mem_append_right _ h))))
  have k_initialized_RX4 := hts (.initialized RX4) (List.mem_of_getElem? (i := 2) rfl)
  have k_instanceMethod_yX4_advance := hts (.instanceMethod yX4_advance) (List.mem_of_getElem? (i := 30) rfl)
  have k_instanceMethod_yX4_neededOf := hts (.instanceMethod yX4_neededOf) (List.mem_of_getElem? (i := 1) rfl)
  have k_selects_RX4_yX4_advance_yX4_advance := hts (.selects RX4 yX4_advance yX4_advance) (List.mem_of_getElem? (i := 31) rfl)
  have k_selects_RX4_yX4_neededOf_yX4_neededOf := hts (.selects RX4 yX4_neededOf yX4_neededOf) (List.mem_of_getElem? (i := 3) rfl)
  have hl := lv_entry ([.ref (raBk 0), .ref (raR 0), .ref (raO 0)]) (n := 4) (Nat.le_of_ble_eq_true rfl)
  rw [show entryFrame m args 4 = entryFrame m ([.ref (raBk 0), .ref (raR 0), .ref (raO 0)] : List Value).toArray 4 from by rw [hav], lg_entry_eq]
  generalize (lg_sl ([.ref (raBk 0), .ref (raR 0), .ref (raO 0)]) ++ List.replicate (4 - (lg_sl ([.ref (raBk 0), .ref (raR 0), .ref (raO 0)])).length) Slot.unset).toArray = ls at hl ⊢
  have hl : lv_has ls 4 [(0, .ref (raBk 0)), (1, .ref (raR 0)), (2, .ref (raO 0))] := hl
  unfold f_X0_passPhrase at hf
  refine lv_aload_n hx hb dX0_passPhrase_0 rfl (lv_at hl 1 rfl) ?_
  refine lv_aload_n hx hb dX0_passPhrase_1 rfl (lv_at hl 2 rfl) ?_
  refine va_getN (D := (dC, dI)) (ci := 4) (C := RX3) (T := TX3) (N := 11) hx hb hts hinX3 hown hK hP 5 rfl rfl 7 (by decide) (v := .ref (raO 7)) (va_Nw.use rfl (hN _ (List.mem_of_getElem? (i := 25) rfl))) (fun _ h9 => h9) rfl dX0_passPhrase_2 ?_
  refine lv_aload_n hx hb dX0_passPhrase_5 rfl (lv_at hl 2 rfl) ?_
  refine va_getN (D := (dC, dI)) (ci := 4) (C := RX3) (T := TX3) (N := 11) hx hb hts hinX3 hown hK hP 5 rfl rfl 2 (by decide) (v := .int (O.1 0 2)) (va_Nw.use rfl (hN _ (List.mem_of_getElem? (i := 15) rfl))) (fun _ h9 => h9) rfl dX0_passPhrase_6 ?_
  obtain ⟨v2, Rv3, hq1, hf⟩ := bo2_e hf
  have hEc := cE_sub (A1 := va_A (ww_X4_neededOf cs ad raR (raO 7) raT xR 8 nT zD (fun _ => 0) (fun _ => 0)) _) hE hS (cA_free (isC := [4, 9, 13]) (wc := (ww_X4_neededOf cs ad raR (raO 7) raT xR 8 nT R (O.2 7) T)) (wz := (ww_X4_neededOf cs ad raR (raO 7) raT xR 8 nT zD (fun _ => 0) (fun _ => 0))) rfl rfl hD hS hA)
  refine g_callw (isC := [4, 9, 13]) (isR := [0, 1, 2, 3, 5, 6, 7, 8, 10, 11, 12]) (wc := (ww_X4_neededOf cs ad raR (raO 7) raT xR 8 nT R (O.2 7) T)) (wz := (ww_X4_neededOf cs ad raR (raO 7) raT xR 8 nT zD (fun _ => 0) (fun _ => 0))) (w1 := (ww_X4_neededOf cs ad raR (raO 7) raT xR 8 nT Rv3 (O.2 7) T)) (ws' := (ww_X0_passPhrase cs ad raBk raR raO raT xR nT Bk Rv3 O T)) (v := v2) (va_runVN (As := [.ref (raO 7), .int (O.1 0 2)]) (rest := []) ⟨hx, hb, hml, hown, hts⟩ (c_X4_neededOf l dC dI cs ad raR (raO 7) raT xR 8 nT _ R (O.2 7) T (O.1 0 2) (v2, Rv3) hq1) ⟨va_cnB 2 hts gX0_passPhrase_X4_neededOf_n63 rfl rfl rfl (hN _ (List.mem_of_getElem? (i := 123) rfl)) k_initialized_RX4 (by decide +kernel) ⟨Nat.le_of_ble_eq_true rfl, Nat.le_of_ble_eq_true rfl⟩, k_instanceMethod_yX4_neededOf, k_selects_RX4_yX4_neededOf_yX4_neededOf⟩ ⟨fun a U g mk q => ⟨q.1, (fun _ _ _ _ => cPe_bl (fun h => cPw_bl h)) a U g mk q.2⟩, va_recv hK hP (ci := 5) (q0 := 4) rfl rfl, fun U hU hW => ⟨rfl, ⟨hEc U hU hW, ⟨by rw [hU], by rw [hU]; exact (hP.sub (ws' := (ww_X4_neededOf cs ad raR (raO 7) raT xR 8 nT R (O.2 7) T)) [4, 9, 13] rfl), va_K.moved hW.alike hK, (hD.sub (ws' := (ww_X4_neededOf cs ad raR (raO 7) raT xR 8 nT R (O.2 7) T)) [4, 9, 13] (by decide) rfl).weaken (fun _ _ _ _ => trivial), kN_warm hW hN⟩⟩⟩⟩ rfl rfl hl.1 rfl (lv_room (Nat.le_of_ble_eq_true rfl)) dX0_passPhrase_9 ⟨Nat.le_refl _, Nat.le_refl _⟩) hP hD hS hA rfl rfl (wr := ((wX0 cs ad raBk Bk) ++ ([(raO 0, .inr (4, fX3 ad raO O)), (raO 4, .inl (cs 2, 6, .inr (.inl (O.2 4)))), (raO 5, .inl (cs 1, 6, .inl (O.1 5))), (raO 6, .inl (cs 1, 6, .inl (O.1 6))), (raO 8, .inl (cs 1, 8, .inl (O.1 8))), (raO 9, .inl (cs 1, 8, .inl (O.1 9))), (raO 10, .inl (cs 1, 8, .inl (O.1 10)))]))) rfl rfl rfl (nw := 14) rfl (by decide +kernel) rfl (fun H locs hP hD hS => ?_)
  refine lv_istore_n (nL := 4) (lv' := [(3, .int v2), (0, .ref (raBk 0)), (1, .ref (raR 0)), (2, .ref (raO 0))]) hx hb dX0_passPhrase_12 rfl hl (by decide) rfl (fun ls hl => ?_)
  refine lv_iload_n hx hb dX0_passPhrase_13 rfl (lv_at hl 0 rfl) ?_
  refine lv_iconst (v := -1) hx hb dX0_passPhrase_14 (by decide) ?_
  refine lv_icmp_ne (tgt := 20) hx hb dX0_passPhrase_15 (by decide) (fun hb8 => ?_) (fun hb8 => ?_)
  · have hf := (if_neg hb8).symm.trans hf
    refine lv_aload_n hx hb dX0_passPhrase_20 rfl (lv_at hl 1 rfl) ?_
    refine lv_iload_n hx hb dX0_passPhrase_21 rfl (lv_at hl 0 rfl) ?_
    obtain ⟨Bkv5, hq4, hf⟩ := bo_e hf
    refine g_callv (isC := [0, 1, 2, 3]) (isR := [4, 5, 6, 7, 8, 9, 10, 11, 12, 13]) (wc := (ww_X0_keepNumber cs ad raBk Bk)) (wz := (ww_X0_keepNumber cs ad raBk zD)) (w1 := (ww_X0_keepNumber cs ad raBk Bkv5)) (ws' := (ww_X0_passPhrase cs ad raBk raR raO raT xR nT Bkv5 Rv3 O T)) (va_runV (As := [.int v2]) (rest := []) ⟨hx, hb, hml, hown, hts⟩ (c_X0_keepNumber l dC dI cs ad raBk _ Bk v2 Bkv5 hq4) (cwV 1 hts gX0_passPhrase_X0_keepNumber rfl rfl rfl (by decide +kernel) ⟨Nat.le_of_ble_eq_true rfl, Nat.le_of_ble_eq_true rfl⟩) ⟨fun a U g mk q => ⟨q.1, (fun _ _ _ _ => cPw_bl) a U g mk q.2⟩, va_recv hK hP (ci := 1) (q0 := 0) rfl rfl, fun U hU hW => ⟨rfl, ⟨by rw [hU], by rw [hU]; exact (hP.sub (ws' := (ww_X0_keepNumber cs ad raBk Bk)) [0, 1, 2, 3] rfl), va_K.moved hW.alike hK, (hD.sub (ws' := (ww_X0_keepNumber cs ad raBk Bk)) [0, 1, 2, 3] (by decide) rfl).weaken (fun _ _ _ _ => trivial), kN_warm hW hN⟩⟩⟩ rfl rfl hl.1 rfl (lv_room (Nat.le_of_ble_eq_true rfl)) dX0_passPhrase_22 ⟨Nat.le_refl _, Nat.le_refl _⟩) hP hD hS hA rfl rfl (wr := ((wX4 cs ad raR xR raT Rv3) ++ ((wX3 cs ad raO O) ++ (([(raT, .inl (cs 1, nT, .inl T))]))))) rfl rfl rfl (nw := 14) rfl (by decide +kernel) rfl (fun H locs hP hD hS => ?_)
    refine lv_aload_n hx hb dX0_passPhrase_25 rfl (lv_at hl 2 rfl) ?_
    obtain ⟨Rv7, hq6, hf⟩ := bo_e hf
    have hEc := cE_sub (A1 := va_A (ww_X4_advance cs ad raR raT xR nT zD (fun _ => 0)) _) hE hS (cA_free (isC := [4, 13]) (wc := (ww_X4_advance cs ad raR raT xR nT Rv3 T)) (wz := (ww_X4_advance cs ad raR raT xR nT zD (fun _ => 0))) rfl rfl hD hS hA)
    refine g_callv (isC := [4, 13]) (isR := [0, 1, 2, 3, 5, 6, 7, 8, 9, 10, 11, 12]) (wc := (ww_X4_advance cs ad raR raT xR nT Rv3 T)) (wz := (ww_X4_advance cs ad raR raT xR nT zD (fun _ => 0))) (w1 := (ww_X4_advance cs ad raR raT xR nT Rv7 T)) (ws' := (ww_X0_passPhrase cs ad raBk raR raO raT xR nT Bkv5 Rv7 O T)) (va_runVN (As := []) (rest := []) ⟨hx, hb, hml, hown, hts⟩ (c_X4_advance l dC dI cs ad raR raT xR nT _ Rv3 T Rv7 hq6) ⟨va_cnB 0 hts gX0_passPhrase_X4_advance_n70 rfl rfl rfl (hN _ (List.mem_of_getElem? (i := 125) rfl)) k_initialized_RX4 (by decide +kernel) ⟨Nat.le_of_ble_eq_true rfl, Nat.le_of_ble_eq_true rfl⟩, k_instanceMethod_yX4_advance, k_selects_RX4_yX4_advance_yX4_advance⟩ ⟨fun a U g mk q => ⟨q.1, (fun _ _ _ _ => cPe_bl (fun h => cPw_bl h)) a U g mk q.2⟩, va_recv hK hP (ci := 5) (q0 := 4) rfl rfl, fun U hU hW => ⟨rfl, ⟨hEc U hU hW, ⟨by rw [hU], by rw [hU]; exact (hP.sub (ws' := (ww_X4_advance cs ad raR raT xR nT Rv3 T)) [4, 13] rfl), va_K.moved hW.alike hK, (hD.sub (ws' := (ww_X4_advance cs ad raR raT xR nT Rv3 T)) [4, 13] (by decide) rfl).weaken (fun _ _ _ _ => trivial), kN_warm hW hN⟩⟩⟩⟩ rfl rfl hl.1 rfl (lv_room (Nat.le_of_ble_eq_true rfl)) dX0_passPhrase_26 ⟨Nat.le_refl _, Nat.le_refl _⟩) hP hD hS hA rfl rfl (wr := ((wX0 cs ad raBk Bkv5) ++ ((wX3 cs ad raO O)))) rfl rfl rfl (nw := 14) rfl (by decide +kernel) rfl (fun H locs hP hD hS => ?_)
    refine lv_iconst (v := 1) hx hb dX0_passPhrase_29 (by decide) ?_
    have hf := Option.some.inj hf
    subst hf
    exact c_zret (v := (1 : Int32)) hx hb hr rfl hlocks hP hK hD hS dX0_passPhrase_30
  · have hf := (if_pos hb8).symm.trans hf
    refine lv_iconst (v := 0) hx hb dX0_passPhrase_18 (by decide) ?_
    have hf := Option.some.inj hf
    subst hf
    exact c_zret (v := (0 : Int32)) hx hb hr rfl hlocks hP hK hD hS dX0_passPhrase_19

def ww_X0_passNumber (cs : Nat → ClassId) (ad : Nat → Nat) (raBk : Nat → Nat) (raR : Nat → Nat) (raT : Nat) (xR : Nat) (nT : Nat) (Bk : kD) (R : kD) (T : Nat → Int32) : va_W := (wX0 cs ad raBk Bk ++ (wX4 cs ad raR xR raT R ++ ([(raT, .inl (cs 1, nT, .inl T))])))
abbrev rm_X0_passNumber : Room := { frames := 6, cells := 0, slots := 0, locals := 166 }
set_option maxHeartbeats 4000000 in
set_option maxRecDepth 100000 in
theorem c_X0_passNumber (l : Launch) (dC : Nat → ClassId) (dI : Nat → Nat → Nat) (cs : Nat → ClassId) (ad : Nat → Nat) (raBk : Nat → Nat) (raR : Nat → Nat) (raT : Nat) (xR : Nat) (nT : Nat) (sz : Nat) (Bk : kD) (R : kD) (T : Nat → Int32) (a1 : Int32) (r : Int32 × kD × kD) (hf : f_X0_passNumber a1 nT Bk R T = some r) : Met l yX0_passNumber wsX0_passNumber rm_X0_passNumber (va_Pc [.ref (raBk 0), .ref (raR 0), .int a1] (cPe ad (va_A (ww_X0_passNumber cs ad raBk raR raT xR nT zD zD (fun _ => 0)) sz) (cPw dC dI cs sz (ww_X0_passNumber cs ad raBk raR raT xR nT Bk R T)))) (cQi dC dI cs (va_A (ww_X0_passNumber cs ad raBk raR raT xR nT zD zD (fun _ => 0)) sz) r.1 (ww_X0_passNumber cs ad raBk raR raT xR nT r.2.1 r.2.2 T)) 0 0 (va_A (ww_X0_passNumber cs ad raBk raR raT xR nT zD zD (fun _ => 0)) sz) := by
  refine Met.ofW (cc := cX0_passNumber) (maxL := 3) (ret := (some .boolean)) (by decide) rfl ?_
  intro p e s m args below meth c s₁ B hml hv
  obtain ⟨hav, hE, hsz, hP, hK, hD0, hN⟩ := hv
  have hx := B.exec
  have hb := B.bytes
  have hr := B.returns
  have hts := atoms_spec (ws := wsX0_passNumber) B.pre
  have hown : s.vm.findClass RX0 = some m.cls := findClass_of_methodNamed B.named
  have hlocks := B.notSynchronized
  subst hsz
  have hA : ∀ q, s.heap.size ≤ q → va_A (ww_X0_passNumber cs ad raBk raR raT xR nT zD zD (fun _ => 0)) s.heap.size q := fun q h => Or.inr h
  have hD : va_D (va_A (ww_X0_passNumber cs ad raBk raR raT xR nT zD zD (fun _ => 0)) s.heap.size) (ww_X0_passNumber cs ad raBk raR raT xR nT Bk R T) := hD0.weaken (fun k q h _ => cA_in (ws := (ww_X0_passNumber cs ad raBk raR raT xR nT Bk R T)) (ws' := (ww_X0_passNumber cs ad raBk raR raT xR nT zD zD (fun _ => 0))) rfl h)
  have hS : va_S (va_A (ww_X0_passNumber cs ad raBk raR raT xR nT zD zD (fun _ => 0)) s.heap.size) s.heap s.heap [] := va_S.rf
  have hinX4 := (show ∀ w ∈ wsX40, w ∈ wsX0_passNumber from fun w h => List.mem_cons_of_mem _ (List.mem_append_left _ (List.mem_append_right _ h)))
  have k_initialized_RX4 := hts (.initialized RX4) (List.mem_of_getElem? (i := 2) rfl)
  have k_instanceMethod_yX4_advance := hts (.instanceMethod yX4_advance) (List.mem_of_getElem? (i := 21) rfl)
  have k_instanceMethod_yX4_needsNumber := hts (.instanceMethod yX4_needsNumber) (List.mem_of_getElem? (i := 1) rfl)
  have k_selects_RX4_yX4_advance_yX4_advance := hts (.selects RX4 yX4_advance yX4_advance) (List.mem_of_getElem? (i := 22) rfl)
  have k_selects_RX4_yX4_needsNumber_yX4_needsNumber := hts (.selects RX4 yX4_needsNumber yX4_needsNumber) (List.mem_of_getElem? (i := 3) rfl)
  have hl := lv_entry ([.ref (raBk 0), .ref (raR 0), .int a1]) (n := 3) (Nat.le_of_ble_eq_true rfl)
  rw [show entryFrame m args 3 = entryFrame m ([.ref (raBk 0), .ref (raR 0), .int a1] : List Value).toArray 3 from by rw [hav], lg_entry_eq]
  generalize (lg_sl ([.ref (raBk 0), .ref (raR 0), .int a1]) ++ List.replicate (3 - (lg_sl ([.ref (raBk 0), .ref (raR 0), .int a1])).length) Slot.unset).toArray = ls at hl ⊢
  have hl : lv_has ls 3 [(0, .ref (raBk 0)), (1, .ref (raR 0)), (2, .int a1)] := hl
  unfold f_X0_passNumber at hf
  refine lv_aload_n hx hb dX0_passNumber_0 rfl (lv_at hl 1 rfl) ?_
  refine lv_iconst (v := 1) hx hb dX0_passNumber_1 (by decide) ?_
  refine lv_iload_n hx hb dX0_passNumber_2 rfl (lv_at hl 2 rfl) ?_
  obtain ⟨v2, Rv3, hq1, hf⟩ := bo2_e hf
  refine g_callw (isC := [4, 5]) (isR := [0, 1, 2, 3]) (wc := (ww_X4_needsNumber cs ad raR raT xR nT R T)) (wz := (ww_X4_needsNumber cs ad raR raT xR nT zD (fun _ => 0))) (w1 := (ww_X4_needsNumber cs ad raR raT xR nT Rv3 T)) (ws' := (ww_X0_passNumber cs ad raBk raR raT xR nT Bk Rv3 T)) (v := v2) (va_runVN (As := [.int (1 : Int32), .int a1]) (rest := []) ⟨hx, hb, hml, hown, hts⟩ (c_X4_needsNumber l dC dI cs ad raR raT xR nT _ R T (1 : Int32) a1 (v2, Rv3) hq1) ⟨va_cnB 2 hts gX0_passNumber_X4_needsNumber_n108 rfl rfl rfl (hN _ (List.mem_of_getElem? (i := 126) rfl)) k_initialized_RX4 (by decide +kernel) ⟨Nat.le_of_ble_eq_true rfl, Nat.le_of_ble_eq_true rfl⟩, k_instanceMethod_yX4_needsNumber, k_selects_RX4_yX4_needsNumber_yX4_needsNumber⟩ ⟨fun a U g mk q => ⟨q.1, (fun _ _ _ _ => cPw_bl) a U g mk q.2⟩, va_recv hK hP (ci := 5) (q0 := 4) rfl rfl, fun U hU hW => ⟨rfl, ⟨by rw [hU], by rw [hU]; exact (hP.sub (ws' := (ww_X4_needsNumber cs ad raR raT xR nT R T)) [4, 5] rfl), va_K.moved hW.alike hK, (hD.sub (ws' := (ww_X4_needsNumber cs ad raR raT xR nT R T)) [4, 5] (by decide) rfl).weaken (fun _ _ _ _ => trivial), kN_warm hW hN⟩⟩⟩ rfl rfl hl.1 rfl (lv_room (Nat.le_of_ble_eq_true rfl)) dX0_passNumber_3 ⟨Nat.le_refl _, Nat.le_refl _⟩) hP hD hS hA rfl rfl (wr := ((wX0 cs ad raBk Bk))) rfl rfl rfl (nw := 6) rfl (by decide +kernel) rfl (fun H locs hP hD hS => ?_)
  refine lv_if_ne (tgt := 11) hx hb dX0_passNumber_6 (by decide) (fun hb8 => ?_) (fun hb8 => ?_)
  · have hf := (if_neg hb8).symm.trans hf
    refine lv_aload_n hx hb dX0_passNumber_11 rfl (lv_at hl 0 rfl) ?_
    refine lv_aload_n hx hb dX0_passNumber_12 rfl (lv_at hl 1 rfl) ?_
    refine va_getN (D := (dC, dI)) (ci := 5) (C := RX4) (T := TX4) (N := 11) hx hb hts hinX4 hown hK hP 4 rfl rfl 8 (by decide) (v := .int (Rv3.1 0 8)) (va_Nw.use rfl (hN _ (List.mem_of_getElem? (i := 3) rfl))) (fun _ h9 => h9) rfl dX0_passNumber_13 ?_
    obtain ⟨Bkv5, hq4, hf⟩ := bo_e hf
    refine g_callv (isC := [0, 1, 2, 3]) (isR := [4, 5]) (wc := (ww_X0_keepNumber cs ad raBk Bk)) (wz := (ww_X0_keepNumber cs ad raBk zD)) (w1 := (ww_X0_keepNumber cs ad raBk Bkv5)) (ws' := (ww_X0_passNumber cs ad raBk raR raT xR nT Bkv5 Rv3 T)) (va_runV (As := [.int (Rv3.1 0 8)]) (rest := []) ⟨hx, hb, hml, hown, hts⟩ (c_X0_keepNumber l dC dI cs ad raBk _ Bk (Rv3.1 0 8) Bkv5 hq4) (cwV 1 hts gX0_passNumber_X0_keepNumber rfl rfl rfl (by decide +kernel) ⟨Nat.le_of_ble_eq_true rfl, Nat.le_of_ble_eq_true rfl⟩) ⟨fun a U g mk q => ⟨q.1, (fun _ _ _ _ => cPw_bl) a U g mk q.2⟩, va_recv hK hP (ci := 1) (q0 := 0) rfl rfl, fun U hU hW => ⟨rfl, ⟨by rw [hU], by rw [hU]; exact (hP.sub (ws' := (ww_X0_keepNumber cs ad raBk Bk)) [0, 1, 2, 3] rfl), va_K.moved hW.alike hK, (hD.sub (ws' := (ww_X0_keepNumber cs ad raBk Bk)) [0, 1, 2, 3] (by decide) rfl).weaken (fun _ _ _ _ => trivial), kN_warm hW hN⟩⟩⟩ rfl rfl hl.1 rfl (lv_room (Nat.le_of_ble_eq_true rfl)) dX0_passNumber_16 ⟨Nat.le_refl _, Nat.le_refl _⟩) hP hD hS hA rfl rfl (wr := ((wX4 cs ad raR xR raT Rv3) ++ (([(raT, .inl (cs 1, nT, .inl T))])))) rfl rfl rfl (nw := 6) rfl (by decide +kernel) rfl (fun H locs hP hD hS => ?_)
    refine lv_aload_n hx hb dX0_passNumber_19 rfl (lv_at hl 1 rfl) ?_
    obtain ⟨Rv7, hq6, hf⟩ := bo_e hf
    have hEc := cE_sub (A1 := va_A (ww_X4_advance cs ad raR raT xR nT zD (fun _ => 0)) _) hE hS (cA_free (isC := [4, 5]) (wc := (ww_X4_advance cs ad raR raT xR nT Rv3 T)) (wz := (ww_X4_advance cs ad raR raT xR nT zD (fun _ => 0))) rfl rfl hD hS hA)
    refine g_callv (isC := [4, 5]) (isR := [0, 1, 2, 3]) (wc := (ww_X4_advance cs ad raR raT xR nT Rv3 T)) (wz := (ww_X4_advance cs ad raR raT xR nT zD (fun _ => 0))) (w1 := (ww_X4_advance cs ad raR raT xR nT Rv7 T)) (ws' := (ww_X0_passNumber cs ad raBk raR raT xR nT Bkv5 Rv7 T)) (va_runVN (As := []) (rest := []) ⟨hx, hb, hml, hown, hts⟩ (c_X4_advance l dC dI cs ad raR raT xR nT _ Rv3 T Rv7 hq6) ⟨va_cnB 0 hts gX0_passNumber_X4_advance_n70 rfl rfl rfl (hN _ (List.mem_of_getElem? (i := 125) rfl)) k_initialized_RX4 (by decide +kernel) ⟨Nat.le_of_ble_eq_true rfl, Nat.le_of_ble_eq_true rfl⟩, k_instanceMethod_yX4_advance, k_selects_RX4_yX4_advance_yX4_advance⟩ ⟨fun a U g mk q => ⟨q.1, (fun _ _ _ _ => cPe_bl (fun h => cPw_bl h)) a U g mk q.2⟩, va_recv hK hP (ci := 5) (q0 := 4) rfl rfl, fun U hU hW => ⟨rfl, ⟨hEc U hU hW, ⟨by rw [hU], by rw [hU]; exact (hP.sub (ws' := (ww_X4_advance cs ad raR raT xR nT Rv3 T)) [4, 5] rfl), va_K.moved hW.alike hK, (hD.sub (ws' := (ww_X4_advance cs ad raR raT xR nT Rv3 T)) [4, 5] (by decide) rfl).weaken (fun _ _ _ _ => trivial), kN_warm hW hN⟩⟩⟩⟩ rfl rfl hl.1 rfl (lv_room (Nat.le_of_ble_eq_true rfl)) dX0_passNumber_20 ⟨Nat.le_refl _, Nat.le_refl _⟩) hP hD hS hA rfl rfl (wr := ((wX0 cs ad raBk Bkv5))) rfl rfl rfl (nw := 6) rfl (by decide +kernel) rfl (fun H locs hP hD hS => ?_)
    refine lv_iconst (v := 1) hx hb dX0_passNumber_23 (by decide) ?_
    have hf := Option.some.inj hf
    subst hf
    exact c_zret (v := (1 : Int32)) hx hb hr rfl hlocks hP hK hD hS dX0_passNumber_24
  · have hf := (if_pos hb8).symm.trans hf
    refine lv_iconst (v := 0) hx hb dX0_passNumber_9 (by decide) ?_
    have hf := Option.some.inj hf
    subst hf
    exact c_zret (v := (0 : Int32)) hx hb hr rfl hlocks hP hK hD hS dX0_passNumber_10

def ww_X0_readMachineAct (cs : Nat → ClassId) (ad : Nat → Nat) (raBk : Nat → Nat) (raR : Nat → Nat) (raO : Nat → Nat) (raT : Nat) (xR : Nat) (nT : Nat) (Bk : kD) (R : kD) (O : kD) (T : Nat → Int32) : va_W := (wX0 cs ad raBk Bk ++ (wX4 cs ad raR xR raT R ++ (wX3 cs ad raO O ++ ([(raT, .inl (cs 1, nT, .inl T))]))))
abbrev rm_X0_readMachineAct : Room := { frames := 7, cells := 0, slots := 0, locals := 189 }
set_option maxHeartbeats 4000000 in
set_option maxRecDepth 100000 in
theorem c_X0_readMachineAct (l : Launch) (dC : Nat → ClassId) (dI : Nat → Nat → Nat) (cs : Nat → ClassId) (ad : Nat → Nat) (raBk : Nat → Nat) (raR : Nat → Nat) (raO : Nat → Nat) (raT : Nat) (xR : Nat) (nT : Nat) (sz : Nat) (Bk : kD) (R : kD) (O : kD) (T : Nat → Int32) (r : Int32 × kD × kD) (hf : f_X0_readMachineAct nT Bk R O T = some r) : Met l yX0_readMachineAct wsX0_readMachineAct rm_X0_readMachineAct (va_Pc [.ref (raBk 0), .ref (raR 0), .ref (raO 0)] (cPe ad (va_A (ww_X0_readMachineAct cs ad raBk raR raO raT xR nT zD zD zD (fun _ => 0)) sz) (cPw dC dI cs sz (ww_X0_readMachineAct cs ad raBk raR raO raT xR nT Bk R O T)))) (cQi dC dI cs (va_A (ww_X0_readMachineAct cs ad raBk raR raO raT xR nT zD zD zD (fun _ => 0)) sz) r.1 (ww_X0_readMachineAct cs ad raBk raR raO raT xR nT r.2.1 r.2.2 O T)) 0 0 (va_A (ww_X0_readMachineAct cs ad raBk raR raO raT xR nT zD zD zD (fun _ => 0)) sz) := by
  refine Met.ofW (cc := cX0_readMachineAct) (maxL := 3) (ret := (some .boolean)) (by decide) rfl ?_
  intro p e s m args below meth c s₁ B hml hv
  obtain ⟨hav, hE, hsz, hP, hK, hD0, hN⟩ := hv
  have hx := B.exec
  have hb := B.bytes
  have hr := B.returns
  have hts := atoms_spec (ws := wsX0_readMachineAct) B.pre
  have hown : s.vm.findClass RX0 = some m.cls := findClass_of_methodNamed B.named
  have hlocks := B.notSynchronized
  subst hsz
  have hA : ∀ q, s.heap.size ≤ q → va_A (ww_X0_readMachineAct cs ad raBk raR raO raT xR nT zD zD zD (fun _ => 0)) s.heap.size q := fun q h => Or.inr h
  have hD : va_D (va_A (ww_X0_readMachineAct cs ad raBk raR raO raT xR nT zD zD zD (fun _ => 0)) s.heap.size) (ww_X0_readMachineAct cs ad raBk raR raO raT xR nT Bk R O T) := hD0.weaken (fun k q h _ => cA_in (ws := (ww_X0_readMachineAct cs ad raBk raR raO raT xR nT Bk R O T)) (ws' := (ww_X0_readMachineAct cs ad raBk raR raO raT xR nT zD zD zD (fun _ => 0))) rfl h)
  have hS : va_S (va_A (ww_X0_readMachineAct cs ad raBk raR raO raT xR nT zD zD zD (fun _ => 0)) s.heap.size) s.heap s.heap [] := va_S.rf
  have k_initialized_RX4 := hts (.initialized RX4) (List.mem_of_getElem? (i := 6) rfl)
  have k_instanceMethod_yX4_refuse := hts (.instanceMethod yX4_refuse) (List.mem_of_getElem? (i := 103) rfl)
  have k_instanceMethod_yX4_seesWord := hts (.instanceMethod yX4_seesWord) (List.mem_of_getElem? (i := 5) rfl)
  have k_selects_RX4_yX4_refuse_yX4_refuse := hts (.selects RX4 yX4_refuse yX4_refuse) (List.mem_of_getElem? (i := 104) rfl)
  have k_selects_RX4_yX4_seesWord_yX4_seesWord := hts (.selects RX4 yX4_seesWord yX4_seesWord) (List.mem_of_getElem? (i := 7) rfl)
  have kieldLink_RX0_89__KeyLetters_Word___SITS___LKeyLetters_Word__ := hts (.fieldLink RX0 89 "KeyLetters$Word" "SITS" "LKeyLetters$Word;") (List.mem_of_getElem? (i := 2) rfl)
  have kldLink_RX0_83__KeyLetters_Word___WRITES___LKeyLetters_Word__ := hts (.fieldLink RX0 83 "KeyLetters$Word" "WRITES" "LKeyLetters$Word;") (List.mem_of_getElem? (i := 1) rfl)
  have kldLink_RX0_92__KeyLetters_Word___LEAVES___LKeyLetters_Word__ := hts (.fieldLink RX0 92 "KeyLetters$Word" "LEAVES" "LKeyLetters$Word;") (List.mem_of_getElem? (i := 3) rfl)
  have kldLink_RX0_95__KeyLetters_Word___RIBBON___LKeyLetters_Word__ := hts (.fieldLink RX0 95 "KeyLetters$Word" "RIBBON" "LKeyLetters$Word;") (List.mem_of_getElem? (i := 4) rfl)
  have hl := lv_entry ([.ref (raBk 0), .ref (raR 0), .ref (raO 0)]) (n := 3) (Nat.le_of_ble_eq_true rfl)
  rw [show entryFrame m args 3 = entryFrame m ([.ref (raBk 0), .ref (raR 0), .ref (raO 0)] : List Value).toArray 3 from by rw [hav], lg_entry_eq]
  generalize (lg_sl ([.ref (raBk 0), .ref (raR 0), .ref (raO 0)]) ++ List.replicate (3 - (lg_sl ([.ref (raBk 0), .ref (raR 0), .ref (raO 0)])).length) Slot.unset).toArray = ls at hl ⊢
  have hl : lv_has ls 3 [(0, .ref (raBk 0)), (1, .ref (raR 0)), (2, .ref (raO 0))] := hl
  unfold f_X0_readMachineAct at hf
  refine lv_aload_n hx hb dX0_readMachineAct_0 rfl (lv_at hl 1 rfl) ?_
  refine va_gets hx hb (show va_Z "KeyLetters$Word" "WRITES" "LKeyLetters$Word;" (.ref (ad 5)) _ s s.heap from (hE.1.1 5 (by decide)).1) hS hown kldLink_RX0_83__KeyLetters_Word___WRITES___LKeyLetters_Word__ (fun _ h9 => h9) dX0_readMachineAct_1 ?_
  obtain ⟨v2, hq1, hf⟩ := bo_e hf
  have hEc := cE_subF hE hS
  refine ko_call (v := some (.int v2)) (va_runVN (As := [.ref (ad (5 : Int32).toNatClampNeg)]) (rest := []) ⟨hx, hb, hml, hown, hts⟩ (c_X4_seesWord l dC dI cs ad raR raT xR nT R T (5 : Int32) v2 hq1) ⟨va_cnB 1 hts gX0_readMachineAct_X4_seesWord_n48 rfl rfl rfl (hN _ (List.mem_of_getElem? (i := 122) rfl)) k_initialized_RX4 (by decide +kernel) ⟨Nat.le_of_ble_eq_true rfl, Nat.le_of_ble_eq_true rfl⟩, k_instanceMethod_yX4_seesWord, k_selects_RX4_yX4_seesWord_yX4_seesWord⟩ ⟨fun a U g mk q => ⟨q.1, (fun _ _ _ _ => cPe_bl (fun h => cPr_bl h)) a U g mk q.2⟩, va_recv hK hP (ci := 5) (q0 := 4) rfl rfl, fun U hU hW => ⟨rfl, ⟨hEc U hU hW, ⟨by rw [hU]; exact (hP.sub (ws' := (ww_X4_seesWord cs ad raR raT xR nT R T)) [4, 13] rfl), va_K.moved hW.alike hK, kN_warm hW hN⟩⟩⟩⟩ rfl rfl hl.1 rfl (lv_room (Nat.le_of_ble_eq_true rfl)) dX0_readMachineAct_4 ⟨Nat.le_refl _, Nat.le_refl _⟩) ?_
  refine lv_if_eq (tgt := 34) hx hb dX0_readMachineAct_7 (by decide) (fun hb46 => ?_) (fun hb46 => ?_)
  · have hf := (if_pos hb46).symm.trans hf
    refine lv_aload_n hx hb dX0_readMachineAct_34 rfl (lv_at hl 1 rfl) ?_
    refine va_gets hx hb (show va_Z "KeyLetters$Word" "SITS" "LKeyLetters$Word;" (.ref (ad 6)) _ s s.heap from (hE.1.1 6 (by decide)).1) hS hown kieldLink_RX0_89__KeyLetters_Word___SITS___LKeyLetters_Word__ (fun _ h9 => h9) dX0_readMachineAct_35 ?_
    obtain ⟨v4, hq3, hf⟩ := bo_e hf
    have hEc := cE_subF hE hS
    refine ko_call (v := some (.int v4)) (va_runVN (As := [.ref (ad (6 : Int32).toNatClampNeg)]) (rest := []) ⟨hx, hb, hml, hown, hts⟩ (c_X4_seesWord l dC dI cs ad raR raT xR nT R T (6 : Int32) v4 hq3) ⟨va_cnB 1 hts gX0_readMachineAct_X4_seesWord_n48 rfl rfl rfl (hN _ (List.mem_of_getElem? (i := 122) rfl)) k_initialized_RX4 (by decide +kernel) ⟨Nat.le_of_ble_eq_true rfl, Nat.le_of_ble_eq_true rfl⟩, k_instanceMethod_yX4_seesWord, k_selects_RX4_yX4_seesWord_yX4_seesWord⟩ ⟨fun a U g mk q => ⟨q.1, (fun _ _ _ _ => cPe_bl (fun h => cPr_bl h)) a U g mk q.2⟩, va_recv hK hP (ci := 5) (q0 := 4) rfl rfl, fun U hU hW => ⟨rfl, ⟨hEc U hU hW, ⟨by rw [hU]; exact (hP.sub (ws' := (ww_X4_seesWord cs ad raR raT xR nT R T)) [4, 13] rfl), va_K.moved hW.alike hK, kN_warm hW hN⟩⟩⟩⟩ rfl rfl hl.1 rfl (lv_room (Nat.le_of_ble_eq_true rfl)) dX0_readMachineAct_38 ⟨Nat.le_refl _, Nat.le_refl _⟩) ?_
    refine lv_if_eq (tgt := 52) hx hb dX0_readMachineAct_41 (by decide) (fun hb35 => ?_) (fun hb35 => ?_)
    · have hf := (if_pos hb35).symm.trans hf
      refine lv_aload_n hx hb dX0_readMachineAct_52 rfl (lv_at hl 1 rfl) ?_
      refine va_gets hx hb (show va_Z "KeyLetters$Word" "LEAVES" "LKeyLetters$Word;" (.ref (ad 7)) _ s s.heap from (hE.1.1 7 (by decide)).1) hS hown kldLink_RX0_92__KeyLetters_Word___LEAVES___LKeyLetters_Word__ (fun _ h9 => h9) dX0_readMachineAct_53 ?_
      obtain ⟨v6, hq5, hf⟩ := bo_e hf
      have hEc := cE_subF hE hS
      refine ko_call (v := some (.int v6)) (va_runVN (As := [.ref (ad (7 : Int32).toNatClampNeg)]) (rest := []) ⟨hx, hb, hml, hown, hts⟩ (c_X4_seesWord l dC dI cs ad raR raT xR nT R T (7 : Int32) v6 hq5) ⟨va_cnB 1 hts gX0_readMachineAct_X4_seesWord_n48 rfl rfl rfl (hN _ (List.mem_of_getElem? (i := 122) rfl)) k_initialized_RX4 (by decide +kernel) ⟨Nat.le_of_ble_eq_true rfl, Nat.le_of_ble_eq_true rfl⟩, k_instanceMethod_yX4_seesWord, k_selects_RX4_yX4_seesWord_yX4_seesWord⟩ ⟨fun a U g mk q => ⟨q.1, (fun _ _ _ _ => cPe_bl (fun h => cPr_bl h)) a U g mk q.2⟩, va_recv hK hP (ci := 5) (q0 := 4) rfl rfl, fun U hU hW => ⟨rfl, ⟨hEc U hU hW, ⟨by rw [hU]; exact (hP.sub (ws' := (ww_X4_seesWord cs ad raR raT xR nT R T)) [4, 13] rfl), va_K.moved hW.alike hK, kN_warm hW hN⟩⟩⟩⟩ rfl rfl hl.1 rfl (lv_room (Nat.le_of_ble_eq_true rfl)) dX0_readMachineAct_56 ⟨Nat.le_refl _, Nat.le_refl _⟩) ?_
      refine lv_if_eq (tgt := 70) hx hb dX0_readMachineAct_59 (by decide) (fun hb29 => ?_) (fun hb29 => ?_)
      · have hf := (if_pos hb29).symm.trans hf
        refine lv_aload_n hx hb dX0_readMachineAct_70 rfl (lv_at hl 1 rfl) ?_
        refine va_gets hx hb (show va_Z "KeyLetters$Word" "RIBBON" "LKeyLetters$Word;" (.ref (ad 8)) _ s s.heap from (hE.1.1 8 (by decide)).1) hS hown kldLink_RX0_95__KeyLetters_Word___RIBBON___LKeyLetters_Word__ (fun _ h9 => h9) dX0_readMachineAct_71 ?_
        obtain ⟨v8, hq7, hf⟩ := bo_e hf
        have hEc := cE_subF hE hS
        refine ko_call (v := some (.int v8)) (va_runVN (As := [.ref (ad (8 : Int32).toNatClampNeg)]) (rest := []) ⟨hx, hb, hml, hown, hts⟩ (c_X4_seesWord l dC dI cs ad raR raT xR nT R T (8 : Int32) v8 hq7) ⟨va_cnB 1 hts gX0_readMachineAct_X4_seesWord_n48 rfl rfl rfl (hN _ (List.mem_of_getElem? (i := 122) rfl)) k_initialized_RX4 (by decide +kernel) ⟨Nat.le_of_ble_eq_true rfl, Nat.le_of_ble_eq_true rfl⟩, k_instanceMethod_yX4_seesWord, k_selects_RX4_yX4_seesWord_yX4_seesWord⟩ ⟨fun a U g mk q => ⟨q.1, (fun _ _ _ _ => cPe_bl (fun h => cPr_bl h)) a U g mk q.2⟩, va_recv hK hP (ci := 5) (q0 := 4) rfl rfl, fun U hU hW => ⟨rfl, ⟨hEc U hU hW, ⟨by rw [hU]; exact (hP.sub (ws' := (ww_X4_seesWord cs ad raR raT xR nT R T)) [4, 13] rfl), va_K.moved hW.alike hK, kN_warm hW hN⟩⟩⟩⟩ rfl rfl hl.1 rfl (lv_room (Nat.le_of_ble_eq_true rfl)) dX0_readMachineAct_74 ⟨Nat.le_refl _, Nat.le_refl _⟩) ?_
        refine lv_if_eq (tgt := 107) hx hb dX0_readMachineAct_77 (by decide) (fun hb23 => ?_) (fun hb23 => ?_)
        · have hf := (if_pos hb23).symm.trans hf
          refine lv_aload_n hx hb dX0_readMachineAct_107 rfl (lv_at hl 1 rfl) ?_
          refine lv_iconst (v := 1) hx hb dX0_readMachineAct_108 (by decide) ?_
          obtain ⟨v10, Rv11, hq9, hf⟩ := bo2_e hf
          refine g_callw (isC := [4, 13]) (isR := [0, 1, 2, 3, 5, 6, 7, 8, 9, 10, 11, 12]) (wc := (ww_X4_refuse cs ad raR raT xR nT R T)) (wz := (ww_X4_refuse cs ad raR raT xR nT zD (fun _ => 0))) (w1 := (ww_X4_refuse cs ad raR raT xR nT Rv11 T)) (ws' := (ww_X0_readMachineAct cs ad raBk raR raO raT xR nT Bk Rv11 O T)) (v := v10) (va_runVN (As := [.int (1 : Int32)]) (rest := []) ⟨hx, hb, hml, hown, hts⟩ (c_X4_refuse l dC dI cs ad raR raT xR nT _ R T (1 : Int32) (v10, Rv11) hq9) ⟨va_cnB 1 hts gX0_readMachineAct_X4_refuse_n67 rfl rfl rfl (hN _ (List.mem_of_getElem? (i := 124) rfl)) k_initialized_RX4 (by decide +kernel) ⟨Nat.le_of_ble_eq_true rfl, Nat.le_of_ble_eq_true rfl⟩, k_instanceMethod_yX4_refuse, k_selects_RX4_yX4_refuse_yX4_refuse⟩ ⟨fun a U g mk q => ⟨q.1, (fun _ _ _ _ => cPw_bl) a U g mk q.2⟩, va_recv hK hP (ci := 5) (q0 := 4) rfl rfl, fun U hU hW => ⟨rfl, ⟨by rw [hU], by rw [hU]; exact (hP.sub (ws' := (ww_X4_refuse cs ad raR raT xR nT R T)) [4, 13] rfl), va_K.moved hW.alike hK, (hD.sub (ws' := (ww_X4_refuse cs ad raR raT xR nT R T)) [4, 13] (by decide) rfl).weaken (fun _ _ _ _ => trivial), kN_warm hW hN⟩⟩⟩ rfl rfl hl.1 rfl (lv_room (Nat.le_of_ble_eq_true rfl)) dX0_readMachineAct_109 ⟨Nat.le_refl _, Nat.le_refl _⟩) hP hD hS hA rfl rfl (wr := ((wX0 cs ad raBk Bk) ++ ((wX3 cs ad raO O)))) rfl rfl rfl (nw := 14) rfl (by decide +kernel) rfl (fun H locs hP hD hS => ?_)
          obtain ⟨hc12, hf⟩ := ck_e hf
          have hf := Option.some.inj hf
          subst hf
          exact c_zret (v := v10) hx hb hr (kt_z (Decidable.not_not.mp hc12)) hlocks hP hK hD hS dX0_readMachineAct_112
        · have hf := (if_neg hb23).symm.trans hf
          refine lv_aload_n hx hb dX0_readMachineAct_80 rfl (lv_at hl 0 rfl) ?_
          refine lv_aload_n hx hb dX0_readMachineAct_81 rfl (lv_at hl 1 rfl) ?_
          refine lv_bipush (v := 30) hx hb dX0_readMachineAct_82 (by decide) ?_
          obtain ⟨v14, Bkv15, Rv16, hq13, hf⟩ := bo3_e hf
          have hEc := cE_sub (A1 := va_A (ww_X0_passAct cs ad raBk raR raT xR nT zD zD (fun _ => 0)) _) hE hS (cA_free (isC := [0, 1, 2, 3, 4, 13]) (wc := (ww_X0_passAct cs ad raBk raR raT xR nT Bk R T)) (wz := (ww_X0_passAct cs ad raBk raR raT xR nT zD zD (fun _ => 0))) rfl rfl hD hS hA)
          refine g_callw (isC := [0, 1, 2, 3, 4, 13]) (isR := [5, 6, 7, 8, 9, 10, 11, 12]) (wc := (ww_X0_passAct cs ad raBk raR raT xR nT Bk R T)) (wz := (ww_X0_passAct cs ad raBk raR raT xR nT zD zD (fun _ => 0))) (w1 := (ww_X0_passAct cs ad raBk raR raT xR nT Bkv15 Rv16 T)) (ws' := (ww_X0_readMachineAct cs ad raBk raR raO raT xR nT Bkv15 Rv16 O T)) (v := v14) (va_runV (As := [.ref (raR 0), .int (30 : Int32)]) (rest := []) ⟨hx, hb, hml, hown, hts⟩ (c_X0_passAct l dC dI cs ad raBk raR raT xR nT _ Bk R T (30 : Int32) (v14, Bkv15, Rv16) hq13) (cwV 2 hts gX0_readMachineAct_X0_passAct rfl rfl rfl (by decide +kernel) ⟨Nat.le_of_ble_eq_true rfl, Nat.le_of_ble_eq_true rfl⟩) ⟨fun a U g mk q => ⟨q.1, (fun _ _ _ _ => cPe_bl (fun h => cPw_bl h)) a U g mk q.2⟩, va_recv hK hP (ci := 1) (q0 := 0) rfl rfl, fun U hU hW => ⟨rfl, ⟨hEc U hU hW, ⟨by rw [hU], by rw [hU]; exact (hP.sub (ws' := (ww_X0_passAct cs ad raBk raR raT xR nT Bk R T)) [0, 1, 2, 3, 4, 13] rfl), va_K.moved hW.alike hK, (hD.sub (ws' := (ww_X0_passAct cs ad raBk raR raT xR nT Bk R T)) [0, 1, 2, 3, 4, 13] (by decide) rfl).weaken (fun _ _ _ _ => trivial), kN_warm hW hN⟩⟩⟩⟩ rfl rfl hl.1 rfl (lv_room (Nat.le_of_ble_eq_true rfl)) dX0_readMachineAct_84 ⟨Nat.le_refl _, Nat.le_refl _⟩) hP hD hS hA rfl rfl (wr := ((wX3 cs ad raO O))) rfl rfl rfl (nw := 14) rfl (by decide +kernel) rfl (fun H locs hP hD hS => ?_)
          refine lv_if_eq (tgt := 105) hx hb dX0_readMachineAct_87 (by decide) (fun hb22 => ?_) (fun hb22 => ?_)
          · have hf := (if_pos hb22).symm.trans hf
            refine lv_iconst (v := 0) hx hb dX0_readMachineAct_105 (by decide) ?_
            have hf := Option.some.inj hf
            subst hf
            exact c_zret (v := (0 : Int32)) hx hb hr rfl hlocks hP hK hD hS dX0_readMachineAct_106
          · have hf := (if_neg hb22).symm.trans hf
            refine lv_aload_n hx hb dX0_readMachineAct_90 rfl (lv_at hl 0 rfl) ?_
            refine lv_aload_n hx hb dX0_readMachineAct_91 rfl (lv_at hl 1 rfl) ?_
            refine lv_sipush (v := 999) hx hb dX0_readMachineAct_92 (by decide) ?_
            obtain ⟨v18, Bkv19, Rv20, hq17, hf⟩ := bo3_e hf
            have hEc := cE_sub (A1 := va_A (ww_X0_passNumber cs ad raBk raR raT xR nT zD zD (fun _ => 0)) _) hE hS (cA_free (isC := [0, 1, 2, 3, 4, 13]) (wc := (ww_X0_passNumber cs ad raBk raR raT xR nT Bkv15 Rv16 T)) (wz := (ww_X0_passNumber cs ad raBk raR raT xR nT zD zD (fun _ => 0))) rfl rfl hD hS hA)
            refine g_callw (isC := [0, 1, 2, 3, 4, 13]) (isR := [5, 6, 7, 8, 9, 10, 11, 12]) (wc := (ww_X0_passNumber cs ad raBk raR raT xR nT Bkv15 Rv16 T)) (wz := (ww_X0_passNumber cs ad raBk raR raT xR nT zD zD (fun _ => 0))) (w1 := (ww_X0_passNumber cs ad raBk raR raT xR nT Bkv19 Rv20 T)) (ws' := (ww_X0_readMachineAct cs ad raBk raR raO raT xR nT Bkv19 Rv20 O T)) (v := v18) (va_runV (As := [.ref (raR 0), .int (999 : Int32)]) (rest := []) ⟨hx, hb, hml, hown, hts⟩ (c_X0_passNumber l dC dI cs ad raBk raR raT xR nT _ Bkv15 Rv16 T (999 : Int32) (v18, Bkv19, Rv20) hq17) (cwV 2 hts gX0_readMachineAct_X0_passNumber rfl rfl rfl (by decide +kernel) ⟨Nat.le_of_ble_eq_true rfl, Nat.le_of_ble_eq_true rfl⟩) ⟨fun a U g mk q => ⟨q.1, (fun _ _ _ _ => cPe_bl (fun h => cPw_bl h)) a U g mk q.2⟩, va_recv hK hP (ci := 1) (q0 := 0) rfl rfl, fun U hU hW => ⟨rfl, ⟨hEc U hU hW, ⟨by rw [hU], by rw [hU]; exact (hP.sub (ws' := (ww_X0_passNumber cs ad raBk raR raT xR nT Bkv15 Rv16 T)) [0, 1, 2, 3, 4, 13] rfl), va_K.moved hW.alike hK, (hD.sub (ws' := (ww_X0_passNumber cs ad raBk raR raT xR nT Bkv15 Rv16 T)) [0, 1, 2, 3, 4, 13] (by decide) rfl).weaken (fun _ _ _ _ => trivial), kN_warm hW hN⟩⟩⟩⟩ rfl rfl hl.1 rfl (lv_room (Nat.le_of_ble_eq_true rfl)) dX0_readMachineAct_95 ⟨Nat.le_refl _, Nat.le_refl _⟩) hP hD hS hA rfl rfl (wr := ((wX3 cs ad raO O))) rfl rfl rfl (nw := 14) rfl (by decide +kernel) rfl (fun H locs hP hD hS => ?_)
            refine lv_if_eq (tgt := 105) hx hb dX0_readMachineAct_98 (by decide) (fun hb21 => ?_) (fun hb21 => ?_)
            · have hf := (if_pos hb21).symm.trans hf
              refine lv_iconst (v := 0) hx hb dX0_readMachineAct_105 (by decide) ?_
              have hf := Option.some.inj hf
              subst hf
              exact c_zret (v := (0 : Int32)) hx hb hr rfl hlocks hP hK hD hS dX0_readMachineAct_106
            · have hf := (if_neg hb21).symm.trans hf
              refine lv_iconst (v := 1) hx hb dX0_readMachineAct_101 (by decide) ?_
              refine lv_goto (tgt := 106) hx hb dX0_readMachineAct_102 (by decide) ?_
              have hf := Option.some.inj hf
              subst hf
              exact c_zret (v := (1 : Int32)) hx hb hr rfl hlocks hP hK hD hS dX0_readMachineAct_106
      · have hf := (if_neg hb29).symm.trans hf
        refine lv_aload_n hx hb dX0_readMachineAct_62 rfl (lv_at hl 0 rfl) ?_
        refine lv_aload_n hx hb dX0_readMachineAct_63 rfl (lv_at hl 1 rfl) ?_
        refine lv_bipush (v := 20) hx hb dX0_readMachineAct_64 (by decide) ?_
        obtain ⟨v25, Bkv26, Rv27, hq24, hf⟩ := bo3_e hf
        have hEc := cE_sub (A1 := va_A (ww_X0_passAct cs ad raBk raR raT xR nT zD zD (fun _ => 0)) _) hE hS (cA_free (isC := [0, 1, 2, 3, 4, 13]) (wc := (ww_X0_passAct cs ad raBk raR raT xR nT Bk R T)) (wz := (ww_X0_passAct cs ad raBk raR raT xR nT zD zD (fun _ => 0))) rfl rfl hD hS hA)
        refine g_callw (isC := [0, 1, 2, 3, 4, 13]) (isR := [5, 6, 7, 8, 9, 10, 11, 12]) (wc := (ww_X0_passAct cs ad raBk raR raT xR nT Bk R T)) (wz := (ww_X0_passAct cs ad raBk raR raT xR nT zD zD (fun _ => 0))) (w1 := (ww_X0_passAct cs ad raBk raR raT xR nT Bkv26 Rv27 T)) (ws' := (ww_X0_readMachineAct cs ad raBk raR raO raT xR nT Bkv26 Rv27 O T)) (v := v25) (va_runV (As := [.ref (raR 0), .int (20 : Int32)]) (rest := []) ⟨hx, hb, hml, hown, hts⟩ (c_X0_passAct l dC dI cs ad raBk raR raT xR nT _ Bk R T (20 : Int32) (v25, Bkv26, Rv27) hq24) (cwV 2 hts gX0_readMachineAct_X0_passAct rfl rfl rfl (by decide +kernel) ⟨Nat.le_of_ble_eq_true rfl, Nat.le_of_ble_eq_true rfl⟩) ⟨fun a U g mk q => ⟨q.1, (fun _ _ _ _ => cPe_bl (fun h => cPw_bl h)) a U g mk q.2⟩, va_recv hK hP (ci := 1) (q0 := 0) rfl rfl, fun U hU hW => ⟨rfl, ⟨hEc U hU hW, ⟨by rw [hU], by rw [hU]; exact (hP.sub (ws' := (ww_X0_passAct cs ad raBk raR raT xR nT Bk R T)) [0, 1, 2, 3, 4, 13] rfl), va_K.moved hW.alike hK, (hD.sub (ws' := (ww_X0_passAct cs ad raBk raR raT xR nT Bk R T)) [0, 1, 2, 3, 4, 13] (by decide) rfl).weaken (fun _ _ _ _ => trivial), kN_warm hW hN⟩⟩⟩⟩ rfl rfl hl.1 rfl (lv_room (Nat.le_of_ble_eq_true rfl)) dX0_readMachineAct_66 ⟨Nat.le_refl _, Nat.le_refl _⟩) hP hD hS hA rfl rfl (wr := ((wX3 cs ad raO O))) rfl rfl rfl (nw := 14) rfl (by decide +kernel) rfl (fun H locs hP hD hS => ?_)
        obtain ⟨hc28, hf⟩ := ck_e hf
        have hf := Option.some.inj hf
        subst hf
        exact c_zret (v := v25) hx hb hr (kt_z (Decidable.not_not.mp hc28)) hlocks hP hK hD hS dX0_readMachineAct_69
    · have hf := (if_neg hb35).symm.trans hf
      refine lv_aload_n hx hb dX0_readMachineAct_44 rfl (lv_at hl 0 rfl) ?_
      refine lv_aload_n hx hb dX0_readMachineAct_45 rfl (lv_at hl 1 rfl) ?_
      refine lv_bipush (v := 10) hx hb dX0_readMachineAct_46 (by decide) ?_
      obtain ⟨v31, Bkv32, Rv33, hq30, hf⟩ := bo3_e hf
      have hEc := cE_sub (A1 := va_A (ww_X0_passAct cs ad raBk raR raT xR nT zD zD (fun _ => 0)) _) hE hS (cA_free (isC := [0, 1, 2, 3, 4, 13]) (wc := (ww_X0_passAct cs ad raBk raR raT xR nT Bk R T)) (wz := (ww_X0_passAct cs ad raBk raR raT xR nT zD zD (fun _ => 0))) rfl rfl hD hS hA)
      refine g_callw (isC := [0, 1, 2, 3, 4, 13]) (isR := [5, 6, 7, 8, 9, 10, 11, 12]) (wc := (ww_X0_passAct cs ad raBk raR raT xR nT Bk R T)) (wz := (ww_X0_passAct cs ad raBk raR raT xR nT zD zD (fun _ => 0))) (w1 := (ww_X0_passAct cs ad raBk raR raT xR nT Bkv32 Rv33 T)) (ws' := (ww_X0_readMachineAct cs ad raBk raR raO raT xR nT Bkv32 Rv33 O T)) (v := v31) (va_runV (As := [.ref (raR 0), .int (10 : Int32)]) (rest := []) ⟨hx, hb, hml, hown, hts⟩ (c_X0_passAct l dC dI cs ad raBk raR raT xR nT _ Bk R T (10 : Int32) (v31, Bkv32, Rv33) hq30) (cwV 2 hts gX0_readMachineAct_X0_passAct rfl rfl rfl (by decide +kernel) ⟨Nat.le_of_ble_eq_true rfl, Nat.le_of_ble_eq_true rfl⟩) ⟨fun a U g mk q => ⟨q.1, (fun _ _ _ _ => cPe_bl (fun h => cPw_bl h)) a U g mk q.2⟩, va_recv hK hP (ci := 1) (q0 := 0) rfl rfl, fun U hU hW => ⟨rfl, ⟨hEc U hU hW, ⟨by rw [hU], by rw [hU]; exact (hP.sub (ws' := (ww_X0_passAct cs ad raBk raR raT xR nT Bk R T)) [0, 1, 2, 3, 4, 13] rfl), va_K.moved hW.alike hK, (hD.sub (ws' := (ww_X0_passAct cs ad raBk raR raT xR nT Bk R T)) [0, 1, 2, 3, 4, 13] (by decide) rfl).weaken (fun _ _ _ _ => trivial), kN_warm hW hN⟩⟩⟩⟩ rfl rfl hl.1 rfl (lv_room (Nat.le_of_ble_eq_true rfl)) dX0_readMachineAct_48 ⟨Nat.le_refl _, Nat.le_refl _⟩) hP hD hS hA rfl rfl (wr := ((wX3 cs ad raO O))) rfl rfl rfl (nw := 14) rfl (by decide +kernel) rfl (fun H locs hP hD hS => ?_)
      obtain ⟨hc34, hf⟩ := ck_e hf
      have hf := Option.some.inj hf
      subst hf
      exact c_zret (v := v31) hx hb hr (kt_z (Decidable.not_not.mp hc34)) hlocks hP hK hD hS dX0_readMachineAct_51
  · have hf := (if_neg hb46).symm.trans hf
    refine lv_aload_n hx hb dX0_readMachineAct_10 rfl (lv_at hl 0 rfl) ?_
    refine lv_aload_n hx hb dX0_readMachineAct_11 rfl (lv_at hl 1 rfl) ?_
    refine lv_iconst (v := 0) hx hb dX0_readMachineAct_12 (by decide) ?_
    obtain ⟨v37, Bkv38, Rv39, hq36, hf⟩ := bo3_e hf
    have hEc := cE_sub (A1 := va_A (ww_X0_passAct cs ad raBk raR raT xR nT zD zD (fun _ => 0)) _) hE hS (cA_free (isC := [0, 1, 2, 3, 4, 13]) (wc := (ww_X0_passAct cs ad raBk raR raT xR nT Bk R T)) (wz := (ww_X0_passAct cs ad raBk raR raT xR nT zD zD (fun _ => 0))) rfl rfl hD hS hA)
    refine g_callw (isC := [0, 1, 2, 3, 4, 13]) (isR := [5, 6, 7, 8, 9, 10, 11, 12]) (wc := (ww_X0_passAct cs ad raBk raR raT xR nT Bk R T)) (wz := (ww_X0_passAct cs ad raBk raR raT xR nT zD zD (fun _ => 0))) (w1 := (ww_X0_passAct cs ad raBk raR raT xR nT Bkv38 Rv39 T)) (ws' := (ww_X0_readMachineAct cs ad raBk raR raO raT xR nT Bkv38 Rv39 O T)) (v := v37) (va_runV (As := [.ref (raR 0), .int (0 : Int32)]) (rest := []) ⟨hx, hb, hml, hown, hts⟩ (c_X0_passAct l dC dI cs ad raBk raR raT xR nT _ Bk R T (0 : Int32) (v37, Bkv38, Rv39) hq36) (cwV 2 hts gX0_readMachineAct_X0_passAct rfl rfl rfl (by decide +kernel) ⟨Nat.le_of_ble_eq_true rfl, Nat.le_of_ble_eq_true rfl⟩) ⟨fun a U g mk q => ⟨q.1, (fun _ _ _ _ => cPe_bl (fun h => cPw_bl h)) a U g mk q.2⟩, va_recv hK hP (ci := 1) (q0 := 0) rfl rfl, fun U hU hW => ⟨rfl, ⟨hEc U hU hW, ⟨by rw [hU], by rw [hU]; exact (hP.sub (ws' := (ww_X0_passAct cs ad raBk raR raT xR nT Bk R T)) [0, 1, 2, 3, 4, 13] rfl), va_K.moved hW.alike hK, (hD.sub (ws' := (ww_X0_passAct cs ad raBk raR raT xR nT Bk R T)) [0, 1, 2, 3, 4, 13] (by decide) rfl).weaken (fun _ _ _ _ => trivial), kN_warm hW hN⟩⟩⟩⟩ rfl rfl hl.1 rfl (lv_room (Nat.le_of_ble_eq_true rfl)) dX0_readMachineAct_13 ⟨Nat.le_refl _, Nat.le_refl _⟩) hP hD hS hA rfl rfl (wr := ((wX3 cs ad raO O))) rfl rfl rfl (nw := 14) rfl (by decide +kernel) rfl (fun H locs hP hD hS => ?_)
    refine lv_if_eq (tgt := 32) hx hb dX0_readMachineAct_16 (by decide) (fun hb45 => ?_) (fun hb45 => ?_)
    · have hf := (if_pos hb45).symm.trans hf
      refine lv_iconst (v := 0) hx hb dX0_readMachineAct_32 (by decide) ?_
      have hf := Option.some.inj hf
      subst hf
      exact c_zret (v := (0 : Int32)) hx hb hr rfl hlocks hP hK hD hS dX0_readMachineAct_33
    · have hf := (if_neg hb45).symm.trans hf
      refine lv_aload_n hx hb dX0_readMachineAct_19 rfl (lv_at hl 0 rfl) ?_
      refine lv_aload_n hx hb dX0_readMachineAct_20 rfl (lv_at hl 1 rfl) ?_
      refine lv_aload_n hx hb dX0_readMachineAct_21 rfl (lv_at hl 2 rfl) ?_
      obtain ⟨v41, Bkv42, Rv43, hq40, hf⟩ := bo3_e hf
      have hEc := cE_sub (A1 := va_A (ww_X0_passPhrase cs ad raBk raR raO raT xR nT zD zD zD (fun _ => 0)) _) hE hS (cA_free (isC := [0, 1, 2, 3, 4, 5, 6, 7, 8, 9, 10, 11, 12, 13]) (wc := (ww_X0_passPhrase cs ad raBk raR raO raT xR nT Bkv38 Rv39 O T)) (wz := (ww_X0_passPhrase cs ad raBk raR raO raT xR nT zD zD zD (fun _ => 0))) rfl rfl hD hS hA)
      refine g_callw (isC := [0, 1, 2, 3, 4, 5, 6, 7, 8, 9, 10, 11, 12, 13]) (isR := []) (wc := (ww_X0_passPhrase cs ad raBk raR raO raT xR nT Bkv38 Rv39 O T)) (wz := (ww_X0_passPhrase cs ad raBk raR raO raT xR nT zD zD zD (fun _ => 0))) (w1 := (ww_X0_passPhrase cs ad raBk raR raO raT xR nT Bkv42 Rv43 O T)) (ws' := (ww_X0_readMachineAct cs ad raBk raR raO raT xR nT Bkv42 Rv43 O T)) (v := v41) (va_runV (As := [.ref (raR 0), .ref (raO 0)]) (rest := []) ⟨hx, hb, hml, hown, hts⟩ (c_X0_passPhrase l dC dI cs ad raBk raR raO raT xR nT _ Bkv38 Rv39 O T (v41, Bkv42, Rv43) hq40) (cwV 2 hts gX0_readMachineAct_X0_passPhrase rfl rfl rfl (by decide +kernel) ⟨Nat.le_of_ble_eq_true rfl, Nat.le_of_ble_eq_true rfl⟩) ⟨fun a U g mk q => ⟨q.1, (fun _ _ _ _ => cPe_bl (fun h => cPw_bl h)) a U g mk q.2⟩, va_recv hK hP (ci := 1) (q0 := 0) rfl rfl, fun U hU hW => ⟨rfl, ⟨hEc U hU hW, ⟨by rw [hU], by rw [hU]; exact (hP.sub (ws' := (ww_X0_passPhrase cs ad raBk raR raO raT xR nT Bkv38 Rv39 O T)) [0, 1, 2, 3, 4, 5, 6, 7, 8, 9, 10, 11, 12, 13] rfl), va_K.moved hW.alike hK, (hD.sub (ws' := (ww_X0_passPhrase cs ad raBk raR raO raT xR nT Bkv38 Rv39 O T)) [0, 1, 2, 3, 4, 5, 6, 7, 8, 9, 10, 11, 12, 13] (by decide) rfl).weaken (fun _ _ _ _ => trivial), kN_warm hW hN⟩⟩⟩⟩ rfl rfl hl.1 rfl (lv_room (Nat.le_of_ble_eq_true rfl)) dX0_readMachineAct_22 ⟨Nat.le_refl _, Nat.le_refl _⟩) hP hD hS hA rfl rfl (wr := ([] : va_W)) rfl rfl rfl (nw := 14) rfl (by decide +kernel) rfl (fun H locs hP hD hS => ?_)
      refine lv_if_eq (tgt := 32) hx hb dX0_readMachineAct_25 (by decide) (fun hb44 => ?_) (fun hb44 => ?_)
      · have hf := (if_pos hb44).symm.trans hf
        refine lv_iconst (v := 0) hx hb dX0_readMachineAct_32 (by decide) ?_
        have hf := Option.some.inj hf
        subst hf
        exact c_zret (v := (0 : Int32)) hx hb hr rfl hlocks hP hK hD hS dX0_readMachineAct_33
      · have hf := (if_neg hb44).symm.trans hf
        refine lv_iconst (v := 1) hx hb dX0_readMachineAct_28 (by decide) ?_
        refine lv_goto (tgt := 33) hx hb dX0_readMachineAct_29 (by decide) ?_
        have hf := Option.some.inj hf
        subst hf
        exact c_zret (v := (1 : Int32)) hx hb hr rfl hlocks hP hK hD hS dX0_readMachineAct_33

def ww_X0_readLine (cs : Nat → ClassId) (ad : Nat → Nat) (raBk : Nat → Nat) (raR : Nat → Nat) (raO : Nat → Nat) (raT : Nat) (xR : Nat) (nT : Nat) (Bk : kD) (R : kD) (O : kD) (T : Nat → Int32) : va_W := (wX0 cs ad raBk Bk ++ (wX4 cs ad raR xR raT R ++ (wX3 cs ad raO O ++ ([(raT, .inl (cs 1, nT, .inl T))]))))
abbrev rm_X0_readLine : Room := { frames := 8, cells := 0, slots := 0, locals := 211 }
set_option maxHeartbeats 4000000 in
set_option maxRecDepth 100000 in
theorem c_X0_readLine (l : Launch) (dC : Nat → ClassId) (dI : Nat → Nat → Nat) (cs : Nat → ClassId) (ad : Nat → Nat) (raBk : Nat → Nat) (raR : Nat → Nat) (raO : Nat → Nat) (raT : Nat) (xR : Nat) (nT : Nat) (sz : Nat) (Bk : kD) (R : kD) (O : kD) (T : Nat → Int32) (r : Int32 × kD × kD) (hf : f_X0_readLine nT Bk R O T = some r) : Met l yX0_readLine wsX0_readLine rm_X0_readLine (va_Pc [.ref (raBk 0), .ref (raR 0), .ref (raO 0)] (cPe ad (va_A (ww_X0_readLine cs ad raBk raR raO raT xR nT zD zD zD (fun _ => 0)) sz) (cPw dC dI cs sz (ww_X0_readLine cs ad raBk raR raO raT xR nT Bk R O T)))) (cQi dC dI cs (va_A (ww_X0_readLine cs ad raBk raR raO raT xR nT zD zD zD (fun _ => 0)) sz) r.1 (ww_X0_readLine cs ad raBk raR raO raT xR nT r.2.1 r.2.2 O T)) 0 0 (va_A (ww_X0_readLine cs ad raBk raR raO raT xR nT zD zD zD (fun _ => 0)) sz) := by
  refine Met.ofW (cc := cX0_readLine) (maxL := 5) (ret := (some .boolean)) (by decide) rfl ?_
  intro p e s m args below meth c s₁ B hml hv
  obtain ⟨hav, hE, hsz, hP, hK, hD0, hN⟩ := hv
  have hx := B.exec
  have hb := B.bytes
  have hr := B.returns
  have hts := atoms_spec (ws := wsX0_readLine) B.pre
  have hown : s.vm.findClass RX0 = some m.cls := findClass_of_methodNamed B.named
  have hlocks := B.notSynchronized
  subst hsz
  have hA : ∀ q, s.heap.size ≤ q → va_A (ww_X0_readLine cs ad raBk raR raO raT xR nT zD zD zD (fun _ => 0)) s.heap.size q := fun q h => Or.inr h
  have hD : va_D (va_A (ww_X0_readLine cs ad raBk raR raO raT xR nT zD zD zD (fun _ => 0)) s.heap.size) (ww_X0_readLine cs ad raBk raR raO raT xR nT Bk R O T) := hD0.weaken (fun k q h _ => cA_in (ws := (ww_X0_readLine cs ad raBk raR raO raT xR nT Bk R O T)) (ws' := (ww_X0_readLine cs ad raBk raR raO raT xR nT zD zD zD (fun _ => 0))) rfl h)
  have hS : va_S (va_A (ww_X0_readLine cs ad raBk raR raO raT xR nT zD zD zD (fun _ => 0)) s.heap.size) s.heap s.heap [] := va_S.rf
  have hinX0 := (show ∀ w ∈ wsX00, w ∈ wsX0_readLine from fun w h => List.mem_cons_of_mem _ (List.mem_append_left _ (List.mem_append_right _ h)))
  have hinX3 := (show ∀ w ∈ wsX30, w ∈ wsX0_readLine from fun w h => List.mem_cons_of_mem _ (List.mem_append_left _ (List.mem_append_left _ (List.mem_append_right _ h))))
  have k_fieldLink_RX0_15__KeyLetters_Book___machines____I_ := hts (.fieldLink RX0 15 "KeyLetters$Book" "machines" "[I") (List.mem_of_getElem? (i := 4) rfl)
  have k_fieldLink_RX0_18__KeyLetters_Book___numbers____I_ := hts (.fieldLink RX0 18 "KeyLetters$Book" "numbers" "[I") (List.mem_of_getElem? (i := 5) rfl)
  have k_fieldLink_RX0_21__KeyLetters_Book___lines___I_ := hts (.fieldLink RX0 21 "KeyLetters$Book" "lines" "I") (List.mem_of_getElem? (i := 3) rfl)
  have k_initialized_RX4 := hts (.initialized RX4) (List.mem_of_getElem? (i := 7) rfl)
  have k_instanceMethod_yX4_advance := hts (.instanceMethod yX4_advance) (List.mem_of_getElem? (i := 28) rfl)
  have k_instanceMethod_yX4_neededOf := hts (.instanceMethod yX4_neededOf) (List.mem_of_getElem? (i := 12) rfl)
  have k_instanceMethod_yX4_refuse := hts (.instanceMethod yX4_refuse) (List.mem_of_getElem? (i := 19) rfl)
  have k_instanceMethod_yX4_seesWord := hts (.instanceMethod yX4_seesWord) (List.mem_of_getElem? (i := 6) rfl)
  have k_selects_RX4_yX4_advance_yX4_advance := hts (.selects RX4 yX4_advance yX4_advance) (List.mem_of_getElem? (i := 29) rfl)
  have k_selects_RX4_yX4_neededOf_yX4_neededOf := hts (.selects RX4 yX4_neededOf yX4_neededOf) (List.mem_of_getElem? (i := 13) rfl)
  have k_selects_RX4_yX4_refuse_yX4_refuse := hts (.selects RX4 yX4_refuse yX4_refuse) (List.mem_of_getElem? (i := 20) rfl)
  have k_selects_RX4_yX4_seesWord_yX4_seesWord := hts (.selects RX4 yX4_seesWord yX4_seesWord) (List.mem_of_getElem? (i := 8) rfl)
  have keldLink_RX0_42__KeyLetters_Word___CLEAR___LKeyLetters_Word__ := hts (.fieldLink RX0 42 "KeyLetters$Word" "CLEAR" "LKeyLetters$Word;") (List.mem_of_getElem? (i := 1) rfl)
  have kfieldLink_RX0_52__KeyLetters_Word___DAY___LKeyLetters_Word__ := hts (.fieldLink RX0 52 "KeyLetters$Word" "DAY" "LKeyLetters$Word;") (List.mem_of_getElem? (i := 2) rfl)
  have hl := lv_entry ([.ref (raBk 0), .ref (raR 0), .ref (raO 0)]) (n := 5) (Nat.le_of_ble_eq_true rfl)
  rw [show entryFrame m args 5 = entryFrame m ([.ref (raBk 0), .ref (raR 0), .ref (raO 0)] : List Value).toArray 5 from by rw [hav], lg_entry_eq]
  generalize (lg_sl ([.ref (raBk 0), .ref (raR 0), .ref (raO 0)]) ++ List.replicate (5 - (lg_sl ([.ref (raBk 0), .ref (raR 0), .ref (raO 0)])).length) Slot.unset).toArray = ls at hl ⊢
  have hl : lv_has ls 5 [(0, .ref (raBk 0)), (1, .ref (raR 0)), (2, .ref (raO 0))] := hl
  unfold f_X0_readLine at hf
  have h_25 : ∀ (t0_25 : Int32) (Bk_25 : kD) (R_25 : kD) (ls : Array Slot) (H : Heap) (locs : List Loc), lv_has ls 5 [(0, .ref (raBk 0)), (1, .ref (raR 0)), (2, .ref (raO 0))] → va_P (dC, dI) vwCl (ww_X0_readLine cs ad raBk raR raO raT xR nT Bk_25 R_25 O T) H → va_D (va_A (ww_X0_readLine cs ad raBk raR raO raT xR nT zD zD zD (fun _ => 0)) s.heap.size) (ww_X0_readLine cs ad raBk raR raO raT xR nT Bk_25 R_25 O T) → va_S (va_A (ww_X0_readLine cs ad raBk raR raO raT xR nT zD zD zD (fun _ => 0)) s.heap.size) s.heap H locs → g_X0_readLine_25 nT O T t0_25 Bk_25 R_25 = some r → W p l e (headSpec wsX0_readLine rm_X0_readLine).room s m args below meth c H locs 0 0 (MQ below (cQi dC dI cs (va_A (ww_X0_readLine cs ad raBk raR raO raT xR nT zD zD zD (fun _ => 0)) s.heap.size) r.1 (ww_X0_readLine cs ad raBk raR raO raT xR nT r.2.1 r.2.2 O T)) args s 0 0 (va_A (ww_X0_readLine cs ad raBk raR raO raT xR nT zD zD zD (fun _ => 0)) s.heap.size)) (F0 m 25 ls [.int t0_25]) := by
    intro t0_25 Bk_25 R_25 ls H locs hl hP hD hS hf
    unfold g_X0_readLine_25 at hf
    have h_46 : ∀ (x3_46 : Int32) (t0_46 : Int32) (Bk_46 : kD) (R_46 : kD) (ls : Array Slot) (H : Heap) (locs : List Loc), lv_has ls 5 [(0, .ref (raBk 0)), (1, .ref (raR 0)), (2, .ref (raO 0)), (3, .int x3_46)] → va_P (dC, dI) vwCl (ww_X0_readLine cs ad raBk raR raO raT xR nT Bk_46 R_46 O T) H → va_D (va_A (ww_X0_readLine cs ad raBk raR raO raT xR nT zD zD zD (fun _ => 0)) s.heap.size) (ww_X0_readLine cs ad raBk raR raO raT xR nT Bk_46 R_46 O T) → va_S (va_A (ww_X0_readLine cs ad raBk raR raO raT xR nT zD zD zD (fun _ => 0)) s.heap.size) s.heap H locs → g_X0_readLine_46 nT O T x3_46 t0_46 Bk_46 R_46 = some r → W p l e (headSpec wsX0_readLine rm_X0_readLine).room s m args below meth c H locs 0 0 (MQ below (cQi dC dI cs (va_A (ww_X0_readLine cs ad raBk raR raO raT xR nT zD zD zD (fun _ => 0)) s.heap.size) r.1 (ww_X0_readLine cs ad raBk raR raO raT xR nT r.2.1 r.2.2 O T)) args s 0 0 (va_A (ww_X0_readLine cs ad raBk raR raO raT xR nT zD zD zD (fun _ => 0)) s.heap.size)) (F0 m 46 ls [.int t0_46]) := by
      intro x3_46 t0_46 Bk_46 R_46 ls H locs hl hP hD hS hf
      unfold g_X0_readLine_46 at hf
      have h_60 : ∀ (x3_60 : Int32) (x4_60 : Int32) (Bk_60 : kD) (R_60 : kD) (ls : Array Slot) (H : Heap) (locs : List Loc), lv_has ls 5 [(0, .ref (raBk 0)), (1, .ref (raR 0)), (2, .ref (raO 0)), (3, .int x3_60), (4, .int x4_60)] → va_P (dC, dI) vwCl (ww_X0_readLine cs ad raBk raR raO raT xR nT Bk_60 R_60 O T) H → va_D (va_A (ww_X0_readLine cs ad raBk raR raO raT xR nT zD zD zD (fun _ => 0)) s.heap.size) (ww_X0_readLine cs ad raBk raR raO raT xR nT Bk_60 R_60 O T) → va_S (va_A (ww_X0_readLine cs ad raBk raR raO raT xR nT zD zD zD (fun _ => 0)) s.heap.size) s.heap H locs → g_X0_readLine_60 nT O T x3_60 x4_60 Bk_60 R_60 = some r → W p l e (headSpec wsX0_readLine rm_X0_readLine).room s m args below meth c H locs 0 0 (MQ below (cQi dC dI cs (va_A (ww_X0_readLine cs ad raBk raR raO raT xR nT zD zD zD (fun _ => 0)) s.heap.size) r.1 (ww_X0_readLine cs ad raBk raR raO raT xR nT r.2.1 r.2.2 O T)) args s 0 0 (va_A (ww_X0_readLine cs ad raBk raR raO raT xR nT zD zD zD (fun _ => 0)) s.heap.size)) (F0 m 60 ls []) := by
        intro x3_60 x4_60 Bk_60 R_60 ls H locs hl hP hD hS hf
        unfold g_X0_readLine_60 at hf
        refine lv_aload_n hx hb dX0_readLine_60 rfl (lv_at hl 0 rfl) ?_
        refine va_get (D := (dC, dI)) (ci := 1) (C := RX0) (T := TX0) (N := 6) hx hb hts hinX0 hown hK hP 0 rfl rfl 0 (by decide) (v := .int (Bk_60.1 0 0)) k_fieldLink_RX0_21__KeyLetters_Book___lines___I_ (fun _ h9 => h9) rfl dX0_readLine_61 ?_
        refine lv_bipush (v := 40) hx hb dX0_readLine_64 (by decide) ?_
        refine lv_icmp_lt (tgt := 75) hx hb dX0_readLine_66 (by decide) (fun hb36 => ?_) (fun hb36 => ?_)
        · have hf := (if_pos hb36).symm.trans hf
          refine lv_aload_n hx hb dX0_readLine_75 rfl (lv_at hl 0 rfl) ?_
          refine va_get (D := (dC, dI)) (ci := 1) (C := RX0) (T := TX0) (N := 6) hx hb hts hinX0 hown hK hP 0 rfl rfl 4 (by decide) (v := .ref (raBk 4)) k_fieldLink_RX0_15__KeyLetters_Book___machines____I_ (fun _ h9 => h9) rfl dX0_readLine_76 ?_
          refine lv_aload_n hx hb dX0_readLine_79 rfl (lv_at hl 0 rfl) ?_
          refine va_get (D := (dC, dI)) (ci := 1) (C := RX0) (T := TX0) (N := 6) hx hb hts hinX0 hown hK hP 0 rfl rfl 0 (by decide) (v := .int (Bk_60.1 0 0)) k_fieldLink_RX0_21__KeyLetters_Book___lines___I_ (fun _ h9 => h9) rfl dX0_readLine_80 ?_
          refine lv_iload hx hb dX0_readLine_83 (lv_at hl 4 rfl) ?_
          obtain ⟨hc1, hf⟩ := ck_e hf
          obtain ⟨Bkv2, eBkv2, hf⟩ := bd1_e hf
          refine va_iast hx hb hK hP hD hS 2 1 rfl rfl hc1 dX0_readLine_85 (fun H locs hP hD hS => ?_)
          have hP : va_P (dC, dI) vwCl (ww_X0_readLine cs ad raBk raR raO raT xR nT Bkv2 R_60 O T) H := g_toP (by rw [eBkv2]; rfl) hP
          have hD : va_D (va_A (ww_X0_readLine cs ad raBk raR raO raT xR nT zD zD zD (fun _ => 0)) s.heap.size) (ww_X0_readLine cs ad raBk raR raO raT xR nT Bkv2 R_60 O T) := g_toD (by rw [eBkv2]; rfl) hD
          refine lv_aload_n hx hb dX0_readLine_86 rfl (lv_at hl 0 rfl) ?_
          refine va_get (D := (dC, dI)) (ci := 1) (C := RX0) (T := TX0) (N := 6) hx hb hts hinX0 hown hK hP 0 rfl rfl 5 (by decide) (v := .ref (raBk 5)) k_fieldLink_RX0_18__KeyLetters_Book___numbers____I_ (fun _ h9 => h9) rfl dX0_readLine_87 ?_
          refine lv_aload_n hx hb dX0_readLine_90 rfl (lv_at hl 0 rfl) ?_
          refine va_get (D := (dC, dI)) (ci := 1) (C := RX0) (T := TX0) (N := 6) hx hb hts hinX0 hown hK hP 0 rfl rfl 0 (by decide) (v := .int (Bkv2.1 0 0)) k_fieldLink_RX0_21__KeyLetters_Book___lines___I_ (fun _ h9 => h9) rfl dX0_readLine_91 ?_
          refine lv_iconst (v := 0) hx hb dX0_readLine_94 (by decide) ?_
          obtain ⟨hc3, hf⟩ := ck_e hf
          obtain ⟨Bkv4, eBkv4, hf⟩ := bd1_e hf
          refine va_iast hx hb hK hP hD hS 3 1 rfl rfl hc3 dX0_readLine_95 (fun H locs hP hD hS => ?_)
          have hP : va_P (dC, dI) vwCl (ww_X0_readLine cs ad raBk raR raO raT xR nT Bkv4 R_60 O T) H := g_toP (by rw [eBkv4]; rfl) hP
          have hD : va_D (va_A (ww_X0_readLine cs ad raBk raR raO raT xR nT zD zD zD (fun _ => 0)) s.heap.size) (ww_X0_readLine cs ad raBk raR raO raT xR nT Bkv4 R_60 O T) := g_toD (by rw [eBkv4]; rfl) hD
          refine lv_aload_n hx hb dX0_readLine_96 rfl (lv_at hl 0 rfl) ?_
          refine lv_dup hx hb dX0_readLine_97 rfl ?_
          refine va_get (D := (dC, dI)) (ci := 1) (C := RX0) (T := TX0) (N := 6) hx hb hts hinX0 hown hK hP 0 rfl rfl 0 (by decide) (v := .int (Bkv4.1 0 0)) k_fieldLink_RX0_21__KeyLetters_Book___lines___I_ (fun _ h9 => h9) rfl dX0_readLine_98 ?_
          refine lv_iconst (v := 1) hx hb dX0_readLine_101 (by decide) ?_
          refine lv_iadd hx hb dX0_readLine_102 ?_
          obtain ⟨Bkv5, eBkv5, hf⟩ := bd1_e hf
          refine g_put (D := (dC, dI)) (ci := 1) (C := RX0) (T := TX0) (N := 6) hx hb hts hinX0 tyX0 tyX0_ok nmX0 hown hK hP hD hS 0 rfl rfl 0 (by decide) k_fieldLink_RX0_21__KeyLetters_Book___lines___I_ (fun _ h9 => h9) rfl (ty := .int) (v := .int ((Bkv4.1 0 0) + (1 : Int32))) (by decide +kernel) rfl rfl (Nat.le_of_ble_eq_true rfl) (ws' := (ww_X0_readLine cs ad raBk raR raO raT xR nT Bkv5 R_60 O T)) (by rw [eBkv5]; rfl) dX0_readLine_103 (fun H locs hP hD hS => ?_)
          refine lv_iload_n hx hb dX0_readLine_106 rfl (lv_at hl 3 rfl) ?_
          refine lv_if_eq (tgt := 121) hx hb dX0_readLine_107 (by decide) (fun hb31 => ?_) (fun hb31 => ?_)
          · have hf := (if_pos hb31).symm.trans hf
            refine lv_aload_n hx hb dX0_readLine_121 rfl (lv_at hl 1 rfl) ?_
            refine va_gets hx hb (show va_Z "KeyLetters$Word" "CLEAR" "LKeyLetters$Word;" (.ref (ad 9)) _ s s.heap from (hE.1.1 9 (by decide)).1) hS hown keldLink_RX0_42__KeyLetters_Word___CLEAR___LKeyLetters_Word__ (fun _ h9 => h9) dX0_readLine_122 ?_
            obtain ⟨v7, hq6, hf⟩ := bo_e hf
            have hEc := cE_subF hE hS
            refine ko_call (v := some (.int v7)) (va_runVN (As := [.ref (ad (9 : Int32).toNatClampNeg)]) (rest := []) ⟨hx, hb, hml, hown, hts⟩ (c_X4_seesWord l dC dI cs ad raR raT xR nT R_60 T (9 : Int32) v7 hq6) ⟨va_cnB 1 hts gX0_readLine_X4_seesWord_n48 rfl rfl rfl (hN _ (List.mem_of_getElem? (i := 122) rfl)) k_initialized_RX4 (by decide +kernel) ⟨Nat.le_of_ble_eq_true rfl, Nat.le_of_ble_eq_true rfl⟩, k_instanceMethod_yX4_seesWord, k_selects_RX4_yX4_seesWord_yX4_seesWord⟩ ⟨fun a U g mk q => ⟨q.1, (fun _ _ _ _ => cPe_bl (fun h => cPr_bl h)) a U g mk q.2⟩, va_recv hK hP (ci := 5) (q0 := 4) rfl rfl, fun U hU hW => ⟨rfl, ⟨hEc U hU hW, ⟨by rw [hU]; exact (hP.sub (ws' := (ww_X4_seesWord cs ad raR raT xR nT R_60 T)) [4, 13] rfl), va_K.moved hW.alike hK, kN_warm hW hN⟩⟩⟩⟩ rfl rfl hl.1 rfl (lv_room (Nat.le_of_ble_eq_true rfl)) dX0_readLine_125 ⟨Nat.le_refl _, Nat.le_refl _⟩) ?_
            refine lv_if_eq (tgt := 139) hx hb dX0_readLine_128 (by decide) (fun hb23 => ?_) (fun hb23 => ?_)
            · have hf := (if_pos hb23).symm.trans hf
              refine lv_aload_n hx hb dX0_readLine_139 rfl (lv_at hl 0 rfl) ?_
              refine lv_aload_n hx hb dX0_readLine_140 rfl (lv_at hl 1 rfl) ?_
              refine lv_bipush (v := 50) hx hb dX0_readLine_141 (by decide) ?_
              obtain ⟨v9, Bkv10, Rv11, hq8, hf⟩ := bo3_e hf
              have hEc := cE_sub (A1 := va_A (ww_X0_passAct cs ad raBk raR raT xR nT zD zD (fun _ => 0)) _) hE hS (cA_free (isC := [0, 1, 2, 3, 4, 13]) (wc := (ww_X0_passAct cs ad raBk raR raT xR nT Bkv5 R_60 T)) (wz := (ww_X0_passAct cs ad raBk raR raT xR nT zD zD (fun _ => 0))) rfl rfl hD hS hA)
              refine g_callw (isC := [0, 1, 2, 3, 4, 13]) (isR := [5, 6, 7, 8, 9, 10, 11, 12]) (wc := (ww_X0_passAct cs ad raBk raR raT xR nT Bkv5 R_60 T)) (wz := (ww_X0_passAct cs ad raBk raR raT xR nT zD zD (fun _ => 0))) (w1 := (ww_X0_passAct cs ad raBk raR raT xR nT Bkv10 Rv11 T)) (ws' := (ww_X0_readLine cs ad raBk raR raO raT xR nT Bkv10 Rv11 O T)) (v := v9) (va_runV (As := [.ref (raR 0), .int (50 : Int32)]) (rest := []) ⟨hx, hb, hml, hown, hts⟩ (c_X0_passAct l dC dI cs ad raBk raR raT xR nT _ Bkv5 R_60 T (50 : Int32) (v9, Bkv10, Rv11) hq8) (cwV 2 hts gX0_readLine_X0_passAct rfl rfl rfl (by decide +kernel) ⟨Nat.le_of_ble_eq_true rfl, Nat.le_of_ble_eq_true rfl⟩) ⟨fun a U g mk q => ⟨q.1, (fun _ _ _ _ => cPe_bl (fun h => cPw_bl h)) a U g mk q.2⟩, va_recv hK hP (ci := 1) (q0 := 0) rfl rfl, fun U hU hW => ⟨rfl, ⟨hEc U hU hW, ⟨by rw [hU], by rw [hU]; exact (hP.sub (ws' := (ww_X0_passAct cs ad raBk raR raT xR nT Bkv5 R_60 T)) [0, 1, 2, 3, 4, 13] rfl), va_K.moved hW.alike hK, (hD.sub (ws' := (ww_X0_passAct cs ad raBk raR raT xR nT Bkv5 R_60 T)) [0, 1, 2, 3, 4, 13] (by decide) rfl).weaken (fun _ _ _ _ => trivial), kN_warm hW hN⟩⟩⟩⟩ rfl rfl hl.1 rfl (lv_room (Nat.le_of_ble_eq_true rfl)) dX0_readLine_143 ⟨Nat.le_refl _, Nat.le_refl _⟩) hP hD hS hA rfl rfl (wr := ((wX3 cs ad raO O))) rfl rfl rfl (nw := 14) rfl (by decide +kernel) rfl (fun H locs hP hD hS => ?_)
              refine lv_if_eq (tgt := 163) hx hb dX0_readLine_146 (by decide) (fun hb17 => ?_) (fun hb17 => ?_)
              · have hf := (if_pos hb17).symm.trans hf
                refine lv_iconst (v := 0) hx hb dX0_readLine_163 (by decide) ?_
                have hf := Option.some.inj hf
                subst hf
                exact c_zret (v := (0 : Int32)) hx hb hr rfl hlocks hP hK hD hS dX0_readLine_164
              · have hf := (if_neg hb17).symm.trans hf
                refine lv_aload_n hx hb dX0_readLine_149 rfl (lv_at hl 0 rfl) ?_
                refine lv_aload_n hx hb dX0_readLine_150 rfl (lv_at hl 1 rfl) ?_
                refine lv_bipush (v := 60) hx hb dX0_readLine_151 (by decide) ?_
                obtain ⟨v13, Bkv14, Rv15, hq12, hf⟩ := bo3_e hf
                have hEc := cE_sub (A1 := va_A (ww_X0_passNumber cs ad raBk raR raT xR nT zD zD (fun _ => 0)) _) hE hS (cA_free (isC := [0, 1, 2, 3, 4, 13]) (wc := (ww_X0_passNumber cs ad raBk raR raT xR nT Bkv10 Rv11 T)) (wz := (ww_X0_passNumber cs ad raBk raR raT xR nT zD zD (fun _ => 0))) rfl rfl hD hS hA)
                refine g_callw (isC := [0, 1, 2, 3, 4, 13]) (isR := [5, 6, 7, 8, 9, 10, 11, 12]) (wc := (ww_X0_passNumber cs ad raBk raR raT xR nT Bkv10 Rv11 T)) (wz := (ww_X0_passNumber cs ad raBk raR raT xR nT zD zD (fun _ => 0))) (w1 := (ww_X0_passNumber cs ad raBk raR raT xR nT Bkv14 Rv15 T)) (ws' := (ww_X0_readLine cs ad raBk raR raO raT xR nT Bkv14 Rv15 O T)) (v := v13) (va_runV (As := [.ref (raR 0), .int (60 : Int32)]) (rest := []) ⟨hx, hb, hml, hown, hts⟩ (c_X0_passNumber l dC dI cs ad raBk raR raT xR nT _ Bkv10 Rv11 T (60 : Int32) (v13, Bkv14, Rv15) hq12) (cwV 2 hts gX0_readLine_X0_passNumber rfl rfl rfl (by decide +kernel) ⟨Nat.le_of_ble_eq_true rfl, Nat.le_of_ble_eq_true rfl⟩) ⟨fun a U g mk q => ⟨q.1, (fun _ _ _ _ => cPe_bl (fun h => cPw_bl h)) a U g mk q.2⟩, va_recv hK hP (ci := 1) (q0 := 0) rfl rfl, fun U hU hW => ⟨rfl, ⟨hEc U hU hW, ⟨by rw [hU], by rw [hU]; exact (hP.sub (ws' := (ww_X0_passNumber cs ad raBk raR raT xR nT Bkv10 Rv11 T)) [0, 1, 2, 3, 4, 13] rfl), va_K.moved hW.alike hK, (hD.sub (ws' := (ww_X0_passNumber cs ad raBk raR raT xR nT Bkv10 Rv11 T)) [0, 1, 2, 3, 4, 13] (by decide) rfl).weaken (fun _ _ _ _ => trivial), kN_warm hW hN⟩⟩⟩⟩ rfl rfl hl.1 rfl (lv_room (Nat.le_of_ble_eq_true rfl)) dX0_readLine_153 ⟨Nat.le_refl _, Nat.le_refl _⟩) hP hD hS hA rfl rfl (wr := ((wX3 cs ad raO O))) rfl rfl rfl (nw := 14) rfl (by decide +kernel) rfl (fun H locs hP hD hS => ?_)
                refine lv_if_eq (tgt := 163) hx hb dX0_readLine_156 (by decide) (fun hb16 => ?_) (fun hb16 => ?_)
                · have hf := (if_pos hb16).symm.trans hf
                  refine lv_iconst (v := 0) hx hb dX0_readLine_163 (by decide) ?_
                  have hf := Option.some.inj hf
                  subst hf
                  exact c_zret (v := (0 : Int32)) hx hb hr rfl hlocks hP hK hD hS dX0_readLine_164
                · have hf := (if_neg hb16).symm.trans hf
                  refine lv_iconst (v := 1) hx hb dX0_readLine_159 (by decide) ?_
                  refine lv_goto (tgt := 164) hx hb dX0_readLine_160 (by decide) ?_
                  have hf := Option.some.inj hf
                  subst hf
                  exact c_zret (v := (1 : Int32)) hx hb hr rfl hlocks hP hK hD hS dX0_readLine_164
            · have hf := (if_neg hb23).symm.trans hf
              refine lv_aload_n hx hb dX0_readLine_131 rfl (lv_at hl 0 rfl) ?_
              refine lv_aload_n hx hb dX0_readLine_132 rfl (lv_at hl 1 rfl) ?_
              refine lv_bipush (v := 40) hx hb dX0_readLine_133 (by decide) ?_
              obtain ⟨v19, Bkv20, Rv21, hq18, hf⟩ := bo3_e hf
              have hEc := cE_sub (A1 := va_A (ww_X0_passAct cs ad raBk raR raT xR nT zD zD (fun _ => 0)) _) hE hS (cA_free (isC := [0, 1, 2, 3, 4, 13]) (wc := (ww_X0_passAct cs ad raBk raR raT xR nT Bkv5 R_60 T)) (wz := (ww_X0_passAct cs ad raBk raR raT xR nT zD zD (fun _ => 0))) rfl rfl hD hS hA)
              refine g_callw (isC := [0, 1, 2, 3, 4, 13]) (isR := [5, 6, 7, 8, 9, 10, 11, 12]) (wc := (ww_X0_passAct cs ad raBk raR raT xR nT Bkv5 R_60 T)) (wz := (ww_X0_passAct cs ad raBk raR raT xR nT zD zD (fun _ => 0))) (w1 := (ww_X0_passAct cs ad raBk raR raT xR nT Bkv20 Rv21 T)) (ws' := (ww_X0_readLine cs ad raBk raR raO raT xR nT Bkv20 Rv21 O T)) (v := v19) (va_runV (As := [.ref (raR 0), .int (40 : Int32)]) (rest := []) ⟨hx, hb, hml, hown, hts⟩ (c_X0_passAct l dC dI cs ad raBk raR raT xR nT _ Bkv5 R_60 T (40 : Int32) (v19, Bkv20, Rv21) hq18) (cwV 2 hts gX0_readLine_X0_passAct rfl rfl rfl (by decide +kernel) ⟨Nat.le_of_ble_eq_true rfl, Nat.le_of_ble_eq_true rfl⟩) ⟨fun a U g mk q => ⟨q.1, (fun _ _ _ _ => cPe_bl (fun h => cPw_bl h)) a U g mk q.2⟩, va_recv hK hP (ci := 1) (q0 := 0) rfl rfl, fun U hU hW => ⟨rfl, ⟨hEc U hU hW, ⟨by rw [hU], by rw [hU]; exact (hP.sub (ws' := (ww_X0_passAct cs ad raBk raR raT xR nT Bkv5 R_60 T)) [0, 1, 2, 3, 4, 13] rfl), va_K.moved hW.alike hK, (hD.sub (ws' := (ww_X0_passAct cs ad raBk raR raT xR nT Bkv5 R_60 T)) [0, 1, 2, 3, 4, 13] (by decide) rfl).weaken (fun _ _ _ _ => trivial), kN_warm hW hN⟩⟩⟩⟩ rfl rfl hl.1 rfl (lv_room (Nat.le_of_ble_eq_true rfl)) dX0_readLine_135 ⟨Nat.le_refl _, Nat.le_refl _⟩) hP hD hS hA rfl rfl (wr := ((wX3 cs ad raO O))) rfl rfl rfl (nw := 14) rfl (by decide +kernel) rfl (fun H locs hP hD hS => ?_)
              obtain ⟨hc22, hf⟩ := ck_e hf
              have hf := Option.some.inj hf
              subst hf
              exact c_zret (v := v19) hx hb hr (kt_z (Decidable.not_not.mp hc22)) hlocks hP hK hD hS dX0_readLine_138
          · have hf := (if_neg hb31).symm.trans hf
            refine lv_aload_n hx hb dX0_readLine_110 rfl (lv_at hl 1 rfl) ?_
            obtain ⟨Rv25, hq24, hf⟩ := bo_e hf
            have hEc := cE_sub (A1 := va_A (ww_X4_advance cs ad raR raT xR nT zD (fun _ => 0)) _) hE hS (cA_free (isC := [4, 13]) (wc := (ww_X4_advance cs ad raR raT xR nT R_60 T)) (wz := (ww_X4_advance cs ad raR raT xR nT zD (fun _ => 0))) rfl rfl hD hS hA)
            refine g_callv (isC := [4, 13]) (isR := [0, 1, 2, 3, 5, 6, 7, 8, 9, 10, 11, 12]) (wc := (ww_X4_advance cs ad raR raT xR nT R_60 T)) (wz := (ww_X4_advance cs ad raR raT xR nT zD (fun _ => 0))) (w1 := (ww_X4_advance cs ad raR raT xR nT Rv25 T)) (ws' := (ww_X0_readLine cs ad raBk raR raO raT xR nT Bkv5 Rv25 O T)) (va_runVN (As := []) (rest := []) ⟨hx, hb, hml, hown, hts⟩ (c_X4_advance l dC dI cs ad raR raT xR nT _ R_60 T Rv25 hq24) ⟨va_cnB 0 hts gX0_readLine_X4_advance_n70 rfl rfl rfl (hN _ (List.mem_of_getElem? (i := 125) rfl)) k_initialized_RX4 (by decide +kernel) ⟨Nat.le_of_ble_eq_true rfl, Nat.le_of_ble_eq_true rfl⟩, k_instanceMethod_yX4_advance, k_selects_RX4_yX4_advance_yX4_advance⟩ ⟨fun a U g mk q => ⟨q.1, (fun _ _ _ _ => cPe_bl (fun h => cPw_bl h)) a U g mk q.2⟩, va_recv hK hP (ci := 5) (q0 := 4) rfl rfl, fun U hU hW => ⟨rfl, ⟨hEc U hU hW, ⟨by rw [hU], by rw [hU]; exact (hP.sub (ws' := (ww_X4_advance cs ad raR raT xR nT R_60 T)) [4, 13] rfl), va_K.moved hW.alike hK, (hD.sub (ws' := (ww_X4_advance cs ad raR raT xR nT R_60 T)) [4, 13] (by decide) rfl).weaken (fun _ _ _ _ => trivial), kN_warm hW hN⟩⟩⟩⟩ rfl rfl hl.1 rfl (lv_room (Nat.le_of_ble_eq_true rfl)) dX0_readLine_111 ⟨Nat.le_refl _, Nat.le_refl _⟩) hP hD hS hA rfl rfl (wr := ((wX0 cs ad raBk Bkv5) ++ ((wX3 cs ad raO O)))) rfl rfl rfl (nw := 14) rfl (by decide +kernel) rfl (fun H locs hP hD hS => ?_)
            refine lv_aload_n hx hb dX0_readLine_114 rfl (lv_at hl 0 rfl) ?_
            refine lv_aload_n hx hb dX0_readLine_115 rfl (lv_at hl 1 rfl) ?_
            refine lv_aload_n hx hb dX0_readLine_116 rfl (lv_at hl 2 rfl) ?_
            obtain ⟨v27, Bkv28, Rv29, hq26, hf⟩ := bo3_e hf
            have hEc := cE_sub (A1 := va_A (ww_X0_readMachineAct cs ad raBk raR raO raT xR nT zD zD zD (fun _ => 0)) _) hE hS (cA_free (isC := [0, 1, 2, 3, 4, 5, 6, 7, 8, 9, 10, 11, 12, 13]) (wc := (ww_X0_readMachineAct cs ad raBk raR raO raT xR nT Bkv5 Rv25 O T)) (wz := (ww_X0_readMachineAct cs ad raBk raR raO raT xR nT zD zD zD (fun _ => 0))) rfl rfl hD hS hA)
            refine g_callw (isC := [0, 1, 2, 3, 4, 5, 6, 7, 8, 9, 10, 11, 12, 13]) (isR := []) (wc := (ww_X0_readMachineAct cs ad raBk raR raO raT xR nT Bkv5 Rv25 O T)) (wz := (ww_X0_readMachineAct cs ad raBk raR raO raT xR nT zD zD zD (fun _ => 0))) (w1 := (ww_X0_readMachineAct cs ad raBk raR raO raT xR nT Bkv28 Rv29 O T)) (ws' := (ww_X0_readLine cs ad raBk raR raO raT xR nT Bkv28 Rv29 O T)) (v := v27) (va_runV (As := [.ref (raR 0), .ref (raO 0)]) (rest := []) ⟨hx, hb, hml, hown, hts⟩ (c_X0_readMachineAct l dC dI cs ad raBk raR raO raT xR nT _ Bkv5 Rv25 O T (v27, Bkv28, Rv29) hq26) (cwV 2 hts gX0_readLine_X0_readMachineAct rfl rfl rfl (by decide +kernel) ⟨Nat.le_of_ble_eq_true rfl, Nat.le_of_ble_eq_true rfl⟩) ⟨fun a U g mk q => ⟨q.1, (fun _ _ _ _ => cPe_bl (fun h => cPw_bl h)) a U g mk q.2⟩, va_recv hK hP (ci := 1) (q0 := 0) rfl rfl, fun U hU hW => ⟨rfl, ⟨hEc U hU hW, ⟨by rw [hU], by rw [hU]; exact (hP.sub (ws' := (ww_X0_readMachineAct cs ad raBk raR raO raT xR nT Bkv5 Rv25 O T)) [0, 1, 2, 3, 4, 5, 6, 7, 8, 9, 10, 11, 12, 13] rfl), va_K.moved hW.alike hK, (hD.sub (ws' := (ww_X0_readMachineAct cs ad raBk raR raO raT xR nT Bkv5 Rv25 O T)) [0, 1, 2, 3, 4, 5, 6, 7, 8, 9, 10, 11, 12, 13] (by decide) rfl).weaken (fun _ _ _ _ => trivial), kN_warm hW hN⟩⟩⟩⟩ rfl rfl hl.1 rfl (lv_room (Nat.le_of_ble_eq_true rfl)) dX0_readLine_117 ⟨Nat.le_refl _, Nat.le_refl _⟩) hP hD hS hA rfl rfl (wr := ([] : va_W)) rfl rfl rfl (nw := 14) rfl (by decide +kernel) rfl (fun H locs hP hD hS => ?_)
            obtain ⟨hc30, hf⟩ := ck_e hf
            have hf := Option.some.inj hf
            subst hf
            exact c_zret (v := v27) hx hb hr (kt_z (Decidable.not_not.mp hc30)) hlocks hP hK hD hS dX0_readLine_120
        · have hf := (if_neg hb36).symm.trans hf
          refine lv_aload_n hx hb dX0_readLine_69 rfl (lv_at hl 1 rfl) ?_
          refine lv_iconst (v := 4) hx hb dX0_readLine_70 (by decide) ?_
          obtain ⟨v33, Rv34, hq32, hf⟩ := bo2_e hf
          refine g_callw (isC := [4, 13]) (isR := [0, 1, 2, 3, 5, 6, 7, 8, 9, 10, 11, 12]) (wc := (ww_X4_refuse cs ad raR raT xR nT R_60 T)) (wz := (ww_X4_refuse cs ad raR raT xR nT zD (fun _ => 0))) (w1 := (ww_X4_refuse cs ad raR raT xR nT Rv34 T)) (ws' := (ww_X0_readLine cs ad raBk raR raO raT xR nT Bk_60 Rv34 O T)) (v := v33) (va_runVN (As := [.int (4 : Int32)]) (rest := []) ⟨hx, hb, hml, hown, hts⟩ (c_X4_refuse l dC dI cs ad raR raT xR nT _ R_60 T (4 : Int32) (v33, Rv34) hq32) ⟨va_cnB 1 hts gX0_readLine_X4_refuse_n67 rfl rfl rfl (hN _ (List.mem_of_getElem? (i := 124) rfl)) k_initialized_RX4 (by decide +kernel) ⟨Nat.le_of_ble_eq_true rfl, Nat.le_of_ble_eq_true rfl⟩, k_instanceMethod_yX4_refuse, k_selects_RX4_yX4_refuse_yX4_refuse⟩ ⟨fun a U g mk q => ⟨q.1, (fun _ _ _ _ => cPw_bl) a U g mk q.2⟩, va_recv hK hP (ci := 5) (q0 := 4) rfl rfl, fun U hU hW => ⟨rfl, ⟨by rw [hU], by rw [hU]; exact (hP.sub (ws' := (ww_X4_refuse cs ad raR raT xR nT R_60 T)) [4, 13] rfl), va_K.moved hW.alike hK, (hD.sub (ws' := (ww_X4_refuse cs ad raR raT xR nT R_60 T)) [4, 13] (by decide) rfl).weaken (fun _ _ _ _ => trivial), kN_warm hW hN⟩⟩⟩ rfl rfl hl.1 rfl (lv_room (Nat.le_of_ble_eq_true rfl)) dX0_readLine_71 ⟨Nat.le_refl _, Nat.le_refl _⟩) hP hD hS hA rfl rfl (wr := ((wX0 cs ad raBk Bk_60) ++ ((wX3 cs ad raO O)))) rfl rfl rfl (nw := 14) rfl (by decide +kernel) rfl (fun H locs hP hD hS => ?_)
          obtain ⟨hc35, hf⟩ := ck_e hf
          have hf := Option.some.inj hf
          subst hf
          exact c_zret (v := v33) hx hb hr (kt_z (Decidable.not_not.mp hc35)) hlocks hP hK hD hS dX0_readLine_74
      refine lv_istore (nL := 5) (lv' := [(4, .int t0_46), (0, .ref (raBk 0)), (1, .ref (raR 0)), (2, .ref (raO 0)), (3, .int x3_46)]) hx hb dX0_readLine_46 hl (by decide) rfl (fun ls hl => ?_)
      refine lv_iload_n hx hb dX0_readLine_48 rfl (lv_at hl 4 rfl) ?_
      refine lv_if_eq (tgt := 60) hx hb dX0_readLine_49 (by decide) (fun hb38 => ?_) (fun hb38 => ?_)
      · have hf := (if_pos hb38).symm.trans hf
        exact h_60 x3_46 t0_46 Bk_46 R_46 ls _ _ (lv_sub hl [1, 2, 3, 4, 0] rfl) hP hD hS hf
      · have hf := (if_neg hb38).symm.trans hf
        refine lv_iload hx hb dX0_readLine_52 (lv_at hl 0 rfl) ?_
        refine lv_iconst (v := -1) hx hb dX0_readLine_54 (by decide) ?_
        refine lv_icmp_ne (tgt := 60) hx hb dX0_readLine_55 (by decide) (fun hb37 => ?_) (fun hb37 => ?_)
        · have hf := (if_neg hb37).symm.trans hf
          exact h_60 x3_46 t0_46 Bk_46 R_46 ls _ _ (lv_sub hl [1, 2, 3, 4, 0] rfl) hP hD hS hf
        · have hf := (if_pos hb37).symm.trans hf
          refine lv_iconst (v := 0) hx hb dX0_readLine_58 (by decide) ?_
          have hf := Option.some.inj hf
          subst hf
          exact c_zret (v := (0 : Int32)) hx hb hr rfl hlocks hP hK hD hS dX0_readLine_59
    refine lv_istore_n (nL := 5) (lv' := [(3, .int t0_25), (0, .ref (raBk 0)), (1, .ref (raR 0)), (2, .ref (raO 0))]) hx hb dX0_readLine_25 rfl hl (by decide) rfl (fun ls hl => ?_)
    refine lv_iload_n hx hb dX0_readLine_26 rfl (lv_at hl 0 rfl) ?_
    refine lv_if_eq (tgt := 45) hx hb dX0_readLine_27 (by decide) (fun hb42 => ?_) (fun hb42 => ?_)
    · have hf := (if_pos hb42).symm.trans hf
      refine lv_iconst (v := -1) hx hb dX0_readLine_45 (by decide) ?_
      exact h_46 t0_25 (-1 : Int32) Bk_25 R_25 ls _ _ (lv_sub hl [1, 2, 3, 0] rfl) hP hD hS hf
    · have hf := (if_neg hb42).symm.trans hf
      refine lv_aload_n hx hb dX0_readLine_30 rfl (lv_at hl 2 rfl) ?_
      refine lv_aload_n hx hb dX0_readLine_31 rfl (lv_at hl 3 rfl) ?_
      refine va_getN (D := (dC, dI)) (ci := 4) (C := RX3) (T := TX3) (N := 11) hx hb hts hinX3 hown hK hP 5 rfl rfl 4 (by decide) (v := .ref (raO 4)) (va_Nw.use rfl (hN _ (List.mem_of_getElem? (i := 20) rfl))) (fun _ h9 => h9) rfl dX0_readLine_32 ?_
      refine lv_aload_n hx hb dX0_readLine_35 rfl (lv_at hl 3 rfl) ?_
      refine va_getN (D := (dC, dI)) (ci := 4) (C := RX3) (T := TX3) (N := 11) hx hb hts hinX3 hown hK hP 5 rfl rfl 1 (by decide) (v := .int (O.1 0 1)) (va_Nw.use rfl (hN _ (List.mem_of_getElem? (i := 11) rfl))) (fun _ h9 => h9) rfl dX0_readLine_36 ?_
      obtain ⟨v40, Rv41, hq39, hf⟩ := bo2_e hf
      have hEc := cE_sub (A1 := va_A (ww_X4_neededOf cs ad raR (raO 4) raT xR 6 nT zD (fun _ => 0) (fun _ => 0)) _) hE hS (cA_free (isC := [4, 6, 13]) (wc := (ww_X4_neededOf cs ad raR (raO 4) raT xR 6 nT R_25 (O.2 4) T)) (wz := (ww_X4_neededOf cs ad raR (raO 4) raT xR 6 nT zD (fun _ => 0) (fun _ => 0))) rfl rfl hD hS hA)
      refine g_callw (isC := [4, 6, 13]) (isR := [0, 1, 2, 3, 5, 7, 8, 9, 10, 11, 12]) (wc := (ww_X4_neededOf cs ad raR (raO 4) raT xR 6 nT R_25 (O.2 4) T)) (wz := (ww_X4_neededOf cs ad raR (raO 4) raT xR 6 nT zD (fun _ => 0) (fun _ => 0))) (w1 := (ww_X4_neededOf cs ad raR (raO 4) raT xR 6 nT Rv41 (O.2 4) T)) (ws' := (ww_X0_readLine cs ad raBk raR raO raT xR nT Bk_25 Rv41 O T)) (v := v40) (va_runVN (As := [.ref (raO 4), .int (O.1 0 1)]) (rest := []) ⟨hx, hb, hml, hown, hts⟩ (c_X4_neededOf l dC dI cs ad raR (raO 4) raT xR 6 nT _ R_25 (O.2 4) T (O.1 0 1) (v40, Rv41) hq39) ⟨va_cnB 2 hts gX0_readLine_X4_neededOf_n63 rfl rfl rfl (hN _ (List.mem_of_getElem? (i := 123) rfl)) k_initialized_RX4 (by decide +kernel) ⟨Nat.le_of_ble_eq_true rfl, Nat.le_of_ble_eq_true rfl⟩, k_instanceMethod_yX4_neededOf, k_selects_RX4_yX4_neededOf_yX4_neededOf⟩ ⟨fun a U g mk q => ⟨q.1, (fun _ _ _ _ => cPe_bl (fun h => cPw_bl h)) a U g mk q.2⟩, va_recv hK hP (ci := 5) (q0 := 4) rfl rfl, fun U hU hW => ⟨rfl, ⟨hEc U hU hW, ⟨by rw [hU], by rw [hU]; exact (hP.sub (ws' := (ww_X4_neededOf cs ad raR (raO 4) raT xR 6 nT R_25 (O.2 4) T)) [4, 6, 13] rfl), va_K.moved hW.alike hK, (hD.sub (ws' := (ww_X4_neededOf cs ad raR (raO 4) raT xR 6 nT R_25 (O.2 4) T)) [4, 6, 13] (by decide) rfl).weaken (fun _ _ _ _ => trivial), kN_warm hW hN⟩⟩⟩⟩ rfl rfl hl.1 rfl (lv_room (Nat.le_of_ble_eq_true rfl)) dX0_readLine_39 ⟨Nat.le_refl _, Nat.le_refl _⟩) hP hD hS hA rfl rfl (wr := ((wX0 cs ad raBk Bk_25) ++ ([(raO 0, .inr (4, fX3 ad raO O)), (raO 5, .inl (cs 1, 6, .inl (O.1 5))), (raO 6, .inl (cs 1, 6, .inl (O.1 6))), (raO 7, .inl (cs 2, 8, .inr (.inl (O.2 7)))), (raO 8, .inl (cs 1, 8, .inl (O.1 8))), (raO 9, .inl (cs 1, 8, .inl (O.1 9))), (raO 10, .inl (cs 1, 8, .inl (O.1 10)))]))) rfl rfl rfl (nw := 14) rfl (by decide +kernel) rfl (fun H locs hP hD hS => ?_)
      refine lv_goto (tgt := 46) hx hb dX0_readLine_42 (by decide) ?_
      exact h_46 t0_25 v40 Bk_25 Rv41 ls _ _ (lv_sub hl [1, 2, 3, 0] rfl) hP hD hS hf
  have h_24 : ∀ (Bk_24 : kD) (R_24 : kD) (ls : Array Slot) (H : Heap) (locs : List Loc), lv_has ls 5 [(0, .ref (raBk 0)), (1, .ref (raR 0)), (2, .ref (raO 0))] → va_P (dC, dI) vwCl (ww_X0_readLine cs ad raBk raR raO raT xR nT Bk_24 R_24 O T) H → va_D (va_A (ww_X0_readLine cs ad raBk raR raO raT xR nT zD zD zD (fun _ => 0)) s.heap.size) (ww_X0_readLine cs ad raBk raR raO raT xR nT Bk_24 R_24 O T) → va_S (va_A (ww_X0_readLine cs ad raBk raR raO raT xR nT zD zD zD (fun _ => 0)) s.heap.size) s.heap H locs → g_X0_readLine_24 nT O T Bk_24 R_24 = some r → W p l e (headSpec wsX0_readLine rm_X0_readLine).room s m args below meth c H locs 0 0 (MQ below (cQi dC dI cs (va_A (ww_X0_readLine cs ad raBk raR raO raT xR nT zD zD zD (fun _ => 0)) s.heap.size) r.1 (ww_X0_readLine cs ad raBk raR raO raT xR nT r.2.1 r.2.2 O T)) args s 0 0 (va_A (ww_X0_readLine cs ad raBk raR raO raT xR nT zD zD zD (fun _ => 0)) s.heap.size)) (F0 m 24 ls []) := by
    intro Bk_24 R_24 ls H locs hl hP hD hS hf
    unfold g_X0_readLine_24 at hf
    refine lv_iconst (v := 0) hx hb dX0_readLine_24 (by decide) ?_
    exact h_25 (0 : Int32) Bk_24 R_24 ls _ _ hl hP hD hS hf
  refine lv_aload_n hx hb dX0_readLine_0 rfl (lv_at hl 1 rfl) ?_
  refine va_gets hx hb (show va_Z "KeyLetters$Word" "CLEAR" "LKeyLetters$Word;" (.ref (ad 9)) _ s s.heap from (hE.1.1 9 (by decide)).1) hS hown keldLink_RX0_42__KeyLetters_Word___CLEAR___LKeyLetters_Word__ (fun _ h9 => h9) dX0_readLine_1 ?_
  obtain ⟨v44, hq43, hf⟩ := bo_e hf
  have hEc := cE_subF hE hS
  refine ko_call (v := some (.int v44)) (va_runVN (As := [.ref (ad (9 : Int32).toNatClampNeg)]) (rest := []) ⟨hx, hb, hml, hown, hts⟩ (c_X4_seesWord l dC dI cs ad raR raT xR nT R T (9 : Int32) v44 hq43) ⟨va_cnB 1 hts gX0_readLine_X4_seesWord_n48 rfl rfl rfl (hN _ (List.mem_of_getElem? (i := 122) rfl)) k_initialized_RX4 (by decide +kernel) ⟨Nat.le_of_ble_eq_true rfl, Nat.le_of_ble_eq_true rfl⟩, k_instanceMethod_yX4_seesWord, k_selects_RX4_yX4_seesWord_yX4_seesWord⟩ ⟨fun a U g mk q => ⟨q.1, (fun _ _ _ _ => cPe_bl (fun h => cPr_bl h)) a U g mk q.2⟩, va_recv hK hP (ci := 5) (q0 := 4) rfl rfl, fun U hU hW => ⟨rfl, ⟨hEc U hU hW, ⟨by rw [hU]; exact (hP.sub (ws' := (ww_X4_seesWord cs ad raR raT xR nT R T)) [4, 13] rfl), va_K.moved hW.alike hK, kN_warm hW hN⟩⟩⟩⟩ rfl rfl hl.1 rfl (lv_room (Nat.le_of_ble_eq_true rfl)) dX0_readLine_4 ⟨Nat.le_refl _, Nat.le_refl _⟩) ?_
  refine lv_if_ne (tgt := 24) hx hb dX0_readLine_7 (by decide) (fun hb48 => ?_) (fun hb48 => ?_)
  · have hf := (if_neg hb48).symm.trans hf
    exact h_24 Bk R ls _ _ hl hP hD hS hf
  · have hf := (if_pos hb48).symm.trans hf
    refine lv_aload_n hx hb dX0_readLine_10 rfl (lv_at hl 1 rfl) ?_
    refine va_gets hx hb (show va_Z "KeyLetters$Word" "DAY" "LKeyLetters$Word;" (.ref (ad 10)) _ s s.heap from (hE.1.1 10 (by decide)).1) hS hown kfieldLink_RX0_52__KeyLetters_Word___DAY___LKeyLetters_Word__ (fun _ h9 => h9) dX0_readLine_11 ?_
    obtain ⟨v46, hq45, hf⟩ := bo_e hf
    have hEc := cE_subF hE hS
    refine ko_call (v := some (.int v46)) (va_runVN (As := [.ref (ad (10 : Int32).toNatClampNeg)]) (rest := []) ⟨hx, hb, hml, hown, hts⟩ (c_X4_seesWord l dC dI cs ad raR raT xR nT R T (10 : Int32) v46 hq45) ⟨va_cnB 1 hts gX0_readLine_X4_seesWord_n48 rfl rfl rfl (hN _ (List.mem_of_getElem? (i := 122) rfl)) k_initialized_RX4 (by decide +kernel) ⟨Nat.le_of_ble_eq_true rfl, Nat.le_of_ble_eq_true rfl⟩, k_instanceMethod_yX4_seesWord, k_selects_RX4_yX4_seesWord_yX4_seesWord⟩ ⟨fun a U g mk q => ⟨q.1, (fun _ _ _ _ => cPe_bl (fun h => cPr_bl h)) a U g mk q.2⟩, va_recv hK hP (ci := 5) (q0 := 4) rfl rfl, fun U hU hW => ⟨rfl, ⟨hEc U hU hW, ⟨by rw [hU]; exact (hP.sub (ws' := (ww_X4_seesWord cs ad raR raT xR nT R T)) [4, 13] rfl), va_K.moved hW.alike hK, kN_warm hW hN⟩⟩⟩⟩ rfl rfl hl.1 rfl (lv_room (Nat.le_of_ble_eq_true rfl)) dX0_readLine_14 ⟨Nat.le_refl _, Nat.le_refl _⟩) ?_
    refine lv_if_ne (tgt := 24) hx hb dX0_readLine_17 (by decide) (fun hb47 => ?_) (fun hb47 => ?_)
    · have hf := (if_neg hb47).symm.trans hf
      exact h_24 Bk R ls _ _ hl hP hD hS hf
    · have hf := (if_pos hb47).symm.trans hf
      refine lv_iconst (v := 1) hx hb dX0_readLine_20 (by decide) ?_
      refine lv_goto (tgt := 25) hx hb dX0_readLine_21 (by decide) ?_
      exact h_25 (1 : Int32) Bk R ls _ _ hl hP hD hS hf

def ww_X4_passSign (cs : Nat → ClassId) (ad : Nat → Nat) (raR : Nat → Nat) (raT : Nat) (xR : Nat) (nT : Nat) (R : kD) (T : Nat → Int32) : va_W := (wX4 cs ad raR xR raT R ++ ([(raT, .inl (cs 1, nT, .inl T))]))
abbrev rm_X4_passSign : Room := { frames := 6, cells := 0, slots := 0, locals := 166 }
set_option maxHeartbeats 4000000 in
set_option maxRecDepth 100000 in
theorem c_X4_passSign (l : Launch) (dC : Nat → ClassId) (dI : Nat → Nat → Nat) (cs : Nat → ClassId) (ad : Nat → Nat) (raR : Nat → Nat) (raT : Nat) (xR : Nat) (nT : Nat) (sz : Nat) (R : kD) (T : Nat → Int32) (a0 : Int32) (r : Int32 × kD) (hf : f_X4_passSign a0 nT R T = some r) : Met l yX4_passSign wsX4_passSign rm_X4_passSign (va_Pc [.ref (raR 0), .int a0] (cPe ad (va_A (ww_X4_passSign cs ad raR raT xR nT zD (fun _ => 0)) sz) (cPw dC dI cs sz (ww_X4_passSign cs ad raR raT xR nT R T)))) (cQi dC dI cs (va_A (ww_X4_passSign cs ad raR raT xR nT zD (fun _ => 0)) sz) r.1 (ww_X4_passSign cs ad raR raT xR nT r.2 T)) 0 0 (va_A (ww_X4_passSign cs ad raR raT xR nT zD (fun _ => 0)) sz) := by
  refine Met.ofW (cc := cX4_passSign) (maxL := 2) (ret := (some .boolean)) (by decide) rfl ?_
  intro p e s m args below meth c s₁ B hml hv
  obtain ⟨hav, hE, hsz, hP, hK, hD0, hN⟩ := hv
  have hx := B.exec
  have hb := B.bytes
  have hr := B.returns
  have hts := atoms_spec (ws := wsX4_passSign) B.pre
  have hown : s.vm.findClass RX4 = some m.cls := findClass_of_methodNamed B.named
  have hlocks := B.notSynchronized
  subst hsz
  have hA : ∀ q, s.heap.size ≤ q → va_A (ww_X4_passSign cs ad raR raT xR nT zD (fun _ => 0)) s.heap.size q := fun q h => Or.inr h
  have hD : va_D (va_A (ww_X4_passSign cs ad raR raT xR nT zD (fun _ => 0)) s.heap.size) (ww_X4_passSign cs ad raR raT xR nT R T) := hD0.weaken (fun k q h _ => cA_in (ws := (ww_X4_passSign cs ad raR raT xR nT R T)) (ws' := (ww_X4_passSign cs ad raR raT xR nT zD (fun _ => 0))) rfl h)
  have hS : va_S (va_A (ww_X4_passSign cs ad raR raT xR nT zD (fun _ => 0)) s.heap.size) s.heap s.heap [] := va_S.rf
  have hl := lv_entry ([.ref (raR 0), .int a0]) (n := 2) (Nat.le_of_ble_eq_true rfl)
  rw [show entryFrame m args 2 = entryFrame m ([.ref (raR 0), .int a0] : List Value).toArray 2 from by rw [hav], lg_entry_eq]
  generalize (lg_sl ([.ref (raR 0), .int a0]) ++ List.replicate (2 - (lg_sl ([.ref (raR 0), .int a0])).length) Slot.unset).toArray = ls at hl ⊢
  have hl : lv_has ls 2 [(0, .ref (raR 0)), (1, .int a0)] := hl
  unfold f_X4_passSign at hf
  refine lv_aload_n hx hb dX4_passSign_0 rfl (lv_at hl 0 rfl) ?_
  refine lv_iload_n hx hb dX4_passSign_1 rfl (lv_at hl 1 rfl) ?_
  refine ko_call (v := some (.int (f_X4_seesSign a0 nT R T))) (va_runV (As := [.int a0]) (rest := []) ⟨hx, hb, hml, hown, hts⟩ (c_X4_seesSign l dC dI cs ad raR raT xR nT R T a0 _ rfl) (cwV 1 hts gX4_passSign_X4_seesSign rfl rfl rfl (by decide +kernel) ⟨Nat.le_of_ble_eq_true rfl, Nat.le_of_ble_eq_true rfl⟩) ⟨fun a U g mk q => ⟨q.1, (fun _ _ _ _ => cPr_bl) a U g mk q.2⟩, va_recv hK hP (ci := 5) (q0 := 0) rfl rfl, fun U hU hW => ⟨rfl, ⟨by rw [hU]; exact (hP.sub (ws' := (ww_X4_seesSign cs ad raR raT xR nT R T)) [0, 1] rfl), va_K.moved hW.alike hK, kN_warm hW hN⟩⟩⟩ rfl rfl hl.1 rfl (lv_room (Nat.le_of_ble_eq_true rfl)) dX4_passSign_2 ⟨Nat.le_refl _, Nat.le_refl _⟩) ?_
  refine lv_if_ne (tgt := 14) hx hb dX4_passSign_5 (by decide) (fun hb7 => ?_) (fun hb7 => ?_)
  · have hf := (if_neg hb7).symm.trans hf
    refine lv_aload_n hx hb dX4_passSign_14 rfl (lv_at hl 0 rfl) ?_
    obtain ⟨Rv2, hq1, hf⟩ := bo_e hf
    have hEc := cE_sub (A1 := va_A (ww_X4_advance cs ad raR raT xR nT zD (fun _ => 0)) _) hE hS (cA_free (isC := [0, 1]) (wc := (ww_X4_advance cs ad raR raT xR nT R T)) (wz := (ww_X4_advance cs ad raR raT xR nT zD (fun _ => 0))) rfl rfl hD hS hA)
    refine g_callv (isC := [0, 1]) (isR := []) (wc := (ww_X4_advance cs ad raR raT xR nT R T)) (wz := (ww_X4_advance cs ad raR raT xR nT zD (fun _ => 0))) (w1 := (ww_X4_advance cs ad raR raT xR nT Rv2 T)) (ws' := (ww_X4_passSign cs ad raR raT xR nT Rv2 T)) (va_runV (As := []) (rest := []) ⟨hx, hb, hml, hown, hts⟩ (c_X4_advance l dC dI cs ad raR raT xR nT _ R T Rv2 hq1) (cwV 0 hts gX4_passSign_X4_advance rfl rfl rfl (by decide +kernel) ⟨Nat.le_of_ble_eq_true rfl, Nat.le_of_ble_eq_true rfl⟩) ⟨fun a U g mk q => ⟨q.1, (fun _ _ _ _ => cPe_bl (fun h => cPw_bl h)) a U g mk q.2⟩, va_recv hK hP (ci := 5) (q0 := 0) rfl rfl, fun U hU hW => ⟨rfl, ⟨hEc U hU hW, ⟨by rw [hU], by rw [hU]; exact (hP.sub (ws' := (ww_X4_advance cs ad raR raT xR nT R T)) [0, 1] rfl), va_K.moved hW.alike hK, (hD.sub (ws' := (ww_X4_advance cs ad raR raT xR nT R T)) [0, 1] (by decide) rfl).weaken (fun _ _ _ _ => trivial), kN_warm hW hN⟩⟩⟩⟩ rfl rfl hl.1 rfl (lv_room (Nat.le_of_ble_eq_true rfl)) dX4_passSign_15 ⟨Nat.le_refl _, Nat.le_refl _⟩) hP hD hS hA rfl rfl (wr := ([] : va_W)) rfl rfl rfl (nw := 2) rfl (by decide +kernel) rfl (fun H locs hP hD hS => ?_)
    refine lv_iconst (v := 1) hx hb dX4_passSign_18 (by decide) ?_
    have hf := Option.some.inj hf
    subst hf
    exact c_zret (v := (1 : Int32)) hx hb hr rfl hlocks hP hK hD hS dX4_passSign_19
  · have hf := (if_pos hb7).symm.trans hf
    refine lv_aload_n hx hb dX4_passSign_8 rfl (lv_at hl 0 rfl) ?_
    refine lv_iconst (v := 1) hx hb dX4_passSign_9 (by decide) ?_
    obtain ⟨v4, Rv5, hq3, hf⟩ := bo2_e hf
    refine g_callw (isC := [0, 1]) (isR := []) (wc := (ww_X4_refuse cs ad raR raT xR nT R T)) (wz := (ww_X4_refuse cs ad raR raT xR nT zD (fun _ => 0))) (w1 := (ww_X4_refuse cs ad raR raT xR nT Rv5 T)) (ws' := (ww_X4_passSign cs ad raR raT xR nT Rv5 T)) (v := v4) (va_runV (As := [.int (1 : Int32)]) (rest := []) ⟨hx, hb, hml, hown, hts⟩ (c_X4_refuse l dC dI cs ad raR raT xR nT _ R T (1 : Int32) (v4, Rv5) hq3) (cwV 1 hts gX4_passSign_X4_refuse rfl rfl rfl (by decide +kernel) ⟨Nat.le_of_ble_eq_true rfl, Nat.le_of_ble_eq_true rfl⟩) ⟨fun a U g mk q => ⟨q.1, (fun _ _ _ _ => cPw_bl) a U g mk q.2⟩, va_recv hK hP (ci := 5) (q0 := 0) rfl rfl, fun U hU hW => ⟨rfl, ⟨by rw [hU], by rw [hU]; exact (hP.sub (ws' := (ww_X4_refuse cs ad raR raT xR nT R T)) [0, 1] rfl), va_K.moved hW.alike hK, (hD.sub (ws' := (ww_X4_refuse cs ad raR raT xR nT R T)) [0, 1] (by decide) rfl).weaken (fun _ _ _ _ => trivial), kN_warm hW hN⟩⟩⟩ rfl rfl hl.1 rfl (lv_room (Nat.le_of_ble_eq_true rfl)) dX4_passSign_10 ⟨Nat.le_refl _, Nat.le_refl _⟩) hP hD hS hA rfl rfl (wr := ([] : va_W)) rfl rfl rfl (nw := 2) rfl (by decide +kernel) rfl (fun H locs hP hD hS => ?_)
    obtain ⟨hc6, hf⟩ := ck_e hf
    have hf := Option.some.inj hf
    subst hf
    exact c_zret (v := v4) hx hb hr (kt_z (Decidable.not_not.mp hc6)) hlocks hP hK hD hS dX4_passSign_13

def ww_X0_read (cs : Nat → ClassId) (ad : Nat → Nat) (raBk : Nat → Nat) (raR : Nat → Nat) (raO : Nat → Nat) (raT : Nat) (xR : Nat) (nT : Nat) (Bk : kD) (R : kD) (O : kD) (T : Nat → Int32) : va_W := (wX0 cs ad raBk Bk ++ (wX4 cs ad raR xR raT R ++ (wX3 cs ad raO O ++ ([(raT, .inl (cs 1, nT, .inl T))]))))
abbrev rm_X0_read : Room := { frames := 9, cells := 0, slots := 0, locals := 235 }
set_option maxHeartbeats 4000000 in
set_option maxRecDepth 100000 in
theorem c_X0_read (l : Launch) (dC : Nat → ClassId) (dI : Nat → Nat → Nat) (cs : Nat → ClassId) (ad : Nat → Nat) (raBk : Nat → Nat) (raR : Nat → Nat) (raO : Nat → Nat) (raT : Nat) (xR : Nat) (nT : Nat) (sz : Nat) (Bk : kD) (R : kD) (O : kD) (T : Nat → Int32) (r : Int32 × kD × kD) (hf : f_X0_read nT Bk R O T = some r) : Met l yX0_read wsX0_read rm_X0_read (va_Pc [.ref (raBk 0), .ref (raR 0), .ref (raO 0)] (cPe ad (va_A (ww_X0_read cs ad raBk raR raO raT xR nT zD zD zD (fun _ => 0)) sz) (cPw dC dI cs sz (ww_X0_read cs ad raBk raR raO raT xR nT Bk R O T)))) (cQi dC dI cs (va_A (ww_X0_read cs ad raBk raR raO raT xR nT zD zD zD (fun _ => 0)) sz) r.1 (ww_X0_read cs ad raBk raR raO raT xR nT r.2.1 r.2.2 O T)) 0 0 (va_A (ww_X0_read cs ad raBk raR raO raT xR nT zD zD zD (fun _ => 0)) sz) := by
  refine Met.ofW (cc := cX0_read) (maxL := 4) (ret := (some .boolean)) (by decide) rfl ?_
  intro p e s m args below meth c s₁ B hml hv
  obtain ⟨hav, hE, hsz, hP, hK, hD0, hN⟩ := hv
  have hx := B.exec
  have hb := B.bytes
  have hr := B.returns
  have hts := atoms_spec (ws := wsX0_read) B.pre
  have hown : s.vm.findClass RX0 = some m.cls := findClass_of_methodNamed B.named
  have hlocks := B.notSynchronized
  subst hsz
  have hA : ∀ q, s.heap.size ≤ q → va_A (ww_X0_read cs ad raBk raR raO raT xR nT zD zD zD (fun _ => 0)) s.heap.size q := fun q h => Or.inr h
  have hD : va_D (va_A (ww_X0_read cs ad raBk raR raO raT xR nT zD zD zD (fun _ => 0)) s.heap.size) (ww_X0_read cs ad raBk raR raO raT xR nT Bk R O T) := hD0.weaken (fun k q h _ => cA_in (ws := (ww_X0_read cs ad raBk raR raO raT xR nT Bk R O T)) (ws' := (ww_X0_read cs ad raBk raR raO raT xR nT zD zD zD (fun _ => 0))) rfl h)
  have hS : va_S (va_A (ww_X0_read cs ad raBk raR raO raT xR nT zD zD zD (fun _ => 0)) s.heap.size) s.heap s.heap [] := va_S.rf
  have hinX0 := (show ∀ w ∈ wsX00, w ∈ wsX0_read from fun w h => List.mem_cons_of_mem _ (List.mem_append_left _ (List.mem_append_left _ (List.mem_append_right _ h))))
  have k_fieldLink_RX0_21__KeyLetters_Book___lines___I_ := hts (.fieldLink RX0 21 "KeyLetters$Book" "lines" "I") (List.mem_of_getElem? (i := 1) rfl)
  have k_initialized_RX4 := hts (.initialized RX4) (List.mem_of_getElem? (i := 3) rfl)
  have k_instanceMethod_yX4_needsEnd := hts (.instanceMethod yX4_needsEnd) (List.mem_of_getElem? (i := 145) rfl)
  have k_instanceMethod_yX4_passSign := hts (.instanceMethod yX4_passSign) (List.mem_of_getElem? (i := 137) rfl)
  have k_instanceMethod_yX4_seesEnd := hts (.instanceMethod yX4_seesEnd) (List.mem_of_getElem? (i := 2) rfl)
  have k_selects_RX4_yX4_needsEnd_yX4_needsEnd := hts (.selects RX4 yX4_needsEnd yX4_needsEnd) (List.mem_of_getElem? (i := 146) rfl)
  have k_selects_RX4_yX4_passSign_yX4_passSign := hts (.selects RX4 yX4_passSign yX4_passSign) (List.mem_of_getElem? (i := 138) rfl)
  have k_selects_RX4_yX4_seesEnd_yX4_seesEnd := hts (.selects RX4 yX4_seesEnd yX4_seesEnd) (List.mem_of_getElem? (i := 4) rfl)
  have hl := lv_entry ([.ref (raBk 0), .ref (raR 0), .ref (raO 0)]) (n := 4) (Nat.le_of_ble_eq_true rfl)
  rw [show entryFrame m args 4 = entryFrame m ([.ref (raBk 0), .ref (raR 0), .ref (raO 0)] : List Value).toArray 4 from by rw [hav], lg_entry_eq]
  generalize (lg_sl ([.ref (raBk 0), .ref (raR 0), .ref (raO 0)]) ++ List.replicate (4 - (lg_sl ([.ref (raBk 0), .ref (raR 0), .ref (raO 0)])).length) Slot.unset).toArray = ls at hl ⊢
  have hl : lv_has ls 4 [(0, .ref (raBk 0)), (1, .ref (raR 0)), (2, .ref (raO 0))] := hl
  unfold f_X0_read at hf
  have h_46 : ∀ (Bk_46 : kD) (R_46 : kD) (ls : Array Slot) (H : Heap) (locs : List Loc), lv_has ls 4 [(1, .ref (raR 0))] → va_P (dC, dI) vwCl (ww_X0_read cs ad raBk raR raO raT xR nT Bk_46 R_46 O T) H → va_D (va_A (ww_X0_read cs ad raBk raR raO raT xR nT zD zD zD (fun _ => 0)) s.heap.size) (ww_X0_read cs ad raBk raR raO raT xR nT Bk_46 R_46 O T) → va_S (va_A (ww_X0_read cs ad raBk raR raO raT xR nT zD zD zD (fun _ => 0)) s.heap.size) s.heap H locs → g_X0_read_46 nT O T Bk_46 R_46 = some r → W p l e (headSpec wsX0_read rm_X0_read).room s m args below meth c H locs 0 0 (MQ below (cQi dC dI cs (va_A (ww_X0_read cs ad raBk raR raO raT xR nT zD zD zD (fun _ => 0)) s.heap.size) r.1 (ww_X0_read cs ad raBk raR raO raT xR nT r.2.1 r.2.2 O T)) args s 0 0 (va_A (ww_X0_read cs ad raBk raR raO raT xR nT zD zD zD (fun _ => 0)) s.heap.size)) (F0 m 46 ls []) := by
    intro Bk_46 R_46 ls H locs hl hP hD hS hf
    unfold g_X0_read_46 at hf
    refine lv_aload_n hx hb dX0_read_46 rfl (lv_at hl 0 rfl) ?_
    obtain ⟨v2, Rv3, hq1, hf⟩ := bo2_e hf
    refine g_callw (isC := [4, 13]) (isR := [0, 1, 2, 3, 5, 6, 7, 8, 9, 10, 11, 12]) (wc := (ww_X4_needsEnd cs ad raR raT xR nT R_46 T)) (wz := (ww_X4_needsEnd cs ad raR raT xR nT zD (fun _ => 0))) (w1 := (ww_X4_needsEnd cs ad raR raT xR nT Rv3 T)) (ws' := (ww_X0_read cs ad raBk raR raO raT xR nT Bk_46 Rv3 O T)) (v := v2) (va_runVN (As := []) (rest := []) ⟨hx, hb, hml, hown, hts⟩ (c_X4_needsEnd l dC dI cs ad raR raT xR nT _ R_46 T (v2, Rv3) hq1) ⟨va_cnB 0 hts gX0_read_X4_needsEnd_n39 rfl rfl rfl (hN _ (List.mem_of_getElem? (i := 128) rfl)) k_initialized_RX4 (by decide +kernel) ⟨Nat.le_of_ble_eq_true rfl, Nat.le_of_ble_eq_true rfl⟩, k_instanceMethod_yX4_needsEnd, k_selects_RX4_yX4_needsEnd_yX4_needsEnd⟩ ⟨fun a U g mk q => ⟨q.1, (fun _ _ _ _ => cPw_bl) a U g mk q.2⟩, va_recv hK hP (ci := 5) (q0 := 4) rfl rfl, fun U hU hW => ⟨rfl, ⟨by rw [hU], by rw [hU]; exact (hP.sub (ws' := (ww_X4_needsEnd cs ad raR raT xR nT R_46 T)) [4, 13] rfl), va_K.moved hW.alike hK, (hD.sub (ws' := (ww_X4_needsEnd cs ad raR raT xR nT R_46 T)) [4, 13] (by decide) rfl).weaken (fun _ _ _ _ => trivial), kN_warm hW hN⟩⟩⟩ rfl rfl hl.1 rfl (lv_room (Nat.le_of_ble_eq_true rfl)) dX0_read_47 ⟨Nat.le_refl _, Nat.le_refl _⟩) hP hD hS hA rfl rfl (wr := ((wX0 cs ad raBk Bk_46) ++ ((wX3 cs ad raO O)))) rfl rfl rfl (nw := 14) rfl (by decide +kernel) rfl (fun H locs hP hD hS => ?_)
    obtain ⟨hc4, hf⟩ := ck_e hf
    have hf := Option.some.inj hf
    subst hf
    exact c_zret (v := v2) hx hb hr (kt_z (Decidable.not_not.mp hc4)) hlocks hP hK hD hS dX0_read_50
  have h_7 := lp_ind (z := (fun _ _ _ => none)) (b := (g_X0_read_7 nT O T)) (fun (rc_7 : Int32 → kD → kD → Option (Int32 × kD × kD)) => ∀ (x3_7 : Int32) (Bk_7 : kD) (R_7 : kD) (ls : Array Slot) (H : Heap) (locs : List Loc), lv_has ls 4 [(0, .ref (raBk 0)), (1, .ref (raR 0)), (2, .ref (raO 0)), (3, .int x3_7)] → va_P (dC, dI) vwCl (ww_X0_read cs ad raBk raR raO raT xR nT Bk_7 R_7 O T) H → va_D (va_A (ww_X0_read cs ad raBk raR raO raT xR nT zD zD zD (fun _ => 0)) s.heap.size) (ww_X0_read cs ad raBk raR raO raT xR nT Bk_7 R_7 O T) → va_S (va_A (ww_X0_read cs ad raBk raR raO raT xR nT zD zD zD (fun _ => 0)) s.heap.size) s.heap H locs → rc_7 x3_7 Bk_7 R_7 = some r → W p l e (headSpec wsX0_read rm_X0_read).room s m args below meth c H locs 0 0 (MQ below (cQi dC dI cs (va_A (ww_X0_read cs ad raBk raR raO raT xR nT zD zD zD (fun _ => 0)) s.heap.size) r.1 (ww_X0_read cs ad raBk raR raO raT xR nT r.2.1 r.2.2 O T)) args s 0 0 (va_A (ww_X0_read cs ad raBk raR raO raT xR nT zD zD zD (fun _ => 0)) s.heap.size)) (F0 m 7 ls [])) (by
      intro x3_7 Bk_7 R_7 ls H locs hl hP hD hS hf
      cases hf) (by
      intro rc_7 ih_7 x3_7 Bk_7 R_7 ls H locs hl hP hD hS hf
      unfold g_X0_read_7 at hf
      refine lv_iload_n hx hb dX0_read_7 rfl (lv_at hl 3 rfl) ?_
      refine lv_bipush (v := 40) hx hb dX0_read_8 (by decide) ?_
      refine lv_icmp_gt (tgt := 46) hx hb dX0_read_10 (by decide) (fun hb16 => ?_) (fun hb16 => ?_)
      · have hf := (if_pos hb16).symm.trans hf
        exact h_46 Bk_7 R_7 ls _ _ (lv_sub hl [1] rfl) hP hD hS hf
      · have hf := (if_neg hb16).symm.trans hf
        refine lv_aload_n hx hb dX0_read_13 rfl (lv_at hl 1 rfl) ?_
        refine ko_call (v := some (.int (f_X4_seesEnd nT R_7 T))) (va_runVN (As := []) (rest := []) ⟨hx, hb, hml, hown, hts⟩ (c_X4_seesEnd l dC dI cs ad raR raT xR nT R_7 T _ rfl) ⟨va_cnB 0 hts gX0_read_X4_seesEnd_n25 rfl rfl rfl (hN _ (List.mem_of_getElem? (i := 121) rfl)) k_initialized_RX4 (by decide +kernel) ⟨Nat.le_of_ble_eq_true rfl, Nat.le_of_ble_eq_true rfl⟩, k_instanceMethod_yX4_seesEnd, k_selects_RX4_yX4_seesEnd_yX4_seesEnd⟩ ⟨fun a U g mk q => ⟨q.1, (fun _ _ _ _ => cPr_bl) a U g mk q.2⟩, va_recv hK hP (ci := 5) (q0 := 4) rfl rfl, fun U hU hW => ⟨rfl, ⟨by rw [hU]; exact (hP.sub (ws' := (ww_X4_seesEnd cs ad raR raT xR nT R_7 T)) [4, 13] rfl), va_K.moved hW.alike hK, kN_warm hW hN⟩⟩⟩ rfl rfl hl.1 rfl (lv_room (Nat.le_of_ble_eq_true rfl)) dX0_read_14 ⟨Nat.le_refl _, Nat.le_refl _⟩) ?_
        refine lv_if_ne (tgt := 46) hx hb dX0_read_17 (by decide) (fun hb15 => ?_) (fun hb15 => ?_)
        · have hf := (if_neg hb15).symm.trans hf
          exact h_46 Bk_7 R_7 ls _ _ (lv_sub hl [1] rfl) hP hD hS hf
        · have hf := (if_pos hb15).symm.trans hf
          refine lv_aload_n hx hb dX0_read_20 rfl (lv_at hl 0 rfl) ?_
          refine lv_aload_n hx hb dX0_read_21 rfl (lv_at hl 1 rfl) ?_
          refine lv_aload_n hx hb dX0_read_22 rfl (lv_at hl 2 rfl) ?_
          obtain ⟨v6, Bkv7, Rv8, hq5, hf⟩ := bo3_e hf
          have hEc := cE_sub (A1 := va_A (ww_X0_readLine cs ad raBk raR raO raT xR nT zD zD zD (fun _ => 0)) _) hE hS (cA_free (isC := [0, 1, 2, 3, 4, 5, 6, 7, 8, 9, 10, 11, 12, 13]) (wc := (ww_X0_readLine cs ad raBk raR raO raT xR nT Bk_7 R_7 O T)) (wz := (ww_X0_readLine cs ad raBk raR raO raT xR nT zD zD zD (fun _ => 0))) rfl rfl hD hS hA)
          refine g_callw (isC := [0, 1, 2, 3, 4, 5, 6, 7, 8, 9, 10, 11, 12, 13]) (isR := []) (wc := (ww_X0_readLine cs ad raBk raR raO raT xR nT Bk_7 R_7 O T)) (wz := (ww_X0_readLine cs ad raBk raR raO raT xR nT zD zD zD (fun _ => 0))) (w1 := (ww_X0_readLine cs ad raBk raR raO raT xR nT Bkv7 Rv8 O T)) (ws' := (ww_X0_read cs ad raBk raR raO raT xR nT Bkv7 Rv8 O T)) (v := v6) (va_runV (As := [.ref (raR 0), .ref (raO 0)]) (rest := []) ⟨hx, hb, hml, hown, hts⟩ (c_X0_readLine l dC dI cs ad raBk raR raO raT xR nT _ Bk_7 R_7 O T (v6, Bkv7, Rv8) hq5) (cwV 2 hts gX0_read_X0_readLine rfl rfl rfl (by decide +kernel) ⟨Nat.le_of_ble_eq_true rfl, Nat.le_of_ble_eq_true rfl⟩) ⟨fun a U g mk q => ⟨q.1, (fun _ _ _ _ => cPe_bl (fun h => cPw_bl h)) a U g mk q.2⟩, va_recv hK hP (ci := 1) (q0 := 0) rfl rfl, fun U hU hW => ⟨rfl, ⟨hEc U hU hW, ⟨by rw [hU], by rw [hU]; exact (hP.sub (ws' := (ww_X0_readLine cs ad raBk raR raO raT xR nT Bk_7 R_7 O T)) [0, 1, 2, 3, 4, 5, 6, 7, 8, 9, 10, 11, 12, 13] rfl), va_K.moved hW.alike hK, (hD.sub (ws' := (ww_X0_readLine cs ad raBk raR raO raT xR nT Bk_7 R_7 O T)) [0, 1, 2, 3, 4, 5, 6, 7, 8, 9, 10, 11, 12, 13] (by decide) rfl).weaken (fun _ _ _ _ => trivial), kN_warm hW hN⟩⟩⟩⟩ rfl rfl hl.1 rfl (lv_room (Nat.le_of_ble_eq_true rfl)) dX0_read_23 ⟨Nat.le_refl _, Nat.le_refl _⟩) hP hD hS hA rfl rfl (wr := ([] : va_W)) rfl rfl rfl (nw := 14) rfl (by decide +kernel) rfl (fun H locs hP hD hS => ?_)
          refine lv_if_eq (tgt := 38) hx hb dX0_read_26 (by decide) (fun hb14 => ?_) (fun hb14 => ?_)
          · have hf := (if_pos hb14).symm.trans hf
            refine lv_iconst (v := 0) hx hb dX0_read_38 (by decide) ?_
            have hf := Option.some.inj hf
            subst hf
            exact c_zret (v := (0 : Int32)) hx hb hr rfl hlocks hP hK hD hS dX0_read_39
          · have hf := (if_neg hb14).symm.trans hf
            refine lv_aload_n hx hb dX0_read_29 rfl (lv_at hl 1 rfl) ?_
            refine lv_bipush (v := 59) hx hb dX0_read_30 (by decide) ?_
            obtain ⟨v10, Rv11, hq9, hf⟩ := bo2_e hf
            have hEc := cE_sub (A1 := va_A (ww_X4_passSign cs ad raR raT xR nT zD (fun _ => 0)) _) hE hS (cA_free (isC := [4, 13]) (wc := (ww_X4_passSign cs ad raR raT xR nT Rv8 T)) (wz := (ww_X4_passSign cs ad raR raT xR nT zD (fun _ => 0))) rfl rfl hD hS hA)
            refine g_callw (isC := [4, 13]) (isR := [0, 1, 2, 3, 5, 6, 7, 8, 9, 10, 11, 12]) (wc := (ww_X4_passSign cs ad raR raT xR nT Rv8 T)) (wz := (ww_X4_passSign cs ad raR raT xR nT zD (fun _ => 0))) (w1 := (ww_X4_passSign cs ad raR raT xR nT Rv11 T)) (ws' := (ww_X0_read cs ad raBk raR raO raT xR nT Bkv7 Rv11 O T)) (v := v10) (va_runVN (As := [.int (59 : Int32)]) (rest := []) ⟨hx, hb, hml, hown, hts⟩ (c_X4_passSign l dC dI cs ad raR raT xR nT _ Rv8 T (59 : Int32) (v10, Rv11) hq9) ⟨va_cnB 1 hts gX0_read_X4_passSign_n35 rfl rfl rfl (hN _ (List.mem_of_getElem? (i := 127) rfl)) k_initialized_RX4 (by decide +kernel) ⟨Nat.le_of_ble_eq_true rfl, Nat.le_of_ble_eq_true rfl⟩, k_instanceMethod_yX4_passSign, k_selects_RX4_yX4_passSign_yX4_passSign⟩ ⟨fun a U g mk q => ⟨q.1, (fun _ _ _ _ => cPe_bl (fun h => cPw_bl h)) a U g mk q.2⟩, va_recv hK hP (ci := 5) (q0 := 4) rfl rfl, fun U hU hW => ⟨rfl, ⟨hEc U hU hW, ⟨by rw [hU], by rw [hU]; exact (hP.sub (ws' := (ww_X4_passSign cs ad raR raT xR nT Rv8 T)) [4, 13] rfl), va_K.moved hW.alike hK, (hD.sub (ws' := (ww_X4_passSign cs ad raR raT xR nT Rv8 T)) [4, 13] (by decide) rfl).weaken (fun _ _ _ _ => trivial), kN_warm hW hN⟩⟩⟩⟩ rfl rfl hl.1 rfl (lv_room (Nat.le_of_ble_eq_true rfl)) dX0_read_32 ⟨Nat.le_refl _, Nat.le_refl _⟩) hP hD hS hA rfl rfl (wr := ((wX0 cs ad raBk Bkv7) ++ ((wX3 cs ad raO O)))) rfl rfl rfl (nw := 14) rfl (by decide +kernel) rfl (fun H locs hP hD hS => ?_)
            refine lv_if_ne (tgt := 40) hx hb dX0_read_35 (by decide) (fun hb13 => ?_) (fun hb13 => ?_)
            · have hf := (if_neg hb13).symm.trans hf
              obtain ⟨v12, ev12, hf⟩ := bd1_e hf
              refine lv_iinc (k := 3) (x := x3_7) (v := v12) (nL := 4) (lv' := [(3, .int v12), (0, .ref (raBk 0)), (1, .ref (raR 0)), (2, .ref (raO 0))]) hx hb dX0_read_40 hl rfl (kt_inc (w := 1) (by decide) ev12) (by decide) rfl (fun ls hl => ?_)
              refine lv_goto (tgt := 7) hx hb dX0_read_43 (by decide) ?_
              exact ih_7 v12 Bkv7 Rv11 ls _ _ (lv_sub hl [1, 2, 3, 0] rfl) hP hD hS hf
            · have hf := (if_pos hb13).symm.trans hf
              refine lv_iconst (v := 0) hx hb dX0_read_38 (by decide) ?_
              have hf := Option.some.inj hf
              subst hf
              exact c_zret (v := (0 : Int32)) hx hb hr rfl hlocks hP hK hD hS dX0_read_39) 2000
  refine lv_aload_n hx hb dX0_read_0 rfl (lv_at hl 0 rfl) ?_
  refine lv_iconst (v := 0) hx hb dX0_read_1 (by decide) ?_
  obtain ⟨Bkv17, eBkv17, hf⟩ := bd1_e hf
  refine g_put (D := (dC, dI)) (ci := 1) (C := RX0) (T := TX0) (N := 6) hx hb hts hinX0 tyX0 tyX0_ok nmX0 hown hK hP hD hS 0 rfl rfl 0 (by decide) k_fieldLink_RX0_21__KeyLetters_Book___lines___I_ (fun _ h9 => h9) rfl (ty := .int) (v := .int (0 : Int32)) (by decide +kernel) rfl rfl (Nat.le_of_ble_eq_true rfl) (ws' := (ww_X0_read cs ad raBk raR raO raT xR nT Bkv17 R O T)) (by rw [eBkv17]; rfl) dX0_read_2 (fun H locs hP hD hS => ?_)
  refine lv_iconst (v := 0) hx hb dX0_read_5 (by decide) ?_
  refine lv_istore_n (nL := 4) (lv' := [(3, .int (0 : Int32)), (0, .ref (raBk 0)), (1, .ref (raR 0)), (2, .ref (raO 0))]) hx hb dX0_read_6 rfl hl (by decide) rfl (fun ls hl => ?_)
  exact h_7 (0 : Int32) Bkv17 R ls _ _ (lv_sub hl [1, 2, 3, 0] rfl) hP hD hS hf

def ww_X3_readMachine (cs : Nat → ClassId) (ad : Nat → Nat) (raO : Nat → Nat) (raR : Nat → Nat) (raT : Nat) (xR : Nat) (nT : Nat) (O : kD) (R : kD) (T : Nat → Int32) : va_W := (wX3 cs ad raO O ++ (wX4 cs ad raR xR raT R ++ ([(raT, .inl (cs 1, nT, .inl T))])))
abbrev rm_X3_readMachine : Room := { frames := 6, cells := 0, slots := 0, locals := 166 }
set_option maxHeartbeats 4000000 in
set_option maxRecDepth 100000 in
theorem c_X3_readMachine (l : Launch) (dC : Nat → ClassId) (dI : Nat → Nat → Nat) (cs : Nat → ClassId) (ad : Nat → Nat) (raO : Nat → Nat) (raR : Nat → Nat) (raT : Nat) (xR : Nat) (nT : Nat) (sz : Nat) (O : kD) (R : kD) (T : Nat → Int32) (r : Int32 × kD × kD) (hf : f_X3_readMachine nT O R T = some r) : Met l yX3_readMachine wsX3_readMachine rm_X3_readMachine (va_Pc [.ref (raO 0), .ref (raR 0)] (cPe ad (va_A (ww_X3_readMachine cs ad raO raR raT xR nT zD zD (fun _ => 0)) sz) (cPw dC dI cs sz (ww_X3_readMachine cs ad raO raR raT xR nT O R T)))) (cQi dC dI cs (va_A (ww_X3_readMachine cs ad raO raR raT xR nT zD zD (fun _ => 0)) sz) r.1 (ww_X3_readMachine cs ad raO raR raT xR nT r.2.1 r.2.2 T)) 0 0 (va_A (ww_X3_readMachine cs ad raO raR raT xR nT zD zD (fun _ => 0)) sz) := by
  refine Met.ofW (cc := cX3_readMachine) (maxL := 2) (ret := (some .boolean)) (by decide) rfl ?_
  intro p e s m args below meth c s₁ B hml hv
  obtain ⟨hav, hE, hsz, hP, hK, hD0, hN⟩ := hv
  have hx := B.exec
  have hb := B.bytes
  have hr := B.returns
  have hts := atoms_spec (ws := wsX3_readMachine) B.pre
  have hown : s.vm.findClass RX3 = some m.cls := findClass_of_methodNamed B.named
  have hlocks := B.notSynchronized
  subst hsz
  have hA : ∀ q, s.heap.size ≤ q → va_A (ww_X3_readMachine cs ad raO raR raT xR nT zD zD (fun _ => 0)) s.heap.size q := fun q h => Or.inr h
  have hD : va_D (va_A (ww_X3_readMachine cs ad raO raR raT xR nT zD zD (fun _ => 0)) s.heap.size) (ww_X3_readMachine cs ad raO raR raT xR nT O R T) := hD0.weaken (fun k q h _ => cA_in (ws := (ww_X3_readMachine cs ad raO raR raT xR nT O R T)) (ws' := (ww_X3_readMachine cs ad raO raR raT xR nT zD zD (fun _ => 0))) rfl h)
  have hS : va_S (va_A (ww_X3_readMachine cs ad raO raR raT xR nT zD zD (fun _ => 0)) s.heap.size) s.heap s.heap [] := va_S.rf
  have hinX3 := (show ∀ w ∈ wsX30, w ∈ wsX3_readMachine from fun w h => List.mem_cons_of_mem _ (List.mem_append_left _ (List.mem_append_right _ h)))
  have hinX4 := (show ∀ w ∈ wsX40, w ∈ wsX3_readMachine from fun w h => List.mem_cons_of_mem _ (List.mem_append_right _ h))
  have k_fieldLink_RX3_15__KeyLetters_Office___ink____I_ := hts (.fieldLink RX3 15 "KeyLetters$Office" "ink" "[I") (List.mem_of_getElem? (i := 3) rfl)
  have k_fieldLink_RX3_19__KeyLetters_Office___known____I_ := hts (.fieldLink RX3 19 "KeyLetters$Office" "known" "[I") (List.mem_of_getElem? (i := 4) rfl)
  have k_fieldLink_RX3_38__KeyLetters_Office___machines___I_ := hts (.fieldLink RX3 38 "KeyLetters$Office" "machines" "I") (List.mem_of_getElem? (i := 1) rfl)
  have k_fieldLink_RX3_9__KeyLetters_Office___machineNames____J_ := hts (.fieldLink RX3 9 "KeyLetters$Office" "machineNames" "[J") (List.mem_of_getElem? (i := 2) rfl)
  have k_initialized_RX4 := hts (.initialized RX4) (List.mem_of_getElem? (i := 6) rfl)
  have k_instanceMethod_yX4_advance := hts (.instanceMethod yX4_advance) (List.mem_of_getElem? (i := 12) rfl)
  have k_instanceMethod_yX4_needsNumber := hts (.instanceMethod yX4_needsNumber) (List.mem_of_getElem? (i := 107) rfl)
  have k_instanceMethod_yX4_refuse := hts (.instanceMethod yX4_refuse) (List.mem_of_getElem? (i := 5) rfl)
  have k_selects_RX4_yX4_advance_yX4_advance := hts (.selects RX4 yX4_advance yX4_advance) (List.mem_of_getElem? (i := 13) rfl)
  have k_selects_RX4_yX4_needsNumber_yX4_needsNumber := hts (.selects RX4 yX4_needsNumber yX4_needsNumber) (List.mem_of_getElem? (i := 108) rfl)
  have k_selects_RX4_yX4_refuse_yX4_refuse := hts (.selects RX4 yX4_refuse yX4_refuse) (List.mem_of_getElem? (i := 7) rfl)
  have hl := lv_entry ([.ref (raO 0), .ref (raR 0)]) (n := 2) (Nat.le_of_ble_eq_true rfl)
  rw [show entryFrame m args 2 = entryFrame m ([.ref (raO 0), .ref (raR 0)] : List Value).toArray 2 from by rw [hav], lg_entry_eq]
  generalize (lg_sl ([.ref (raO 0), .ref (raR 0)]) ++ List.replicate (2 - (lg_sl ([.ref (raO 0), .ref (raR 0)])).length) Slot.unset).toArray = ls at hl ⊢
  have hl : lv_has ls 2 [(0, .ref (raO 0)), (1, .ref (raR 0))] := hl
  unfold f_X3_readMachine at hf
  refine lv_aload_n hx hb dX3_readMachine_0 rfl (lv_at hl 0 rfl) ?_
  refine va_get (D := (dC, dI)) (ci := 4) (C := RX3) (T := TX3) (N := 11) hx hb hts hinX3 hown hK hP 0 rfl rfl 1 (by decide) (v := .int (O.1 0 1)) k_fieldLink_RX3_38__KeyLetters_Office___machines___I_ (fun _ h9 => h9) rfl dX3_readMachine_1 ?_
  refine lv_bipush (v := 6) hx hb dX3_readMachine_4 (by decide) ?_
  refine lv_icmp_lt (tgt := 15) hx hb dX3_readMachine_6 (by decide) (fun hb26 => ?_) (fun hb26 => ?_)
  · have hf := (if_pos hb26).symm.trans hf
    refine lv_aload_n hx hb dX3_readMachine_15 rfl (lv_at hl 1 rfl) ?_
    obtain ⟨Rv2, hq1, hf⟩ := bo_e hf
    have hEc := cE_sub (A1 := va_A (ww_X4_advance cs ad raR raT xR nT zD (fun _ => 0)) _) hE hS (cA_free (isC := [8, 9]) (wc := (ww_X4_advance cs ad raR raT xR nT R T)) (wz := (ww_X4_advance cs ad raR raT xR nT zD (fun _ => 0))) rfl rfl hD hS hA)
    refine g_callv (isC := [8, 9]) (isR := [0, 1, 2, 3, 4, 5, 6, 7]) (wc := (ww_X4_advance cs ad raR raT xR nT R T)) (wz := (ww_X4_advance cs ad raR raT xR nT zD (fun _ => 0))) (w1 := (ww_X4_advance cs ad raR raT xR nT Rv2 T)) (ws' := (ww_X3_readMachine cs ad raO raR raT xR nT O Rv2 T)) (va_runVN (As := []) (rest := []) ⟨hx, hb, hml, hown, hts⟩ (c_X4_advance l dC dI cs ad raR raT xR nT _ R T Rv2 hq1) ⟨va_cnB 0 hts gX3_readMachine_X4_advance_n120 rfl rfl rfl (hN _ (List.mem_of_getElem? (i := 76) rfl)) k_initialized_RX4 (by decide +kernel) ⟨Nat.le_of_ble_eq_true rfl, Nat.le_of_ble_eq_true rfl⟩, k_instanceMethod_yX4_advance, k_selects_RX4_yX4_advance_yX4_advance⟩ ⟨fun a U g mk q => ⟨q.1, (fun _ _ _ _ => cPe_bl (fun h => cPw_bl h)) a U g mk q.2⟩, va_recv hK hP (ci := 5) (q0 := 8) rfl rfl, fun U hU hW => ⟨rfl, ⟨hEc U hU hW, ⟨by rw [hU], by rw [hU]; exact (hP.sub (ws' := (ww_X4_advance cs ad raR raT xR nT R T)) [8, 9] rfl), va_K.moved hW.alike hK, (hD.sub (ws' := (ww_X4_advance cs ad raR raT xR nT R T)) [8, 9] (by decide) rfl).weaken (fun _ _ _ _ => trivial), kN_warm hW hN⟩⟩⟩⟩ rfl rfl hl.1 rfl (lv_room (Nat.le_of_ble_eq_true rfl)) dX3_readMachine_16 ⟨Nat.le_refl _, Nat.le_refl _⟩) hP hD hS hA rfl rfl (wr := ((wX3 cs ad raO O))) rfl rfl rfl (nw := 10) rfl (by decide +kernel) rfl (fun H locs hP hD hS => ?_)
    refine lv_aload_n hx hb dX3_readMachine_19 rfl (lv_at hl 0 rfl) ?_
    refine lv_aload_n hx hb dX3_readMachine_20 rfl (lv_at hl 1 rfl) ?_
    obtain ⟨v4, Rv5, hq3, hf⟩ := bo2_e hf
    have hEc := cE_sub (A1 := va_A (ww_X3_needsNewName cs ad raO raR raT xR nT zD zD (fun _ => 0)) _) hE hS (cA_free (isC := [0, 1, 2, 3, 4, 5, 6, 7, 8, 9]) (wc := (ww_X3_needsNewName cs ad raO raR raT xR nT O Rv2 T)) (wz := (ww_X3_needsNewName cs ad raO raR raT xR nT zD zD (fun _ => 0))) rfl rfl hD hS hA)
    refine g_callw (isC := [0, 1, 2, 3, 4, 5, 6, 7, 8, 9]) (isR := []) (wc := (ww_X3_needsNewName cs ad raO raR raT xR nT O Rv2 T)) (wz := (ww_X3_needsNewName cs ad raO raR raT xR nT zD zD (fun _ => 0))) (w1 := (ww_X3_needsNewName cs ad raO raR raT xR nT O Rv5 T)) (ws' := (ww_X3_readMachine cs ad raO raR raT xR nT O Rv5 T)) (v := v4) (va_runV (As := [.ref (raR 0)]) (rest := []) ⟨hx, hb, hml, hown, hts⟩ (c_X3_needsNewName l dC dI cs ad raO raR raT xR nT _ O Rv2 T (v4, Rv5) hq3) (cwV 1 hts gX3_readMachine_X3_needsNewName rfl rfl rfl (by decide +kernel) ⟨Nat.le_of_ble_eq_true rfl, Nat.le_of_ble_eq_true rfl⟩) ⟨fun a U g mk q => ⟨q.1, (fun _ _ _ _ => cPe_bl (fun h => cPw_bl h)) a U g mk q.2⟩, va_recv hK hP (ci := 4) (q0 := 0) rfl rfl, fun U hU hW => ⟨rfl, ⟨hEc U hU hW, ⟨by rw [hU], by rw [hU]; exact (hP.sub (ws' := (ww_X3_needsNewName cs ad raO raR raT xR nT O Rv2 T)) [0, 1, 2, 3, 4, 5, 6, 7, 8, 9] rfl), va_K.moved hW.alike hK, (hD.sub (ws' := (ww_X3_needsNewName cs ad raO raR raT xR nT O Rv2 T)) [0, 1, 2, 3, 4, 5, 6, 7, 8, 9] (by decide) rfl).weaken (fun _ _ _ _ => trivial), kN_warm hW hN⟩⟩⟩⟩ rfl rfl hl.1 rfl (lv_room (Nat.le_of_ble_eq_true rfl)) dX3_readMachine_21 ⟨Nat.le_refl _, Nat.le_refl _⟩) hP hD hS hA rfl rfl (wr := ([] : va_W)) rfl rfl rfl (nw := 10) rfl (by decide +kernel) rfl (fun H locs hP hD hS => ?_)
    refine lv_if_ne (tgt := 29) hx hb dX3_readMachine_24 (by decide) (fun hb21 => ?_) (fun hb21 => ?_)
    · have hf := (if_neg hb21).symm.trans hf
      refine lv_aload_n hx hb dX3_readMachine_29 rfl (lv_at hl 0 rfl) ?_
      refine va_get (D := (dC, dI)) (ci := 4) (C := RX3) (T := TX3) (N := 11) hx hb hts hinX3 hown hK hP 0 rfl rfl 4 (by decide) (v := .ref (raO 4)) k_fieldLink_RX3_9__KeyLetters_Office___machineNames____J_ (fun _ h9 => h9) rfl dX3_readMachine_30 ?_
      refine lv_aload_n hx hb dX3_readMachine_33 rfl (lv_at hl 0 rfl) ?_
      refine va_get (D := (dC, dI)) (ci := 4) (C := RX3) (T := TX3) (N := 11) hx hb hts hinX3 hown hK hP 0 rfl rfl 1 (by decide) (v := .int (O.1 0 1)) k_fieldLink_RX3_38__KeyLetters_Office___machines___I_ (fun _ h9 => h9) rfl dX3_readMachine_34 ?_
      refine lv_aload_n hx hb dX3_readMachine_37 rfl (lv_at hl 1 rfl) ?_
      refine va_getN (D := (dC, dI)) (ci := 5) (C := RX4) (T := TX4) (N := 11) hx hb hts hinX4 hown hK hP 8 rfl rfl 7 (by decide) (v := .long (Rv5.2 0 7)) (va_Nw.use rfl (hN _ (List.mem_of_getElem? (i := 2) rfl))) (fun _ h9 => h9) rfl dX3_readMachine_38 ?_
      obtain ⟨hc6, hf⟩ := ck_e hf
      obtain ⟨Ov7, eOv7, hf⟩ := bd1_e hf
      refine va_last hx hb hK hP hD hS 1 2 rfl rfl hc6 dX3_readMachine_41 (fun H locs hP hD hS => ?_)
      have hP : va_P (dC, dI) vwCl (ww_X3_readMachine cs ad raO raR raT xR nT Ov7 Rv5 T) H := g_toP (by rw [eOv7]; rfl) hP
      have hD : va_D (va_A (ww_X3_readMachine cs ad raO raR raT xR nT zD zD (fun _ => 0)) s.heap.size) (ww_X3_readMachine cs ad raO raR raT xR nT Ov7 Rv5 T) := g_toD (by rw [eOv7]; rfl) hD
      refine lv_aload_n hx hb dX3_readMachine_42 rfl (lv_at hl 1 rfl) ?_
      obtain ⟨Rv9, hq8, hf⟩ := bo_e hf
      have hEc := cE_sub (A1 := va_A (ww_X4_advance cs ad raR raT xR nT zD (fun _ => 0)) _) hE hS (cA_free (isC := [8, 9]) (wc := (ww_X4_advance cs ad raR raT xR nT Rv5 T)) (wz := (ww_X4_advance cs ad raR raT xR nT zD (fun _ => 0))) rfl rfl hD hS hA)
      refine g_callv (isC := [8, 9]) (isR := [0, 1, 2, 3, 4, 5, 6, 7]) (wc := (ww_X4_advance cs ad raR raT xR nT Rv5 T)) (wz := (ww_X4_advance cs ad raR raT xR nT zD (fun _ => 0))) (w1 := (ww_X4_advance cs ad raR raT xR nT Rv9 T)) (ws' := (ww_X3_readMachine cs ad raO raR raT xR nT Ov7 Rv9 T)) (va_runVN (As := []) (rest := []) ⟨hx, hb, hml, hown, hts⟩ (c_X4_advance l dC dI cs ad raR raT xR nT _ Rv5 T Rv9 hq8) ⟨va_cnB 0 hts gX3_readMachine_X4_advance_n120 rfl rfl rfl (hN _ (List.mem_of_getElem? (i := 76) rfl)) k_initialized_RX4 (by decide +kernel) ⟨Nat.le_of_ble_eq_true rfl, Nat.le_of_ble_eq_true rfl⟩, k_instanceMethod_yX4_advance, k_selects_RX4_yX4_advance_yX4_advance⟩ ⟨fun a U g mk q => ⟨q.1, (fun _ _ _ _ => cPe_bl (fun h => cPw_bl h)) a U g mk q.2⟩, va_recv hK hP (ci := 5) (q0 := 8) rfl rfl, fun U hU hW => ⟨rfl, ⟨hEc U hU hW, ⟨by rw [hU], by rw [hU]; exact (hP.sub (ws' := (ww_X4_advance cs ad raR raT xR nT Rv5 T)) [8, 9] rfl), va_K.moved hW.alike hK, (hD.sub (ws' := (ww_X4_advance cs ad raR raT xR nT Rv5 T)) [8, 9] (by decide) rfl).weaken (fun _ _ _ _ => trivial), kN_warm hW hN⟩⟩⟩⟩ rfl rfl hl.1 rfl (lv_room (Nat.le_of_ble_eq_true rfl)) dX3_readMachine_43 ⟨Nat.le_refl _, Nat.le_refl _⟩) hP hD hS hA rfl rfl (wr := ((wX3 cs ad raO Ov7))) rfl rfl rfl (nw := 10) rfl (by decide +kernel) rfl (fun H locs hP hD hS => ?_)
      refine lv_aload_n hx hb dX3_readMachine_46 rfl (lv_at hl 1 rfl) ?_
      refine lv_iconst (v := 0) hx hb dX3_readMachine_47 (by decide) ?_
      refine lv_sipush (v := 999) hx hb dX3_readMachine_48 (by decide) ?_
      obtain ⟨v11, Rv12, hq10, hf⟩ := bo2_e hf
      refine g_callw (isC := [8, 9]) (isR := [0, 1, 2, 3, 4, 5, 6, 7]) (wc := (ww_X4_needsNumber cs ad raR raT xR nT Rv9 T)) (wz := (ww_X4_needsNumber cs ad raR raT xR nT zD (fun _ => 0))) (w1 := (ww_X4_needsNumber cs ad raR raT xR nT Rv12 T)) (ws' := (ww_X3_readMachine cs ad raO raR raT xR nT Ov7 Rv12 T)) (v := v11) (va_runVN (As := [.int (0 : Int32), .int (999 : Int32)]) (rest := []) ⟨hx, hb, hml, hown, hts⟩ (c_X4_needsNumber l dC dI cs ad raR raT xR nT _ Rv9 T (0 : Int32) (999 : Int32) (v11, Rv12) hq10) ⟨va_cnB 2 hts gX3_readMachine_X4_needsNumber_n130 rfl rfl rfl (hN _ (List.mem_of_getElem? (i := 79) rfl)) k_initialized_RX4 (by decide +kernel) ⟨Nat.le_of_ble_eq_true rfl, Nat.le_of_ble_eq_true rfl⟩, k_instanceMethod_yX4_needsNumber, k_selects_RX4_yX4_needsNumber_yX4_needsNumber⟩ ⟨fun a U g mk q => ⟨q.1, (fun _ _ _ _ => cPw_bl) a U g mk q.2⟩, va_recv hK hP (ci := 5) (q0 := 8) rfl rfl, fun U hU hW => ⟨rfl, ⟨by rw [hU], by rw [hU]; exact (hP.sub (ws' := (ww_X4_needsNumber cs ad raR raT xR nT Rv9 T)) [8, 9] rfl), va_K.moved hW.alike hK, (hD.sub (ws' := (ww_X4_needsNumber cs ad raR raT xR nT Rv9 T)) [8, 9] (by decide) rfl).weaken (fun _ _ _ _ => trivial), kN_warm hW hN⟩⟩⟩ rfl rfl hl.1 rfl (lv_room (Nat.le_of_ble_eq_true rfl)) dX3_readMachine_51 ⟨Nat.le_refl _, Nat.le_refl _⟩) hP hD hS hA rfl rfl (wr := ((wX3 cs ad raO Ov7))) rfl rfl rfl (nw := 10) rfl (by decide +kernel) rfl (fun H locs hP hD hS => ?_)
      refine lv_if_ne (tgt := 59) hx hb dX3_readMachine_54 (by decide) (fun hb20 => ?_) (fun hb20 => ?_)
      · have hf := (if_neg hb20).symm.trans hf
        refine lv_aload_n hx hb dX3_readMachine_59 rfl (lv_at hl 0 rfl) ?_
        refine va_get (D := (dC, dI)) (ci := 4) (C := RX3) (T := TX3) (N := 11) hx hb hts hinX3 hown hK hP 0 rfl rfl 5 (by decide) (v := .ref (raO 5)) k_fieldLink_RX3_15__KeyLetters_Office___ink____I_ (fun _ h9 => h9) rfl dX3_readMachine_60 ?_
        refine lv_aload_n hx hb dX3_readMachine_63 rfl (lv_at hl 0 rfl) ?_
        refine va_get (D := (dC, dI)) (ci := 4) (C := RX3) (T := TX3) (N := 11) hx hb hts hinX3 hown hK hP 0 rfl rfl 1 (by decide) (v := .int (Ov7.1 0 1)) k_fieldLink_RX3_38__KeyLetters_Office___machines___I_ (fun _ h9 => h9) rfl dX3_readMachine_64 ?_
        refine lv_aload_n hx hb dX3_readMachine_67 rfl (lv_at hl 1 rfl) ?_
        refine va_getN (D := (dC, dI)) (ci := 5) (C := RX4) (T := TX4) (N := 11) hx hb hts hinX4 hown hK hP 8 rfl rfl 8 (by decide) (v := .int (Rv12.1 0 8)) (va_Nw.use rfl (hN _ (List.mem_of_getElem? (i := 5) rfl))) (fun _ h9 => h9) rfl dX3_readMachine_68 ?_
        obtain ⟨hc13, hf⟩ := ck_e hf
        obtain ⟨Ov14, eOv14, hf⟩ := bd1_e hf
        refine va_iast hx hb hK hP hD hS 2 1 rfl rfl hc13 dX3_readMachine_71 (fun H locs hP hD hS => ?_)
        have hP : va_P (dC, dI) vwCl (ww_X3_readMachine cs ad raO raR raT xR nT Ov14 Rv12 T) H := g_toP (by rw [eOv14]; rfl) hP
        have hD : va_D (va_A (ww_X3_readMachine cs ad raO raR raT xR nT zD zD (fun _ => 0)) s.heap.size) (ww_X3_readMachine cs ad raO raR raT xR nT Ov14 Rv12 T) := g_toD (by rw [eOv14]; rfl) hD
        refine lv_aload_n hx hb dX3_readMachine_72 rfl (lv_at hl 0 rfl) ?_
        refine va_get (D := (dC, dI)) (ci := 4) (C := RX3) (T := TX3) (N := 11) hx hb hts hinX3 hown hK hP 0 rfl rfl 6 (by decide) (v := .ref (raO 6)) k_fieldLink_RX3_19__KeyLetters_Office___known____I_ (fun _ h9 => h9) rfl dX3_readMachine_73 ?_
        refine lv_aload_n hx hb dX3_readMachine_76 rfl (lv_at hl 0 rfl) ?_
        refine va_get (D := (dC, dI)) (ci := 4) (C := RX3) (T := TX3) (N := 11) hx hb hts hinX3 hown hK hP 0 rfl rfl 1 (by decide) (v := .int (Ov14.1 0 1)) k_fieldLink_RX3_38__KeyLetters_Office___machines___I_ (fun _ h9 => h9) rfl dX3_readMachine_77 ?_
        refine lv_iconst (v := 0) hx hb dX3_readMachine_80 (by decide) ?_
        obtain ⟨hc15, hf⟩ := ck_e hf
        obtain ⟨Ov16, eOv16, hf⟩ := bd1_e hf
        refine va_iast hx hb hK hP hD hS 3 1 rfl rfl hc15 dX3_readMachine_81 (fun H locs hP hD hS => ?_)
        have hP : va_P (dC, dI) vwCl (ww_X3_readMachine cs ad raO raR raT xR nT Ov16 Rv12 T) H := g_toP (by rw [eOv16]; rfl) hP
        have hD : va_D (va_A (ww_X3_readMachine cs ad raO raR raT xR nT zD zD (fun _ => 0)) s.heap.size) (ww_X3_readMachine cs ad raO raR raT xR nT Ov16 Rv12 T) := g_toD (by rw [eOv16]; rfl) hD
        refine lv_aload_n hx hb dX3_readMachine_82 rfl (lv_at hl 0 rfl) ?_
        refine lv_dup hx hb dX3_readMachine_83 rfl ?_
        refine va_get (D := (dC, dI)) (ci := 4) (C := RX3) (T := TX3) (N := 11) hx hb hts hinX3 hown hK hP 0 rfl rfl 1 (by decide) (v := .int (Ov16.1 0 1)) k_fieldLink_RX3_38__KeyLetters_Office___machines___I_ (fun _ h9 => h9) rfl dX3_readMachine_84 ?_
        refine lv_iconst (v := 1) hx hb dX3_readMachine_87 (by decide) ?_
        refine lv_iadd hx hb dX3_readMachine_88 ?_
        obtain ⟨Ov17, eOv17, hf⟩ := bd1_e hf
        refine g_put (D := (dC, dI)) (ci := 4) (C := RX3) (T := TX3) (N := 11) hx hb hts hinX3 tyX3 tyX3_ok nmX3 hown hK hP hD hS 0 rfl rfl 1 (by decide) k_fieldLink_RX3_38__KeyLetters_Office___machines___I_ (fun _ h9 => h9) rfl (ty := .int) (v := .int ((Ov16.1 0 1) + (1 : Int32))) (by decide +kernel) rfl rfl (Nat.le_of_ble_eq_true rfl) (ws' := (ww_X3_readMachine cs ad raO raR raT xR nT Ov17 Rv12 T)) (by rw [eOv17]; rfl) dX3_readMachine_89 (fun H locs hP hD hS => ?_)
        refine lv_aload_n hx hb dX3_readMachine_92 rfl (lv_at hl 1 rfl) ?_
        obtain ⟨Rv19, hq18, hf⟩ := bo_e hf
        have hEc := cE_sub (A1 := va_A (ww_X4_advance cs ad raR raT xR nT zD (fun _ => 0)) _) hE hS (cA_free (isC := [8, 9]) (wc := (ww_X4_advance cs ad raR raT xR nT Rv12 T)) (wz := (ww_X4_advance cs ad raR raT xR nT zD (fun _ => 0))) rfl rfl hD hS hA)
        refine g_callv (isC := [8, 9]) (isR := [0, 1, 2, 3, 4, 5, 6, 7]) (wc := (ww_X4_advance cs ad raR raT xR nT Rv12 T)) (wz := (ww_X4_advance cs ad raR raT xR nT zD (fun _ => 0))) (w1 := (ww_X4_advance cs ad raR raT xR nT Rv19 T)) (ws' := (ww_X3_readMachine cs ad raO raR raT xR nT Ov17 Rv19 T)) (va_runVN (As := []) (rest := []) ⟨hx, hb, hml, hown, hts⟩ (c_X4_advance l dC dI cs ad raR raT xR nT _ Rv12 T Rv19 hq18) ⟨va_cnB 0 hts gX3_readMachine_X4_advance_n120 rfl rfl rfl (hN _ (List.mem_of_getElem? (i := 76) rfl)) k_initialized_RX4 (by decide +kernel) ⟨Nat.le_of_ble_eq_true rfl, Nat.le_of_ble_eq_true rfl⟩, k_instanceMethod_yX4_advance, k_selects_RX4_yX4_advance_yX4_advance⟩ ⟨fun a U g mk q => ⟨q.1, (fun _ _ _ _ => cPe_bl (fun h => cPw_bl h)) a U g mk q.2⟩, va_recv hK hP (ci := 5) (q0 := 8) rfl rfl, fun U hU hW => ⟨rfl, ⟨hEc U hU hW, ⟨by rw [hU], by rw [hU]; exact (hP.sub (ws' := (ww_X4_advance cs ad raR raT xR nT Rv12 T)) [8, 9] rfl), va_K.moved hW.alike hK, (hD.sub (ws' := (ww_X4_advance cs ad raR raT xR nT Rv12 T)) [8, 9] (by decide) rfl).weaken (fun _ _ _ _ => trivial), kN_warm hW hN⟩⟩⟩⟩ rfl rfl hl.1 rfl (lv_room (Nat.le_of_ble_eq_true rfl)) dX3_readMachine_93 ⟨Nat.le_refl _, Nat.le_refl _⟩) hP hD hS hA rfl rfl (wr := ((wX3 cs ad raO Ov17))) rfl rfl rfl (nw := 10) rfl (by decide +kernel) rfl (fun H locs hP hD hS => ?_)
        refine lv_iconst (v := 1) hx hb dX3_readMachine_96 (by decide) ?_
        have hf := Option.some.inj hf
        subst hf
        exact c_zret (v := (1 : Int32)) hx hb hr rfl hlocks hP hK hD hS dX3_readMachine_97
      · have hf := (if_pos hb20).symm.trans hf
        refine lv_iconst (v := 0) hx hb dX3_readMachine_57 (by decide) ?_
        have hf := Option.some.inj hf
        subst hf
        exact c_zret (v := (0 : Int32)) hx hb hr rfl hlocks hP hK hD hS dX3_readMachine_58
    · have hf := (if_pos hb21).symm.trans hf
      refine lv_iconst (v := 0) hx hb dX3_readMachine_27 (by decide) ?_
      have hf := Option.some.inj hf
      subst hf
      exact c_zret (v := (0 : Int32)) hx hb hr rfl hlocks hP hK hD hS dX3_readMachine_28
  · have hf := (if_neg hb26).symm.trans hf
    refine lv_aload_n hx hb dX3_readMachine_9 rfl (lv_at hl 1 rfl) ?_
    refine lv_iconst (v := 4) hx hb dX3_readMachine_10 (by decide) ?_
    obtain ⟨v23, Rv24, hq22, hf⟩ := bo2_e hf
    refine g_callw (isC := [8, 9]) (isR := [0, 1, 2, 3, 4, 5, 6, 7]) (wc := (ww_X4_refuse cs ad raR raT xR nT R T)) (wz := (ww_X4_refuse cs ad raR raT xR nT zD (fun _ => 0))) (w1 := (ww_X4_refuse cs ad raR raT xR nT Rv24 T)) (ws' := (ww_X3_readMachine cs ad raO raR raT xR nT O Rv24 T)) (v := v23) (va_runVN (As := [.int (4 : Int32)]) (rest := []) ⟨hx, hb, hml, hown, hts⟩ (c_X4_refuse l dC dI cs ad raR raT xR nT _ R T (4 : Int32) (v23, Rv24) hq22) ⟨va_cnB 1 hts gX3_readMachine_X4_refuse_n117 rfl rfl rfl (hN _ (List.mem_of_getElem? (i := 75) rfl)) k_initialized_RX4 (by decide +kernel) ⟨Nat.le_of_ble_eq_true rfl, Nat.le_of_ble_eq_true rfl⟩, k_instanceMethod_yX4_refuse, k_selects_RX4_yX4_refuse_yX4_refuse⟩ ⟨fun a U g mk q => ⟨q.1, (fun _ _ _ _ => cPw_bl) a U g mk q.2⟩, va_recv hK hP (ci := 5) (q0 := 8) rfl rfl, fun U hU hW => ⟨rfl, ⟨by rw [hU], by rw [hU]; exact (hP.sub (ws' := (ww_X4_refuse cs ad raR raT xR nT R T)) [8, 9] rfl), va_K.moved hW.alike hK, (hD.sub (ws' := (ww_X4_refuse cs ad raR raT xR nT R T)) [8, 9] (by decide) rfl).weaken (fun _ _ _ _ => trivial), kN_warm hW hN⟩⟩⟩ rfl rfl hl.1 rfl (lv_room (Nat.le_of_ble_eq_true rfl)) dX3_readMachine_11 ⟨Nat.le_refl _, Nat.le_refl _⟩) hP hD hS hA rfl rfl (wr := ((wX3 cs ad raO O))) rfl rfl rfl (nw := 10) rfl (by decide +kernel) rfl (fun H locs hP hD hS => ?_)
    obtain ⟨hc25, hf⟩ := ck_e hf
    have hf := Option.some.inj hf
    subst hf
    exact c_zret (v := v23) hx hb hr (kt_z (Decidable.not_not.mp hc25)) hlocks hP hK hD hS dX3_readMachine_14

def ww_X3_readPhrase (cs : Nat → ClassId) (ad : Nat → Nat) (raO : Nat → Nat) (raR : Nat → Nat) (raT : Nat) (xR : Nat) (nT : Nat) (O : kD) (R : kD) (T : Nat → Int32) : va_W := (wX3 cs ad raO O ++ (wX4 cs ad raR xR raT R ++ ([(raT, .inl (cs 1, nT, .inl T))])))
abbrev rm_X3_readPhrase : Room := { frames := 6, cells := 0, slots := 0, locals := 166 }
set_option maxHeartbeats 4000000 in
set_option maxRecDepth 100000 in
theorem c_X3_readPhrase (l : Launch) (dC : Nat → ClassId) (dI : Nat → Nat → Nat) (cs : Nat → ClassId) (ad : Nat → Nat) (raO : Nat → Nat) (raR : Nat → Nat) (raT : Nat) (xR : Nat) (nT : Nat) (sz : Nat) (O : kD) (R : kD) (T : Nat → Int32) (r : Int32 × kD × kD) (hf : f_X3_readPhrase nT O R T = some r) : Met l yX3_readPhrase wsX3_readPhrase rm_X3_readPhrase (va_Pc [.ref (raO 0), .ref (raR 0)] (cPe ad (va_A (ww_X3_readPhrase cs ad raO raR raT xR nT zD zD (fun _ => 0)) sz) (cPw dC dI cs sz (ww_X3_readPhrase cs ad raO raR raT xR nT O R T)))) (cQi dC dI cs (va_A (ww_X3_readPhrase cs ad raO raR raT xR nT zD zD (fun _ => 0)) sz) r.1 (ww_X3_readPhrase cs ad raO raR raT xR nT r.2.1 r.2.2 T)) 0 0 (va_A (ww_X3_readPhrase cs ad raO raR raT xR nT zD zD (fun _ => 0)) sz) := by
  refine Met.ofW (cc := cX3_readPhrase) (maxL := 2) (ret := (some .boolean)) (by decide) rfl ?_
  intro p e s m args below meth c s₁ B hml hv
  obtain ⟨hav, hE, hsz, hP, hK, hD0, hN⟩ := hv
  have hx := B.exec
  have hb := B.bytes
  have hr := B.returns
  have hts := atoms_spec (ws := wsX3_readPhrase) B.pre
  have hown : s.vm.findClass RX3 = some m.cls := findClass_of_methodNamed B.named
  have hlocks := B.notSynchronized
  subst hsz
  have hA : ∀ q, s.heap.size ≤ q → va_A (ww_X3_readPhrase cs ad raO raR raT xR nT zD zD (fun _ => 0)) s.heap.size q := fun q h => Or.inr h
  have hD : va_D (va_A (ww_X3_readPhrase cs ad raO raR raT xR nT zD zD (fun _ => 0)) s.heap.size) (ww_X3_readPhrase cs ad raO raR raT xR nT O R T) := hD0.weaken (fun k q h _ => cA_in (ws := (ww_X3_readPhrase cs ad raO raR raT xR nT O R T)) (ws' := (ww_X3_readPhrase cs ad raO raR raT xR nT zD zD (fun _ => 0))) rfl h)
  have hS : va_S (va_A (ww_X3_readPhrase cs ad raO raR raT xR nT zD zD (fun _ => 0)) s.heap.size) s.heap s.heap [] := va_S.rf
  have hinX3 := (show ∀ w ∈ wsX30, w ∈ wsX3_readPhrase from fun w h => List.mem_cons_of_mem _ (List.mem_append_left _ (List.mem_append_right _ h)))
  have hinX4 := (show ∀ w ∈ wsX40, w ∈ wsX3_readPhrase from fun w h => List.mem_cons_of_mem _ (List.mem_append_right _ h))
  have k_fieldLink_RX3_22__KeyLetters_Office___phraseNames____J_ := hts (.fieldLink RX3 22 "KeyLetters$Office" "phraseNames" "[J") (List.mem_of_getElem? (i := 2) rfl)
  have k_fieldLink_RX3_25__KeyLetters_Office___sizes____I_ := hts (.fieldLink RX3 25 "KeyLetters$Office" "sizes" "[I") (List.mem_of_getElem? (i := 3) rfl)
  have k_fieldLink_RX3_28__KeyLetters_Office___claims____I_ := hts (.fieldLink RX3 28 "KeyLetters$Office" "claims" "[I") (List.mem_of_getElem? (i := 4) rfl)
  have k_fieldLink_RX3_31__KeyLetters_Office___answers____I_ := hts (.fieldLink RX3 31 "KeyLetters$Office" "answers" "[I") (List.mem_of_getElem? (i := 5) rfl)
  have k_fieldLink_RX3_41__KeyLetters_Office___phrases___I_ := hts (.fieldLink RX3 41 "KeyLetters$Office" "phrases" "I") (List.mem_of_getElem? (i := 1) rfl)
  have k_initialized_RX4 := hts (.initialized RX4) (List.mem_of_getElem? (i := 7) rfl)
  have k_instanceMethod_yX4_advance := hts (.instanceMethod yX4_advance) (List.mem_of_getElem? (i := 13) rfl)
  have k_instanceMethod_yX4_needsNumber := hts (.instanceMethod yX4_needsNumber) (List.mem_of_getElem? (i := 108) rfl)
  have k_instanceMethod_yX4_refuse := hts (.instanceMethod yX4_refuse) (List.mem_of_getElem? (i := 6) rfl)
  have k_selects_RX4_yX4_advance_yX4_advance := hts (.selects RX4 yX4_advance yX4_advance) (List.mem_of_getElem? (i := 14) rfl)
  have k_selects_RX4_yX4_needsNumber_yX4_needsNumber := hts (.selects RX4 yX4_needsNumber yX4_needsNumber) (List.mem_of_getElem? (i := 109) rfl)
  have k_selects_RX4_yX4_refuse_yX4_refuse := hts (.selects RX4 yX4_refuse yX4_refuse) (List.mem_of_getElem? (i := 8) rfl)
  have hl := lv_entry ([.ref (raO 0), .ref (raR 0)]) (n := 2) (Nat.le_of_ble_eq_true rfl)
  rw [show entryFrame m args 2 = entryFrame m ([.ref (raO 0), .ref (raR 0)] : List Value).toArray 2 from by rw [hav], lg_entry_eq]
  generalize (lg_sl ([.ref (raO 0), .ref (raR 0)]) ++ List.replicate (2 - (lg_sl ([.ref (raO 0), .ref (raR 0)])).length) Slot.unset).toArray = ls at hl ⊢
  have hl : lv_has ls 2 [(0, .ref (raO 0)), (1, .ref (raR 0))] := hl
  unfold f_X3_readPhrase at hf
  refine lv_aload_n hx hb dX3_readPhrase_0 rfl (lv_at hl 0 rfl) ?_
  refine va_get (D := (dC, dI)) (ci := 4) (C := RX3) (T := TX3) (N := 11) hx hb hts hinX3 hown hK hP 0 rfl rfl 2 (by decide) (v := .int (O.1 0 2)) k_fieldLink_RX3_41__KeyLetters_Office___phrases___I_ (fun _ h9 => h9) rfl dX3_readPhrase_1 ?_
  refine lv_bipush (v := 8) hx hb dX3_readPhrase_4 (by decide) ?_
  refine lv_icmp_lt (tgt := 15) hx hb dX3_readPhrase_6 (by decide) (fun hb34 => ?_) (fun hb34 => ?_)
  · have hf := (if_pos hb34).symm.trans hf
    refine lv_aload_n hx hb dX3_readPhrase_15 rfl (lv_at hl 1 rfl) ?_
    obtain ⟨Rv2, hq1, hf⟩ := bo_e hf
    have hEc := cE_sub (A1 := va_A (ww_X4_advance cs ad raR raT xR nT zD (fun _ => 0)) _) hE hS (cA_free (isC := [8, 9]) (wc := (ww_X4_advance cs ad raR raT xR nT R T)) (wz := (ww_X4_advance cs ad raR raT xR nT zD (fun _ => 0))) rfl rfl hD hS hA)
    refine g_callv (isC := [8, 9]) (isR := [0, 1, 2, 3, 4, 5, 6, 7]) (wc := (ww_X4_advance cs ad raR raT xR nT R T)) (wz := (ww_X4_advance cs ad raR raT xR nT zD (fun _ => 0))) (w1 := (ww_X4_advance cs ad raR raT xR nT Rv2 T)) (ws' := (ww_X3_readPhrase cs ad raO raR raT xR nT O Rv2 T)) (va_runVN (As := []) (rest := []) ⟨hx, hb, hml, hown, hts⟩ (c_X4_advance l dC dI cs ad raR raT xR nT _ R T Rv2 hq1) ⟨va_cnB 0 hts gX3_readPhrase_X4_advance_n120 rfl rfl rfl (hN _ (List.mem_of_getElem? (i := 76) rfl)) k_initialized_RX4 (by decide +kernel) ⟨Nat.le_of_ble_eq_true rfl, Nat.le_of_ble_eq_true rfl⟩, k_instanceMethod_yX4_advance, k_selects_RX4_yX4_advance_yX4_advance⟩ ⟨fun a U g mk q => ⟨q.1, (fun _ _ _ _ => cPe_bl (fun h => cPw_bl h)) a U g mk q.2⟩, va_recv hK hP (ci := 5) (q0 := 8) rfl rfl, fun U hU hW => ⟨rfl, ⟨hEc U hU hW, ⟨by rw [hU], by rw [hU]; exact (hP.sub (ws' := (ww_X4_advance cs ad raR raT xR nT R T)) [8, 9] rfl), va_K.moved hW.alike hK, (hD.sub (ws' := (ww_X4_advance cs ad raR raT xR nT R T)) [8, 9] (by decide) rfl).weaken (fun _ _ _ _ => trivial), kN_warm hW hN⟩⟩⟩⟩ rfl rfl hl.1 rfl (lv_room (Nat.le_of_ble_eq_true rfl)) dX3_readPhrase_16 ⟨Nat.le_refl _, Nat.le_refl _⟩) hP hD hS hA rfl rfl (wr := ((wX3 cs ad raO O))) rfl rfl rfl (nw := 10) rfl (by decide +kernel) rfl (fun H locs hP hD hS => ?_)
    refine lv_aload_n hx hb dX3_readPhrase_19 rfl (lv_at hl 0 rfl) ?_
    refine lv_aload_n hx hb dX3_readPhrase_20 rfl (lv_at hl 1 rfl) ?_
    obtain ⟨v4, Rv5, hq3, hf⟩ := bo2_e hf
    have hEc := cE_sub (A1 := va_A (ww_X3_needsNewName cs ad raO raR raT xR nT zD zD (fun _ => 0)) _) hE hS (cA_free (isC := [0, 1, 2, 3, 4, 5, 6, 7, 8, 9]) (wc := (ww_X3_needsNewName cs ad raO raR raT xR nT O Rv2 T)) (wz := (ww_X3_needsNewName cs ad raO raR raT xR nT zD zD (fun _ => 0))) rfl rfl hD hS hA)
    refine g_callw (isC := [0, 1, 2, 3, 4, 5, 6, 7, 8, 9]) (isR := []) (wc := (ww_X3_needsNewName cs ad raO raR raT xR nT O Rv2 T)) (wz := (ww_X3_needsNewName cs ad raO raR raT xR nT zD zD (fun _ => 0))) (w1 := (ww_X3_needsNewName cs ad raO raR raT xR nT O Rv5 T)) (ws' := (ww_X3_readPhrase cs ad raO raR raT xR nT O Rv5 T)) (v := v4) (va_runV (As := [.ref (raR 0)]) (rest := []) ⟨hx, hb, hml, hown, hts⟩ (c_X3_needsNewName l dC dI cs ad raO raR raT xR nT _ O Rv2 T (v4, Rv5) hq3) (cwV 1 hts gX3_readPhrase_X3_needsNewName rfl rfl rfl (by decide +kernel) ⟨Nat.le_of_ble_eq_true rfl, Nat.le_of_ble_eq_true rfl⟩) ⟨fun a U g mk q => ⟨q.1, (fun _ _ _ _ => cPe_bl (fun h => cPw_bl h)) a U g mk q.2⟩, va_recv hK hP (ci := 4) (q0 := 0) rfl rfl, fun U hU hW => ⟨rfl, ⟨hEc U hU hW, ⟨by rw [hU], by rw [hU]; exact (hP.sub (ws' := (ww_X3_needsNewName cs ad raO raR raT xR nT O Rv2 T)) [0, 1, 2, 3, 4, 5, 6, 7, 8, 9] rfl), va_K.moved hW.alike hK, (hD.sub (ws' := (ww_X3_needsNewName cs ad raO raR raT xR nT O Rv2 T)) [0, 1, 2, 3, 4, 5, 6, 7, 8, 9] (by decide) rfl).weaken (fun _ _ _ _ => trivial), kN_warm hW hN⟩⟩⟩⟩ rfl rfl hl.1 rfl (lv_room (Nat.le_of_ble_eq_true rfl)) dX3_readPhrase_21 ⟨Nat.le_refl _, Nat.le_refl _⟩) hP hD hS hA rfl rfl (wr := ([] : va_W)) rfl rfl rfl (nw := 10) rfl (by decide +kernel) rfl (fun H locs hP hD hS => ?_)
    refine lv_if_ne (tgt := 29) hx hb dX3_readPhrase_24 (by decide) (fun hb29 => ?_) (fun hb29 => ?_)
    · have hf := (if_neg hb29).symm.trans hf
      refine lv_aload_n hx hb dX3_readPhrase_29 rfl (lv_at hl 0 rfl) ?_
      refine va_get (D := (dC, dI)) (ci := 4) (C := RX3) (T := TX3) (N := 11) hx hb hts hinX3 hown hK hP 0 rfl rfl 7 (by decide) (v := .ref (raO 7)) k_fieldLink_RX3_22__KeyLetters_Office___phraseNames____J_ (fun _ h9 => h9) rfl dX3_readPhrase_30 ?_
      refine lv_aload_n hx hb dX3_readPhrase_33 rfl (lv_at hl 0 rfl) ?_
      refine va_get (D := (dC, dI)) (ci := 4) (C := RX3) (T := TX3) (N := 11) hx hb hts hinX3 hown hK hP 0 rfl rfl 2 (by decide) (v := .int (O.1 0 2)) k_fieldLink_RX3_41__KeyLetters_Office___phrases___I_ (fun _ h9 => h9) rfl dX3_readPhrase_34 ?_
      refine lv_aload_n hx hb dX3_readPhrase_37 rfl (lv_at hl 1 rfl) ?_
      refine va_getN (D := (dC, dI)) (ci := 5) (C := RX4) (T := TX4) (N := 11) hx hb hts hinX4 hown hK hP 8 rfl rfl 7 (by decide) (v := .long (Rv5.2 0 7)) (va_Nw.use rfl (hN _ (List.mem_of_getElem? (i := 2) rfl))) (fun _ h9 => h9) rfl dX3_readPhrase_38 ?_
      obtain ⟨hc6, hf⟩ := ck_e hf
      obtain ⟨Ov7, eOv7, hf⟩ := bd1_e hf
      refine va_last hx hb hK hP hD hS 4 2 rfl rfl hc6 dX3_readPhrase_41 (fun H locs hP hD hS => ?_)
      have hP : va_P (dC, dI) vwCl (ww_X3_readPhrase cs ad raO raR raT xR nT Ov7 Rv5 T) H := g_toP (by rw [eOv7]; rfl) hP
      have hD : va_D (va_A (ww_X3_readPhrase cs ad raO raR raT xR nT zD zD (fun _ => 0)) s.heap.size) (ww_X3_readPhrase cs ad raO raR raT xR nT Ov7 Rv5 T) := g_toD (by rw [eOv7]; rfl) hD
      refine lv_aload_n hx hb dX3_readPhrase_42 rfl (lv_at hl 1 rfl) ?_
      obtain ⟨Rv9, hq8, hf⟩ := bo_e hf
      have hEc := cE_sub (A1 := va_A (ww_X4_advance cs ad raR raT xR nT zD (fun _ => 0)) _) hE hS (cA_free (isC := [8, 9]) (wc := (ww_X4_advance cs ad raR raT xR nT Rv5 T)) (wz := (ww_X4_advance cs ad raR raT xR nT zD (fun _ => 0))) rfl rfl hD hS hA)
      refine g_callv (isC := [8, 9]) (isR := [0, 1, 2, 3, 4, 5, 6, 7]) (wc := (ww_X4_advance cs ad raR raT xR nT Rv5 T)) (wz := (ww_X4_advance cs ad raR raT xR nT zD (fun _ => 0))) (w1 := (ww_X4_advance cs ad raR raT xR nT Rv9 T)) (ws' := (ww_X3_readPhrase cs ad raO raR raT xR nT Ov7 Rv9 T)) (va_runVN (As := []) (rest := []) ⟨hx, hb, hml, hown, hts⟩ (c_X4_advance l dC dI cs ad raR raT xR nT _ Rv5 T Rv9 hq8) ⟨va_cnB 0 hts gX3_readPhrase_X4_advance_n120 rfl rfl rfl (hN _ (List.mem_of_getElem? (i := 76) rfl)) k_initialized_RX4 (by decide +kernel) ⟨Nat.le_of_ble_eq_true rfl, Nat.le_of_ble_eq_true rfl⟩, k_instanceMethod_yX4_advance, k_selects_RX4_yX4_advance_yX4_advance⟩ ⟨fun a U g mk q => ⟨q.1, (fun _ _ _ _ => cPe_bl (fun h => cPw_bl h)) a U g mk q.2⟩, va_recv hK hP (ci := 5) (q0 := 8) rfl rfl, fun U hU hW => ⟨rfl, ⟨hEc U hU hW, ⟨by rw [hU], by rw [hU]; exact (hP.sub (ws' := (ww_X4_advance cs ad raR raT xR nT Rv5 T)) [8, 9] rfl), va_K.moved hW.alike hK, (hD.sub (ws' := (ww_X4_advance cs ad raR raT xR nT Rv5 T)) [8, 9] (by decide) rfl).weaken (fun _ _ _ _ => trivial), kN_warm hW hN⟩⟩⟩⟩ rfl rfl hl.1 rfl (lv_room (Nat.le_of_ble_eq_true rfl)) dX3_readPhrase_43 ⟨Nat.le_refl _, Nat.le_refl _⟩) hP hD hS hA rfl rfl (wr := ((wX3 cs ad raO Ov7))) rfl rfl rfl (nw := 10) rfl (by decide +kernel) rfl (fun H locs hP hD hS => ?_)
      refine lv_aload_n hx hb dX3_readPhrase_46 rfl (lv_at hl 1 rfl) ?_
      refine lv_iconst (v := 1) hx hb dX3_readPhrase_47 (by decide) ?_
      refine lv_bipush (v := 40) hx hb dX3_readPhrase_48 (by decide) ?_
      obtain ⟨v11, Rv12, hq10, hf⟩ := bo2_e hf
      refine g_callw (isC := [8, 9]) (isR := [0, 1, 2, 3, 4, 5, 6, 7]) (wc := (ww_X4_needsNumber cs ad raR raT xR nT Rv9 T)) (wz := (ww_X4_needsNumber cs ad raR raT xR nT zD (fun _ => 0))) (w1 := (ww_X4_needsNumber cs ad raR raT xR nT Rv12 T)) (ws' := (ww_X3_readPhrase cs ad raO raR raT xR nT Ov7 Rv12 T)) (v := v11) (va_runVN (As := [.int (1 : Int32), .int (40 : Int32)]) (rest := []) ⟨hx, hb, hml, hown, hts⟩ (c_X4_needsNumber l dC dI cs ad raR raT xR nT _ Rv9 T (1 : Int32) (40 : Int32) (v11, Rv12) hq10) ⟨va_cnB 2 hts gX3_readPhrase_X4_needsNumber_n130 rfl rfl rfl (hN _ (List.mem_of_getElem? (i := 79) rfl)) k_initialized_RX4 (by decide +kernel) ⟨Nat.le_of_ble_eq_true rfl, Nat.le_of_ble_eq_true rfl⟩, k_instanceMethod_yX4_needsNumber, k_selects_RX4_yX4_needsNumber_yX4_needsNumber⟩ ⟨fun a U g mk q => ⟨q.1, (fun _ _ _ _ => cPw_bl) a U g mk q.2⟩, va_recv hK hP (ci := 5) (q0 := 8) rfl rfl, fun U hU hW => ⟨rfl, ⟨by rw [hU], by rw [hU]; exact (hP.sub (ws' := (ww_X4_needsNumber cs ad raR raT xR nT Rv9 T)) [8, 9] rfl), va_K.moved hW.alike hK, (hD.sub (ws' := (ww_X4_needsNumber cs ad raR raT xR nT Rv9 T)) [8, 9] (by decide) rfl).weaken (fun _ _ _ _ => trivial), kN_warm hW hN⟩⟩⟩ rfl rfl hl.1 rfl (lv_room (Nat.le_of_ble_eq_true rfl)) dX3_readPhrase_50 ⟨Nat.le_refl _, Nat.le_refl _⟩) hP hD hS hA rfl rfl (wr := ((wX3 cs ad raO Ov7))) rfl rfl rfl (nw := 10) rfl (by decide +kernel) rfl (fun H locs hP hD hS => ?_)
      refine lv_if_ne (tgt := 58) hx hb dX3_readPhrase_53 (by decide) (fun hb28 => ?_) (fun hb28 => ?_)
      · have hf := (if_neg hb28).symm.trans hf
        refine lv_aload_n hx hb dX3_readPhrase_58 rfl (lv_at hl 0 rfl) ?_
        refine va_get (D := (dC, dI)) (ci := 4) (C := RX3) (T := TX3) (N := 11) hx hb hts hinX3 hown hK hP 0 rfl rfl 8 (by decide) (v := .ref (raO 8)) k_fieldLink_RX3_25__KeyLetters_Office___sizes____I_ (fun _ h9 => h9) rfl dX3_readPhrase_59 ?_
        refine lv_aload_n hx hb dX3_readPhrase_62 rfl (lv_at hl 0 rfl) ?_
        refine va_get (D := (dC, dI)) (ci := 4) (C := RX3) (T := TX3) (N := 11) hx hb hts hinX3 hown hK hP 0 rfl rfl 2 (by decide) (v := .int (Ov7.1 0 2)) k_fieldLink_RX3_41__KeyLetters_Office___phrases___I_ (fun _ h9 => h9) rfl dX3_readPhrase_63 ?_
        refine lv_aload_n hx hb dX3_readPhrase_66 rfl (lv_at hl 1 rfl) ?_
        refine va_getN (D := (dC, dI)) (ci := 5) (C := RX4) (T := TX4) (N := 11) hx hb hts hinX4 hown hK hP 8 rfl rfl 8 (by decide) (v := .int (Rv12.1 0 8)) (va_Nw.use rfl (hN _ (List.mem_of_getElem? (i := 5) rfl))) (fun _ h9 => h9) rfl dX3_readPhrase_67 ?_
        obtain ⟨hc13, hf⟩ := ck_e hf
        obtain ⟨Ov14, eOv14, hf⟩ := bd1_e hf
        refine va_iast hx hb hK hP hD hS 5 1 rfl rfl hc13 dX3_readPhrase_70 (fun H locs hP hD hS => ?_)
        have hP : va_P (dC, dI) vwCl (ww_X3_readPhrase cs ad raO raR raT xR nT Ov14 Rv12 T) H := g_toP (by rw [eOv14]; rfl) hP
        have hD : va_D (va_A (ww_X3_readPhrase cs ad raO raR raT xR nT zD zD (fun _ => 0)) s.heap.size) (ww_X3_readPhrase cs ad raO raR raT xR nT Ov14 Rv12 T) := g_toD (by rw [eOv14]; rfl) hD
        refine lv_aload_n hx hb dX3_readPhrase_71 rfl (lv_at hl 1 rfl) ?_
        obtain ⟨Rv16, hq15, hf⟩ := bo_e hf
        have hEc := cE_sub (A1 := va_A (ww_X4_advance cs ad raR raT xR nT zD (fun _ => 0)) _) hE hS (cA_free (isC := [8, 9]) (wc := (ww_X4_advance cs ad raR raT xR nT Rv12 T)) (wz := (ww_X4_advance cs ad raR raT xR nT zD (fun _ => 0))) rfl rfl hD hS hA)
        refine g_callv (isC := [8, 9]) (isR := [0, 1, 2, 3, 4, 5, 6, 7]) (wc := (ww_X4_advance cs ad raR raT xR nT Rv12 T)) (wz := (ww_X4_advance cs ad raR raT xR nT zD (fun _ => 0))) (w1 := (ww_X4_advance cs ad raR raT xR nT Rv16 T)) (ws' := (ww_X3_readPhrase cs ad raO raR raT xR nT Ov14 Rv16 T)) (va_runVN (As := []) (rest := []) ⟨hx, hb, hml, hown, hts⟩ (c_X4_advance l dC dI cs ad raR raT xR nT _ Rv12 T Rv16 hq15) ⟨va_cnB 0 hts gX3_readPhrase_X4_advance_n120 rfl rfl rfl (hN _ (List.mem_of_getElem? (i := 76) rfl)) k_initialized_RX4 (by decide +kernel) ⟨Nat.le_of_ble_eq_true rfl, Nat.le_of_ble_eq_true rfl⟩, k_instanceMethod_yX4_advance, k_selects_RX4_yX4_advance_yX4_advance⟩ ⟨fun a U g mk q => ⟨q.1, (fun _ _ _ _ => cPe_bl (fun h => cPw_bl h)) a U g mk q.2⟩, va_recv hK hP (ci := 5) (q0 := 8) rfl rfl, fun U hU hW => ⟨rfl, ⟨hEc U hU hW, ⟨by rw [hU], by rw [hU]; exact (hP.sub (ws' := (ww_X4_advance cs ad raR raT xR nT Rv12 T)) [8, 9] rfl), va_K.moved hW.alike hK, (hD.sub (ws' := (ww_X4_advance cs ad raR raT xR nT Rv12 T)) [8, 9] (by decide) rfl).weaken (fun _ _ _ _ => trivial), kN_warm hW hN⟩⟩⟩⟩ rfl rfl hl.1 rfl (lv_room (Nat.le_of_ble_eq_true rfl)) dX3_readPhrase_72 ⟨Nat.le_refl _, Nat.le_refl _⟩) hP hD hS hA rfl rfl (wr := ((wX3 cs ad raO Ov14))) rfl rfl rfl (nw := 10) rfl (by decide +kernel) rfl (fun H locs hP hD hS => ?_)
        refine lv_aload_n hx hb dX3_readPhrase_75 rfl (lv_at hl 1 rfl) ?_
        refine lv_iconst (v := 0) hx hb dX3_readPhrase_76 (by decide) ?_
        refine lv_bipush (v := 99) hx hb dX3_readPhrase_77 (by decide) ?_
        obtain ⟨v18, Rv19, hq17, hf⟩ := bo2_e hf
        refine g_callw (isC := [8, 9]) (isR := [0, 1, 2, 3, 4, 5, 6, 7]) (wc := (ww_X4_needsNumber cs ad raR raT xR nT Rv16 T)) (wz := (ww_X4_needsNumber cs ad raR raT xR nT zD (fun _ => 0))) (w1 := (ww_X4_needsNumber cs ad raR raT xR nT Rv19 T)) (ws' := (ww_X3_readPhrase cs ad raO raR raT xR nT Ov14 Rv19 T)) (v := v18) (va_runVN (As := [.int (0 : Int32), .int (99 : Int32)]) (rest := []) ⟨hx, hb, hml, hown, hts⟩ (c_X4_needsNumber l dC dI cs ad raR raT xR nT _ Rv16 T (0 : Int32) (99 : Int32) (v18, Rv19) hq17) ⟨va_cnB 2 hts gX3_readPhrase_X4_needsNumber_n130 rfl rfl rfl (hN _ (List.mem_of_getElem? (i := 79) rfl)) k_initialized_RX4 (by decide +kernel) ⟨Nat.le_of_ble_eq_true rfl, Nat.le_of_ble_eq_true rfl⟩, k_instanceMethod_yX4_needsNumber, k_selects_RX4_yX4_needsNumber_yX4_needsNumber⟩ ⟨fun a U g mk q => ⟨q.1, (fun _ _ _ _ => cPw_bl) a U g mk q.2⟩, va_recv hK hP (ci := 5) (q0 := 8) rfl rfl, fun U hU hW => ⟨rfl, ⟨by rw [hU], by rw [hU]; exact (hP.sub (ws' := (ww_X4_needsNumber cs ad raR raT xR nT Rv16 T)) [8, 9] rfl), va_K.moved hW.alike hK, (hD.sub (ws' := (ww_X4_needsNumber cs ad raR raT xR nT Rv16 T)) [8, 9] (by decide) rfl).weaken (fun _ _ _ _ => trivial), kN_warm hW hN⟩⟩⟩ rfl rfl hl.1 rfl (lv_room (Nat.le_of_ble_eq_true rfl)) dX3_readPhrase_79 ⟨Nat.le_refl _, Nat.le_refl _⟩) hP hD hS hA rfl rfl (wr := ((wX3 cs ad raO Ov14))) rfl rfl rfl (nw := 10) rfl (by decide +kernel) rfl (fun H locs hP hD hS => ?_)
        refine lv_if_ne (tgt := 87) hx hb dX3_readPhrase_82 (by decide) (fun hb27 => ?_) (fun hb27 => ?_)
        · have hf := (if_neg hb27).symm.trans hf
          refine lv_aload_n hx hb dX3_readPhrase_87 rfl (lv_at hl 0 rfl) ?_
          refine va_get (D := (dC, dI)) (ci := 4) (C := RX3) (T := TX3) (N := 11) hx hb hts hinX3 hown hK hP 0 rfl rfl 9 (by decide) (v := .ref (raO 9)) k_fieldLink_RX3_28__KeyLetters_Office___claims____I_ (fun _ h9 => h9) rfl dX3_readPhrase_88 ?_
          refine lv_aload_n hx hb dX3_readPhrase_91 rfl (lv_at hl 0 rfl) ?_
          refine va_get (D := (dC, dI)) (ci := 4) (C := RX3) (T := TX3) (N := 11) hx hb hts hinX3 hown hK hP 0 rfl rfl 2 (by decide) (v := .int (Ov14.1 0 2)) k_fieldLink_RX3_41__KeyLetters_Office___phrases___I_ (fun _ h9 => h9) rfl dX3_readPhrase_92 ?_
          refine lv_aload_n hx hb dX3_readPhrase_95 rfl (lv_at hl 1 rfl) ?_
          refine va_getN (D := (dC, dI)) (ci := 5) (C := RX4) (T := TX4) (N := 11) hx hb hts hinX4 hown hK hP 8 rfl rfl 8 (by decide) (v := .int (Rv19.1 0 8)) (va_Nw.use rfl (hN _ (List.mem_of_getElem? (i := 5) rfl))) (fun _ h9 => h9) rfl dX3_readPhrase_96 ?_
          obtain ⟨hc20, hf⟩ := ck_e hf
          obtain ⟨Ov21, eOv21, hf⟩ := bd1_e hf
          refine va_iast hx hb hK hP hD hS 6 1 rfl rfl hc20 dX3_readPhrase_99 (fun H locs hP hD hS => ?_)
          have hP : va_P (dC, dI) vwCl (ww_X3_readPhrase cs ad raO raR raT xR nT Ov21 Rv19 T) H := g_toP (by rw [eOv21]; rfl) hP
          have hD : va_D (va_A (ww_X3_readPhrase cs ad raO raR raT xR nT zD zD (fun _ => 0)) s.heap.size) (ww_X3_readPhrase cs ad raO raR raT xR nT Ov21 Rv19 T) := g_toD (by rw [eOv21]; rfl) hD
          refine lv_aload_n hx hb dX3_readPhrase_100 rfl (lv_at hl 0 rfl) ?_
          refine va_get (D := (dC, dI)) (ci := 4) (C := RX3) (T := TX3) (N := 11) hx hb hts hinX3 hown hK hP 0 rfl rfl 10 (by decide) (v := .ref (raO 10)) k_fieldLink_RX3_31__KeyLetters_Office___answers____I_ (fun _ h9 => h9) rfl dX3_readPhrase_101 ?_
          refine lv_aload_n hx hb dX3_readPhrase_104 rfl (lv_at hl 0 rfl) ?_
          refine va_get (D := (dC, dI)) (ci := 4) (C := RX3) (T := TX3) (N := 11) hx hb hts hinX3 hown hK hP 0 rfl rfl 2 (by decide) (v := .int (Ov21.1 0 2)) k_fieldLink_RX3_41__KeyLetters_Office___phrases___I_ (fun _ h9 => h9) rfl dX3_readPhrase_105 ?_
          refine lv_iconst (v := 0) hx hb dX3_readPhrase_108 (by decide) ?_
          obtain ⟨hc22, hf⟩ := ck_e hf
          obtain ⟨Ov23, eOv23, hf⟩ := bd1_e hf
          refine va_iast hx hb hK hP hD hS 7 1 rfl rfl hc22 dX3_readPhrase_109 (fun H locs hP hD hS => ?_)
          have hP : va_P (dC, dI) vwCl (ww_X3_readPhrase cs ad raO raR raT xR nT Ov23 Rv19 T) H := g_toP (by rw [eOv23]; rfl) hP
          have hD : va_D (va_A (ww_X3_readPhrase cs ad raO raR raT xR nT zD zD (fun _ => 0)) s.heap.size) (ww_X3_readPhrase cs ad raO raR raT xR nT Ov23 Rv19 T) := g_toD (by rw [eOv23]; rfl) hD
          refine lv_aload_n hx hb dX3_readPhrase_110 rfl (lv_at hl 0 rfl) ?_
          refine lv_dup hx hb dX3_readPhrase_111 rfl ?_
          refine va_get (D := (dC, dI)) (ci := 4) (C := RX3) (T := TX3) (N := 11) hx hb hts hinX3 hown hK hP 0 rfl rfl 2 (by decide) (v := .int (Ov23.1 0 2)) k_fieldLink_RX3_41__KeyLetters_Office___phrases___I_ (fun _ h9 => h9) rfl dX3_readPhrase_112 ?_
          refine lv_iconst (v := 1) hx hb dX3_readPhrase_115 (by decide) ?_
          refine lv_iadd hx hb dX3_readPhrase_116 ?_
          obtain ⟨Ov24, eOv24, hf⟩ := bd1_e hf
          refine g_put (D := (dC, dI)) (ci := 4) (C := RX3) (T := TX3) (N := 11) hx hb hts hinX3 tyX3 tyX3_ok nmX3 hown hK hP hD hS 0 rfl rfl 2 (by decide) k_fieldLink_RX3_41__KeyLetters_Office___phrases___I_ (fun _ h9 => h9) rfl (ty := .int) (v := .int ((Ov23.1 0 2) + (1 : Int32))) (by decide +kernel) rfl rfl (Nat.le_of_ble_eq_true rfl) (ws' := (ww_X3_readPhrase cs ad raO raR raT xR nT Ov24 Rv19 T)) (by rw [eOv24]; rfl) dX3_readPhrase_117 (fun H locs hP hD hS => ?_)
          refine lv_aload_n hx hb dX3_readPhrase_120 rfl (lv_at hl 1 rfl) ?_
          obtain ⟨Rv26, hq25, hf⟩ := bo_e hf
          have hEc := cE_sub (A1 := va_A (ww_X4_advance cs ad raR raT xR nT zD (fun _ => 0)) _) hE hS (cA_free (isC := [8, 9]) (wc := (ww_X4_advance cs ad raR raT xR nT Rv19 T)) (wz := (ww_X4_advance cs ad raR raT xR nT zD (fun _ => 0))) rfl rfl hD hS hA)
          refine g_callv (isC := [8, 9]) (isR := [0, 1, 2, 3, 4, 5, 6, 7]) (wc := (ww_X4_advance cs ad raR raT xR nT Rv19 T)) (wz := (ww_X4_advance cs ad raR raT xR nT zD (fun _ => 0))) (w1 := (ww_X4_advance cs ad raR raT xR nT Rv26 T)) (ws' := (ww_X3_readPhrase cs ad raO raR raT xR nT Ov24 Rv26 T)) (va_runVN (As := []) (rest := []) ⟨hx, hb, hml, hown, hts⟩ (c_X4_advance l dC dI cs ad raR raT xR nT _ Rv19 T Rv26 hq25) ⟨va_cnB 0 hts gX3_readPhrase_X4_advance_n120 rfl rfl rfl (hN _ (List.mem_of_getElem? (i := 76) rfl)) k_initialized_RX4 (by decide +kernel) ⟨Nat.le_of_ble_eq_true rfl, Nat.le_of_ble_eq_true rfl⟩, k_instanceMethod_yX4_advance, k_selects_RX4_yX4_advance_yX4_advance⟩ ⟨fun a U g mk q => ⟨q.1, (fun _ _ _ _ => cPe_bl (fun h => cPw_bl h)) a U g mk q.2⟩, va_recv hK hP (ci := 5) (q0 := 8) rfl rfl, fun U hU hW => ⟨rfl, ⟨hEc U hU hW, ⟨by rw [hU], by rw [hU]; exact (hP.sub (ws' := (ww_X4_advance cs ad raR raT xR nT Rv19 T)) [8, 9] rfl), va_K.moved hW.alike hK, (hD.sub (ws' := (ww_X4_advance cs ad raR raT xR nT Rv19 T)) [8, 9] (by decide) rfl).weaken (fun _ _ _ _ => trivial), kN_warm hW hN⟩⟩⟩⟩ rfl rfl hl.1 rfl (lv_room (Nat.le_of_ble_eq_true rfl)) dX3_readPhrase_121 ⟨Nat.le_refl _, Nat.le_refl _⟩) hP hD hS hA rfl rfl (wr := ((wX3 cs ad raO Ov24))) rfl rfl rfl (nw := 10) rfl (by decide +kernel) rfl (fun H locs hP hD hS => ?_)
          refine lv_iconst (v := 1) hx hb dX3_readPhrase_124 (by decide) ?_
          have hf := Option.some.inj hf
          subst hf
          exact c_zret (v := (1 : Int32)) hx hb hr rfl hlocks hP hK hD hS dX3_readPhrase_125
        · have hf := (if_pos hb27).symm.trans hf
          refine lv_iconst (v := 0) hx hb dX3_readPhrase_85 (by decide) ?_
          have hf := Option.some.inj hf
          subst hf
          exact c_zret (v := (0 : Int32)) hx hb hr rfl hlocks hP hK hD hS dX3_readPhrase_86
      · have hf := (if_pos hb28).symm.trans hf
        refine lv_iconst (v := 0) hx hb dX3_readPhrase_56 (by decide) ?_
        have hf := Option.some.inj hf
        subst hf
        exact c_zret (v := (0 : Int32)) hx hb hr rfl hlocks hP hK hD hS dX3_readPhrase_57
    · have hf := (if_pos hb29).symm.trans hf
      refine lv_iconst (v := 0) hx hb dX3_readPhrase_27 (by decide) ?_
      have hf := Option.some.inj hf
      subst hf
      exact c_zret (v := (0 : Int32)) hx hb hr rfl hlocks hP hK hD hS dX3_readPhrase_28
  · have hf := (if_neg hb34).symm.trans hf
    refine lv_aload_n hx hb dX3_readPhrase_9 rfl (lv_at hl 1 rfl) ?_
    refine lv_iconst (v := 4) hx hb dX3_readPhrase_10 (by decide) ?_
    obtain ⟨v31, Rv32, hq30, hf⟩ := bo2_e hf
    refine g_callw (isC := [8, 9]) (isR := [0, 1, 2, 3, 4, 5, 6, 7]) (wc := (ww_X4_refuse cs ad raR raT xR nT R T)) (wz := (ww_X4_refuse cs ad raR raT xR nT zD (fun _ => 0))) (w1 := (ww_X4_refuse cs ad raR raT xR nT Rv32 T)) (ws' := (ww_X3_readPhrase cs ad raO raR raT xR nT O Rv32 T)) (v := v31) (va_runVN (As := [.int (4 : Int32)]) (rest := []) ⟨hx, hb, hml, hown, hts⟩ (c_X4_refuse l dC dI cs ad raR raT xR nT _ R T (4 : Int32) (v31, Rv32) hq30) ⟨va_cnB 1 hts gX3_readPhrase_X4_refuse_n117 rfl rfl rfl (hN _ (List.mem_of_getElem? (i := 75) rfl)) k_initialized_RX4 (by decide +kernel) ⟨Nat.le_of_ble_eq_true rfl, Nat.le_of_ble_eq_true rfl⟩, k_instanceMethod_yX4_refuse, k_selects_RX4_yX4_refuse_yX4_refuse⟩ ⟨fun a U g mk q => ⟨q.1, (fun _ _ _ _ => cPw_bl) a U g mk q.2⟩, va_recv hK hP (ci := 5) (q0 := 8) rfl rfl, fun U hU hW => ⟨rfl, ⟨by rw [hU], by rw [hU]; exact (hP.sub (ws' := (ww_X4_refuse cs ad raR raT xR nT R T)) [8, 9] rfl), va_K.moved hW.alike hK, (hD.sub (ws' := (ww_X4_refuse cs ad raR raT xR nT R T)) [8, 9] (by decide) rfl).weaken (fun _ _ _ _ => trivial), kN_warm hW hN⟩⟩⟩ rfl rfl hl.1 rfl (lv_room (Nat.le_of_ble_eq_true rfl)) dX3_readPhrase_11 ⟨Nat.le_refl _, Nat.le_refl _⟩) hP hD hS hA rfl rfl (wr := ((wX3 cs ad raO O))) rfl rfl rfl (nw := 10) rfl (by decide +kernel) rfl (fun H locs hP hD hS => ?_)
    obtain ⟨hc33, hf⟩ := ck_e hf
    have hf := Option.some.inj hf
    subst hf
    exact c_zret (v := v31) hx hb hr (kt_z (Decidable.not_not.mp hc33)) hlocks hP hK hD hS dX3_readPhrase_14

def ww_X3_readKnows (cs : Nat → ClassId) (ad : Nat → Nat) (raO : Nat → Nat) (raR : Nat → Nat) (raT : Nat) (xR : Nat) (nT : Nat) (O : kD) (R : kD) (T : Nat → Int32) : va_W := (wX3 cs ad raO O ++ (wX4 cs ad raR xR raT R ++ ([(raT, .inl (cs 1, nT, .inl T))])))
abbrev rm_X3_readKnows : Room := { frames := 6, cells := 0, slots := 0, locals := 166 }
set_option maxHeartbeats 4000000 in
set_option maxRecDepth 100000 in
theorem c_X3_readKnows (l : Launch) (dC : Nat → ClassId) (dI : Nat → Nat → Nat) (cs : Nat → ClassId) (ad : Nat → Nat) (raO : Nat → Nat) (raR : Nat → Nat) (raT : Nat) (xR : Nat) (nT : Nat) (sz : Nat) (O : kD) (R : kD) (T : Nat → Int32) (r : Int32 × kD × kD) (hf : f_X3_readKnows nT O R T = some r) : Met l yX3_readKnows wsX3_readKnows rm_X3_readKnows (va_Pc [.ref (raO 0), .ref (raR 0)] (cPe ad (va_A (ww_X3_readKnows cs ad raO raR raT xR nT zD zD (fun _ => 0)) sz) (cPw dC dI cs sz (ww_X3_readKnows cs ad raO raR raT xR nT O R T)))) (cQi dC dI cs (va_A (ww_X3_readKnows cs ad raO raR raT xR nT zD zD (fun _ => 0)) sz) r.1 (ww_X3_readKnows cs ad raO raR raT xR nT r.2.1 r.2.2 T)) 0 0 (va_A (ww_X3_readKnows cs ad raO raR raT xR nT zD zD (fun _ => 0)) sz) := by
  refine Met.ofW (cc := cX3_readKnows) (maxL := 4) (ret := (some .boolean)) (by decide) rfl ?_
  intro p e s m args below meth c s₁ B hml hv
  obtain ⟨hav, hE, hsz, hP, hK, hD0, hN⟩ := hv
  have hx := B.exec
  have hb := B.bytes
  have hr := B.returns
  have hts := atoms_spec (ws := wsX3_readKnows) B.pre
  have hown : s.vm.findClass RX3 = some m.cls := findClass_of_methodNamed B.named
  have hlocks := B.notSynchronized
  subst hsz
  have hA : ∀ q, s.heap.size ≤ q → va_A (ww_X3_readKnows cs ad raO raR raT xR nT zD zD (fun _ => 0)) s.heap.size q := fun q h => Or.inr h
  have hD : va_D (va_A (ww_X3_readKnows cs ad raO raR raT xR nT zD zD (fun _ => 0)) s.heap.size) (ww_X3_readKnows cs ad raO raR raT xR nT O R T) := hD0.weaken (fun k q h _ => cA_in (ws := (ww_X3_readKnows cs ad raO raR raT xR nT O R T)) (ws' := (ww_X3_readKnows cs ad raO raR raT xR nT zD zD (fun _ => 0))) rfl h)
  have hS : va_S (va_A (ww_X3_readKnows cs ad raO raR raT xR nT zD zD (fun _ => 0)) s.heap.size) s.heap s.heap [] := va_S.rf
  have hinX3 := (show ∀ w ∈ wsX30, w ∈ wsX3_readKnows from fun w h => List.mem_cons_of_mem _ (List.mem_append_left _ (List.mem_append_right _ h)))
  have k_fieldLink_RX3_19__KeyLetters_Office___known____I_ := hts (.fieldLink RX3 19 "KeyLetters$Office" "known" "[I") (List.mem_of_getElem? (i := 5) rfl)
  have k_fieldLink_RX3_22__KeyLetters_Office___phraseNames____J_ := hts (.fieldLink RX3 22 "KeyLetters$Office" "phraseNames" "[J") (List.mem_of_getElem? (i := 3) rfl)
  have k_fieldLink_RX3_38__KeyLetters_Office___machines___I_ := hts (.fieldLink RX3 38 "KeyLetters$Office" "machines" "I") (List.mem_of_getElem? (i := 2) rfl)
  have k_fieldLink_RX3_41__KeyLetters_Office___phrases___I_ := hts (.fieldLink RX3 41 "KeyLetters$Office" "phrases" "I") (List.mem_of_getElem? (i := 4) rfl)
  have k_fieldLink_RX3_9__KeyLetters_Office___machineNames____J_ := hts (.fieldLink RX3 9 "KeyLetters$Office" "machineNames" "[J") (List.mem_of_getElem? (i := 1) rfl)
  have k_initialized_RX4 := hts (.initialized RX4) (List.mem_of_getElem? (i := 7) rfl)
  have k_instanceMethod_yX4_advance := hts (.instanceMethod yX4_advance) (List.mem_of_getElem? (i := 6) rfl)
  have k_instanceMethod_yX4_neededOf := hts (.instanceMethod yX4_neededOf) (List.mem_of_getElem? (i := 85) rfl)
  have k_instanceMethod_yX4_refuse := hts (.instanceMethod yX4_refuse) (List.mem_of_getElem? (i := 93) rfl)
  have k_selects_RX4_yX4_advance_yX4_advance := hts (.selects RX4 yX4_advance yX4_advance) (List.mem_of_getElem? (i := 8) rfl)
  have k_selects_RX4_yX4_neededOf_yX4_neededOf := hts (.selects RX4 yX4_neededOf yX4_neededOf) (List.mem_of_getElem? (i := 86) rfl)
  have k_selects_RX4_yX4_refuse_yX4_refuse := hts (.selects RX4 yX4_refuse yX4_refuse) (List.mem_of_getElem? (i := 94) rfl)
  have hl := lv_entry ([.ref (raO 0), .ref (raR 0)]) (n := 4) (Nat.le_of_ble_eq_true rfl)
  rw [show entryFrame m args 4 = entryFrame m ([.ref (raO 0), .ref (raR 0)] : List Value).toArray 4 from by rw [hav], lg_entry_eq]
  generalize (lg_sl ([.ref (raO 0), .ref (raR 0)]) ++ List.replicate (4 - (lg_sl ([.ref (raO 0), .ref (raR 0)])).length) Slot.unset).toArray = ls at hl ⊢
  have hl : lv_has ls 4 [(0, .ref (raO 0)), (1, .ref (raR 0))] := hl
  unfold f_X3_readKnows at hf
  refine lv_aload_n hx hb dX3_readKnows_0 rfl (lv_at hl 1 rfl) ?_
  obtain ⟨Rv2, hq1, hf⟩ := bo_e hf
  have hEc := cE_sub (A1 := va_A (ww_X4_advance cs ad raR raT xR nT zD (fun _ => 0)) _) hE hS (cA_free (isC := [8, 9]) (wc := (ww_X4_advance cs ad raR raT xR nT R T)) (wz := (ww_X4_advance cs ad raR raT xR nT zD (fun _ => 0))) rfl rfl hD hS hA)
  refine g_callv (isC := [8, 9]) (isR := [0, 1, 2, 3, 4, 5, 6, 7]) (wc := (ww_X4_advance cs ad raR raT xR nT R T)) (wz := (ww_X4_advance cs ad raR raT xR nT zD (fun _ => 0))) (w1 := (ww_X4_advance cs ad raR raT xR nT Rv2 T)) (ws' := (ww_X3_readKnows cs ad raO raR raT xR nT O Rv2 T)) (va_runVN (As := []) (rest := []) ⟨hx, hb, hml, hown, hts⟩ (c_X4_advance l dC dI cs ad raR raT xR nT _ R T Rv2 hq1) ⟨va_cnB 0 hts gX3_readKnows_X4_advance_n120 rfl rfl rfl (hN _ (List.mem_of_getElem? (i := 76) rfl)) k_initialized_RX4 (by decide +kernel) ⟨Nat.le_of_ble_eq_true rfl, Nat.le_of_ble_eq_true rfl⟩, k_instanceMethod_yX4_advance, k_selects_RX4_yX4_advance_yX4_advance⟩ ⟨fun a U g mk q => ⟨q.1, (fun _ _ _ _ => cPe_bl (fun h => cPw_bl h)) a U g mk q.2⟩, va_recv hK hP (ci := 5) (q0 := 8) rfl rfl, fun U hU hW => ⟨rfl, ⟨hEc U hU hW, ⟨by rw [hU], by rw [hU]; exact (hP.sub (ws' := (ww_X4_advance cs ad raR raT xR nT R T)) [8, 9] rfl), va_K.moved hW.alike hK, (hD.sub (ws' := (ww_X4_advance cs ad raR raT xR nT R T)) [8, 9] (by decide) rfl).weaken (fun _ _ _ _ => trivial), kN_warm hW hN⟩⟩⟩⟩ rfl rfl hl.1 rfl (lv_room (Nat.le_of_ble_eq_true rfl)) dX3_readKnows_1 ⟨Nat.le_refl _, Nat.le_refl _⟩) hP hD hS hA rfl rfl (wr := ((wX3 cs ad raO O))) rfl rfl rfl (nw := 10) rfl (by decide +kernel) rfl (fun H locs hP hD hS => ?_)
  refine lv_aload_n hx hb dX3_readKnows_4 rfl (lv_at hl 1 rfl) ?_
  refine lv_aload_n hx hb dX3_readKnows_5 rfl (lv_at hl 0 rfl) ?_
  refine va_get (D := (dC, dI)) (ci := 4) (C := RX3) (T := TX3) (N := 11) hx hb hts hinX3 hown hK hP 0 rfl rfl 4 (by decide) (v := .ref (raO 4)) k_fieldLink_RX3_9__KeyLetters_Office___machineNames____J_ (fun _ h9 => h9) rfl dX3_readKnows_6 ?_
  refine lv_aload_n hx hb dX3_readKnows_9 rfl (lv_at hl 0 rfl) ?_
  refine va_get (D := (dC, dI)) (ci := 4) (C := RX3) (T := TX3) (N := 11) hx hb hts hinX3 hown hK hP 0 rfl rfl 1 (by decide) (v := .int (O.1 0 1)) k_fieldLink_RX3_38__KeyLetters_Office___machines___I_ (fun _ h9 => h9) rfl dX3_readKnows_10 ?_
  obtain ⟨v4, Rv5, hq3, hf⟩ := bo2_e hf
  have hEc := cE_sub (A1 := va_A (ww_X4_neededOf cs ad raR (raO 4) raT xR 6 nT zD (fun _ => 0) (fun _ => 0)) _) hE hS (cA_free (isC := [8, 1, 9]) (wc := (ww_X4_neededOf cs ad raR (raO 4) raT xR 6 nT Rv2 (O.2 4) T)) (wz := (ww_X4_neededOf cs ad raR (raO 4) raT xR 6 nT zD (fun _ => 0) (fun _ => 0))) rfl rfl hD hS hA)
  refine g_callw (isC := [8, 1, 9]) (isR := [0, 2, 3, 4, 5, 6, 7]) (wc := (ww_X4_neededOf cs ad raR (raO 4) raT xR 6 nT Rv2 (O.2 4) T)) (wz := (ww_X4_neededOf cs ad raR (raO 4) raT xR 6 nT zD (fun _ => 0) (fun _ => 0))) (w1 := (ww_X4_neededOf cs ad raR (raO 4) raT xR 6 nT Rv5 (O.2 4) T)) (ws' := (ww_X3_readKnows cs ad raO raR raT xR nT O Rv5 T)) (v := v4) (va_runVN (As := [.ref (raO 4), .int (O.1 0 1)]) (rest := []) ⟨hx, hb, hml, hown, hts⟩ (c_X4_neededOf l dC dI cs ad raR (raO 4) raT xR 6 nT _ Rv2 (O.2 4) T (O.1 0 1) (v4, Rv5) hq3) ⟨va_cnB 2 hts gX3_readKnows_X4_neededOf_n136 rfl rfl rfl (hN _ (List.mem_of_getElem? (i := 80) rfl)) k_initialized_RX4 (by decide +kernel) ⟨Nat.le_of_ble_eq_true rfl, Nat.le_of_ble_eq_true rfl⟩, k_instanceMethod_yX4_neededOf, k_selects_RX4_yX4_neededOf_yX4_neededOf⟩ ⟨fun a U g mk q => ⟨q.1, (fun _ _ _ _ => cPe_bl (fun h => cPw_bl h)) a U g mk q.2⟩, va_recv hK hP (ci := 5) (q0 := 8) rfl rfl, fun U hU hW => ⟨rfl, ⟨hEc U hU hW, ⟨by rw [hU], by rw [hU]; exact (hP.sub (ws' := (ww_X4_neededOf cs ad raR (raO 4) raT xR 6 nT Rv2 (O.2 4) T)) [8, 1, 9] rfl), va_K.moved hW.alike hK, (hD.sub (ws' := (ww_X4_neededOf cs ad raR (raO 4) raT xR 6 nT Rv2 (O.2 4) T)) [8, 1, 9] (by decide) rfl).weaken (fun _ _ _ _ => trivial), kN_warm hW hN⟩⟩⟩⟩ rfl rfl hl.1 rfl (lv_room (Nat.le_of_ble_eq_true rfl)) dX3_readKnows_13 ⟨Nat.le_refl _, Nat.le_refl _⟩) hP hD hS hA rfl rfl (wr := ([(raO 0, .inr (4, fX3 ad raO O)), (raO 5, .inl (cs 1, 6, .inl (O.1 5))), (raO 6, .inl (cs 1, 6, .inl (O.1 6))), (raO 7, .inl (cs 2, 8, .inr (.inl (O.2 7)))), (raO 8, .inl (cs 1, 8, .inl (O.1 8))), (raO 9, .inl (cs 1, 8, .inl (O.1 9))), (raO 10, .inl (cs 1, 8, .inl (O.1 10)))])) rfl rfl rfl (nw := 10) rfl (by decide +kernel) rfl (fun H locs hP hD hS => ?_)
  refine lv_istore_n (nL := 4) (lv' := [(2, .int v4), (0, .ref (raO 0)), (1, .ref (raR 0))]) hx hb dX3_readKnows_16 rfl hl (by decide) rfl (fun ls hl => ?_)
  refine lv_iload_n hx hb dX3_readKnows_17 rfl (lv_at hl 0 rfl) ?_
  refine lv_iconst (v := -1) hx hb dX3_readKnows_18 (by decide) ?_
  refine lv_icmp_ne (tgt := 24) hx hb dX3_readKnows_19 (by decide) (fun hb24 => ?_) (fun hb24 => ?_)
  · have hf := (if_neg hb24).symm.trans hf
    refine lv_aload_n hx hb dX3_readKnows_24 rfl (lv_at hl 2 rfl) ?_
    obtain ⟨Rv7, hq6, hf⟩ := bo_e hf
    have hEc := cE_sub (A1 := va_A (ww_X4_advance cs ad raR raT xR nT zD (fun _ => 0)) _) hE hS (cA_free (isC := [8, 9]) (wc := (ww_X4_advance cs ad raR raT xR nT Rv5 T)) (wz := (ww_X4_advance cs ad raR raT xR nT zD (fun _ => 0))) rfl rfl hD hS hA)
    refine g_callv (isC := [8, 9]) (isR := [0, 1, 2, 3, 4, 5, 6, 7]) (wc := (ww_X4_advance cs ad raR raT xR nT Rv5 T)) (wz := (ww_X4_advance cs ad raR raT xR nT zD (fun _ => 0))) (w1 := (ww_X4_advance cs ad raR raT xR nT Rv7 T)) (ws' := (ww_X3_readKnows cs ad raO raR raT xR nT O Rv7 T)) (va_runVN (As := []) (rest := []) ⟨hx, hb, hml, hown, hts⟩ (c_X4_advance l dC dI cs ad raR raT xR nT _ Rv5 T Rv7 hq6) ⟨va_cnB 0 hts gX3_readKnows_X4_advance_n120 rfl rfl rfl (hN _ (List.mem_of_getElem? (i := 76) rfl)) k_initialized_RX4 (by decide +kernel) ⟨Nat.le_of_ble_eq_true rfl, Nat.le_of_ble_eq_true rfl⟩, k_instanceMethod_yX4_advance, k_selects_RX4_yX4_advance_yX4_advance⟩ ⟨fun a U g mk q => ⟨q.1, (fun _ _ _ _ => cPe_bl (fun h => cPw_bl h)) a U g mk q.2⟩, va_recv hK hP (ci := 5) (q0 := 8) rfl rfl, fun U hU hW => ⟨rfl, ⟨hEc U hU hW, ⟨by rw [hU], by rw [hU]; exact (hP.sub (ws' := (ww_X4_advance cs ad raR raT xR nT Rv5 T)) [8, 9] rfl), va_K.moved hW.alike hK, (hD.sub (ws' := (ww_X4_advance cs ad raR raT xR nT Rv5 T)) [8, 9] (by decide) rfl).weaken (fun _ _ _ _ => trivial), kN_warm hW hN⟩⟩⟩⟩ rfl rfl hl.1 rfl (lv_room (Nat.le_of_ble_eq_true rfl)) dX3_readKnows_25 ⟨Nat.le_refl _, Nat.le_refl _⟩) hP hD hS hA rfl rfl (wr := ((wX3 cs ad raO O))) rfl rfl rfl (nw := 10) rfl (by decide +kernel) rfl (fun H locs hP hD hS => ?_)
    refine lv_aload_n hx hb dX3_readKnows_28 rfl (lv_at hl 2 rfl) ?_
    refine lv_aload_n hx hb dX3_readKnows_29 rfl (lv_at hl 1 rfl) ?_
    refine va_get (D := (dC, dI)) (ci := 4) (C := RX3) (T := TX3) (N := 11) hx hb hts hinX3 hown hK hP 0 rfl rfl 7 (by decide) (v := .ref (raO 7)) k_fieldLink_RX3_22__KeyLetters_Office___phraseNames____J_ (fun _ h9 => h9) rfl dX3_readKnows_30 ?_
    refine lv_aload_n hx hb dX3_readKnows_33 rfl (lv_at hl 1 rfl) ?_
    refine va_get (D := (dC, dI)) (ci := 4) (C := RX3) (T := TX3) (N := 11) hx hb hts hinX3 hown hK hP 0 rfl rfl 2 (by decide) (v := .int (O.1 0 2)) k_fieldLink_RX3_41__KeyLetters_Office___phrases___I_ (fun _ h9 => h9) rfl dX3_readKnows_34 ?_
    obtain ⟨v9, Rv10, hq8, hf⟩ := bo2_e hf
    have hEc := cE_sub (A1 := va_A (ww_X4_neededOf cs ad raR (raO 7) raT xR 8 nT zD (fun _ => 0) (fun _ => 0)) _) hE hS (cA_free (isC := [8, 4, 9]) (wc := (ww_X4_neededOf cs ad raR (raO 7) raT xR 8 nT Rv7 (O.2 7) T)) (wz := (ww_X4_neededOf cs ad raR (raO 7) raT xR 8 nT zD (fun _ => 0) (fun _ => 0))) rfl rfl hD hS hA)
    refine g_callw (isC := [8, 4, 9]) (isR := [0, 1, 2, 3, 5, 6, 7]) (wc := (ww_X4_neededOf cs ad raR (raO 7) raT xR 8 nT Rv7 (O.2 7) T)) (wz := (ww_X4_neededOf cs ad raR (raO 7) raT xR 8 nT zD (fun _ => 0) (fun _ => 0))) (w1 := (ww_X4_neededOf cs ad raR (raO 7) raT xR 8 nT Rv10 (O.2 7) T)) (ws' := (ww_X3_readKnows cs ad raO raR raT xR nT O Rv10 T)) (v := v9) (va_runVN (As := [.ref (raO 7), .int (O.1 0 2)]) (rest := []) ⟨hx, hb, hml, hown, hts⟩ (c_X4_neededOf l dC dI cs ad raR (raO 7) raT xR 8 nT _ Rv7 (O.2 7) T (O.1 0 2) (v9, Rv10) hq8) ⟨va_cnB 2 hts gX3_readKnows_X4_neededOf_n136 rfl rfl rfl (hN _ (List.mem_of_getElem? (i := 80) rfl)) k_initialized_RX4 (by decide +kernel) ⟨Nat.le_of_ble_eq_true rfl, Nat.le_of_ble_eq_true rfl⟩, k_instanceMethod_yX4_neededOf, k_selects_RX4_yX4_neededOf_yX4_neededOf⟩ ⟨fun a U g mk q => ⟨q.1, (fun _ _ _ _ => cPe_bl (fun h => cPw_bl h)) a U g mk q.2⟩, va_recv hK hP (ci := 5) (q0 := 8) rfl rfl, fun U hU hW => ⟨rfl, ⟨hEc U hU hW, ⟨by rw [hU], by rw [hU]; exact (hP.sub (ws' := (ww_X4_neededOf cs ad raR (raO 7) raT xR 8 nT Rv7 (O.2 7) T)) [8, 4, 9] rfl), va_K.moved hW.alike hK, (hD.sub (ws' := (ww_X4_neededOf cs ad raR (raO 7) raT xR 8 nT Rv7 (O.2 7) T)) [8, 4, 9] (by decide) rfl).weaken (fun _ _ _ _ => trivial), kN_warm hW hN⟩⟩⟩⟩ rfl rfl hl.1 rfl (lv_room (Nat.le_of_ble_eq_true rfl)) dX3_readKnows_37 ⟨Nat.le_refl _, Nat.le_refl _⟩) hP hD hS hA rfl rfl (wr := ([(raO 0, .inr (4, fX3 ad raO O)), (raO 4, .inl (cs 2, 6, .inr (.inl (O.2 4)))), (raO 5, .inl (cs 1, 6, .inl (O.1 5))), (raO 6, .inl (cs 1, 6, .inl (O.1 6))), (raO 8, .inl (cs 1, 8, .inl (O.1 8))), (raO 9, .inl (cs 1, 8, .inl (O.1 9))), (raO 10, .inl (cs 1, 8, .inl (O.1 10)))])) rfl rfl rfl (nw := 10) rfl (by decide +kernel) rfl (fun H locs hP hD hS => ?_)
    refine lv_istore_n (nL := 4) (lv' := [(3, .int v9), (2, .int v4), (0, .ref (raO 0)), (1, .ref (raR 0))]) hx hb dX3_readKnows_40 rfl hl (by decide) rfl (fun ls hl => ?_)
    refine lv_iload_n hx hb dX3_readKnows_41 rfl (lv_at hl 0 rfl) ?_
    refine lv_iconst (v := -1) hx hb dX3_readKnows_42 (by decide) ?_
    refine lv_icmp_ne (tgt := 48) hx hb dX3_readKnows_43 (by decide) (fun hb23 => ?_) (fun hb23 => ?_)
    · have hf := (if_neg hb23).symm.trans hf
      refine lv_aload_n hx hb dX3_readKnows_48 rfl (lv_at hl 2 rfl) ?_
      refine lv_iload_n hx hb dX3_readKnows_49 rfl (lv_at hl 1 rfl) ?_
      refine lv_iload_n hx hb dX3_readKnows_50 rfl (lv_at hl 0 rfl) ?_
      obtain ⟨v12, hq11, hf⟩ := bo_e hf
      refine ko_call (v := some (.int v12)) (va_runV (As := [.int v4, .int v9]) (rest := []) ⟨hx, hb, hml, hown, hts⟩ (c_X3_knowsOf l dC dI cs ad raO O v4 v9 v12 hq11) (cwV 2 hts gX3_readKnows_X3_knowsOf rfl rfl rfl (by decide +kernel) ⟨Nat.le_of_ble_eq_true rfl, Nat.le_of_ble_eq_true rfl⟩) ⟨fun a U g mk q => ⟨q.1, (fun _ _ _ _ => cPr_bl) a U g mk q.2⟩, va_recv hK hP (ci := 4) (q0 := 0) rfl rfl, fun U hU hW => ⟨rfl, ⟨by rw [hU]; exact (hP.sub (ws' := (ww_X3_knowsOf cs ad raO O)) [0, 1, 2, 3, 4, 5, 6, 7] rfl), va_K.moved hW.alike hK, kN_warm hW hN⟩⟩⟩ rfl rfl hl.1 rfl (lv_room (Nat.le_of_ble_eq_true rfl)) dX3_readKnows_51 ⟨Nat.le_refl _, Nat.le_refl _⟩) ?_
      refine lv_if_eq (tgt := 63) hx hb dX3_readKnows_54 (by decide) (fun hb22 => ?_) (fun hb22 => ?_)
      · have hf := (if_pos hb22).symm.trans hf
        refine lv_aload_n hx hb dX3_readKnows_63 rfl (lv_at hl 2 rfl) ?_
        refine va_get (D := (dC, dI)) (ci := 4) (C := RX3) (T := TX3) (N := 11) hx hb hts hinX3 hown hK hP 0 rfl rfl 6 (by decide) (v := .ref (raO 6)) k_fieldLink_RX3_19__KeyLetters_Office___known____I_ (fun _ h9 => h9) rfl dX3_readKnows_64 ?_
        refine lv_iload_n hx hb dX3_readKnows_67 rfl (lv_at hl 1 rfl) ?_
        refine lv_dup2_11 hx hb dX3_readKnows_68 rfl rfl ?_
        obtain ⟨hc13, hf⟩ := ck_e hf
        refine va_iald hx hb hK hP 3 1 rfl rfl hc13 dX3_readKnows_69 ?_
        refine lv_iconst (v := 1) hx hb dX3_readKnows_70 (by decide) ?_
        refine lv_iload_n hx hb dX3_readKnows_71 rfl (lv_at hl 0 rfl) ?_
        refine lv_ishl hx hb dX3_readKnows_72 ?_
        refine lv_ior hx hb dX3_readKnows_73 ?_
        obtain ⟨hc14, hf⟩ := ck_e hf
        obtain ⟨Ov15, eOv15, hf⟩ := bd1_e hf
        refine va_iast hx hb hK hP hD hS 3 1 rfl rfl hc14 dX3_readKnows_74 (fun H locs hP hD hS => ?_)
        have hP : va_P (dC, dI) vwCl (ww_X3_readKnows cs ad raO raR raT xR nT Ov15 Rv10 T) H := g_toP (by rw [eOv15]; rfl) hP
        have hD : va_D (va_A (ww_X3_readKnows cs ad raO raR raT xR nT zD zD (fun _ => 0)) s.heap.size) (ww_X3_readKnows cs ad raO raR raT xR nT Ov15 Rv10 T) := g_toD (by rw [eOv15]; rfl) hD
        refine lv_aload_n hx hb dX3_readKnows_75 rfl (lv_at hl 3 rfl) ?_
        obtain ⟨Rv17, hq16, hf⟩ := bo_e hf
        have hEc := cE_sub (A1 := va_A (ww_X4_advance cs ad raR raT xR nT zD (fun _ => 0)) _) hE hS (cA_free (isC := [8, 9]) (wc := (ww_X4_advance cs ad raR raT xR nT Rv10 T)) (wz := (ww_X4_advance cs ad raR raT xR nT zD (fun _ => 0))) rfl rfl hD hS hA)
        refine g_callv (isC := [8, 9]) (isR := [0, 1, 2, 3, 4, 5, 6, 7]) (wc := (ww_X4_advance cs ad raR raT xR nT Rv10 T)) (wz := (ww_X4_advance cs ad raR raT xR nT zD (fun _ => 0))) (w1 := (ww_X4_advance cs ad raR raT xR nT Rv17 T)) (ws' := (ww_X3_readKnows cs ad raO raR raT xR nT Ov15 Rv17 T)) (va_runVN (As := []) (rest := []) ⟨hx, hb, hml, hown, hts⟩ (c_X4_advance l dC dI cs ad raR raT xR nT _ Rv10 T Rv17 hq16) ⟨va_cnB 0 hts gX3_readKnows_X4_advance_n120 rfl rfl rfl (hN _ (List.mem_of_getElem? (i := 76) rfl)) k_initialized_RX4 (by decide +kernel) ⟨Nat.le_of_ble_eq_true rfl, Nat.le_of_ble_eq_true rfl⟩, k_instanceMethod_yX4_advance, k_selects_RX4_yX4_advance_yX4_advance⟩ ⟨fun a U g mk q => ⟨q.1, (fun _ _ _ _ => cPe_bl (fun h => cPw_bl h)) a U g mk q.2⟩, va_recv hK hP (ci := 5) (q0 := 8) rfl rfl, fun U hU hW => ⟨rfl, ⟨hEc U hU hW, ⟨by rw [hU], by rw [hU]; exact (hP.sub (ws' := (ww_X4_advance cs ad raR raT xR nT Rv10 T)) [8, 9] rfl), va_K.moved hW.alike hK, (hD.sub (ws' := (ww_X4_advance cs ad raR raT xR nT Rv10 T)) [8, 9] (by decide) rfl).weaken (fun _ _ _ _ => trivial), kN_warm hW hN⟩⟩⟩⟩ rfl rfl hl.1 rfl (lv_room (Nat.le_of_ble_eq_true rfl)) dX3_readKnows_76 ⟨Nat.le_refl _, Nat.le_refl _⟩) hP hD hS hA rfl rfl (wr := ((wX3 cs ad raO Ov15))) rfl rfl rfl (nw := 10) rfl (by decide +kernel) rfl (fun H locs hP hD hS => ?_)
        refine lv_iconst (v := 1) hx hb dX3_readKnows_79 (by decide) ?_
        have hf := Option.some.inj hf
        subst hf
        exact c_zret (v := (1 : Int32)) hx hb hr rfl hlocks hP hK hD hS dX3_readKnows_80
      · have hf := (if_neg hb22).symm.trans hf
        refine lv_aload_n hx hb dX3_readKnows_57 rfl (lv_at hl 3 rfl) ?_
        refine lv_iconst (v := 3) hx hb dX3_readKnows_58 (by decide) ?_
        obtain ⟨v19, Rv20, hq18, hf⟩ := bo2_e hf
        refine g_callw (isC := [8, 9]) (isR := [0, 1, 2, 3, 4, 5, 6, 7]) (wc := (ww_X4_refuse cs ad raR raT xR nT Rv10 T)) (wz := (ww_X4_refuse cs ad raR raT xR nT zD (fun _ => 0))) (w1 := (ww_X4_refuse cs ad raR raT xR nT Rv20 T)) (ws' := (ww_X3_readKnows cs ad raO raR raT xR nT O Rv20 T)) (v := v19) (va_runVN (As := [.int (3 : Int32)]) (rest := []) ⟨hx, hb, hml, hown, hts⟩ (c_X4_refuse l dC dI cs ad raR raT xR nT _ Rv10 T (3 : Int32) (v19, Rv20) hq18) ⟨va_cnB 1 hts gX3_readKnows_X4_refuse_n117 rfl rfl rfl (hN _ (List.mem_of_getElem? (i := 75) rfl)) k_initialized_RX4 (by decide +kernel) ⟨Nat.le_of_ble_eq_true rfl, Nat.le_of_ble_eq_true rfl⟩, k_instanceMethod_yX4_refuse, k_selects_RX4_yX4_refuse_yX4_refuse⟩ ⟨fun a U g mk q => ⟨q.1, (fun _ _ _ _ => cPw_bl) a U g mk q.2⟩, va_recv hK hP (ci := 5) (q0 := 8) rfl rfl, fun U hU hW => ⟨rfl, ⟨by rw [hU], by rw [hU]; exact (hP.sub (ws' := (ww_X4_refuse cs ad raR raT xR nT Rv10 T)) [8, 9] rfl), va_K.moved hW.alike hK, (hD.sub (ws' := (ww_X4_refuse cs ad raR raT xR nT Rv10 T)) [8, 9] (by decide) rfl).weaken (fun _ _ _ _ => trivial), kN_warm hW hN⟩⟩⟩ rfl rfl hl.1 rfl (lv_room (Nat.le_of_ble_eq_true rfl)) dX3_readKnows_59 ⟨Nat.le_refl _, Nat.le_refl _⟩) hP hD hS hA rfl rfl (wr := ((wX3 cs ad raO O))) rfl rfl rfl (nw := 10) rfl (by decide +kernel) rfl (fun H locs hP hD hS => ?_)
        obtain ⟨hc21, hf⟩ := ck_e hf
        have hf := Option.some.inj hf
        subst hf
        exact c_zret (v := v19) hx hb hr (kt_z (Decidable.not_not.mp hc21)) hlocks hP hK hD hS dX3_readKnows_62
    · have hf := (if_pos hb23).symm.trans hf
      refine lv_iconst (v := 0) hx hb dX3_readKnows_46 (by decide) ?_
      have hf := Option.some.inj hf
      subst hf
      exact c_zret (v := (0 : Int32)) hx hb hr rfl hlocks hP hK hD hS dX3_readKnows_47
  · have hf := (if_pos hb24).symm.trans hf
    refine lv_iconst (v := 0) hx hb dX3_readKnows_22 (by decide) ?_
    have hf := Option.some.inj hf
    subst hf
    exact c_zret (v := (0 : Int32)) hx hb hr rfl hlocks hP hK hD hS dX3_readKnows_23

def ww_X3_readAnswers (cs : Nat → ClassId) (ad : Nat → Nat) (raO : Nat → Nat) (raR : Nat → Nat) (raT : Nat) (xR : Nat) (nT : Nat) (O : kD) (R : kD) (T : Nat → Int32) : va_W := (wX3 cs ad raO O ++ (wX4 cs ad raR xR raT R ++ ([(raT, .inl (cs 1, nT, .inl T))])))
abbrev rm_X3_readAnswers : Room := { frames := 6, cells := 0, slots := 0, locals := 166 }
set_option maxHeartbeats 4000000 in
set_option maxRecDepth 100000 in
theorem c_X3_readAnswers (l : Launch) (dC : Nat → ClassId) (dI : Nat → Nat → Nat) (cs : Nat → ClassId) (ad : Nat → Nat) (raO : Nat → Nat) (raR : Nat → Nat) (raT : Nat) (xR : Nat) (nT : Nat) (sz : Nat) (O : kD) (R : kD) (T : Nat → Int32) (r : Int32 × kD × kD) (hf : f_X3_readAnswers nT O R T = some r) : Met l yX3_readAnswers wsX3_readAnswers rm_X3_readAnswers (va_Pc [.ref (raO 0), .ref (raR 0)] (cPe ad (va_A (ww_X3_readAnswers cs ad raO raR raT xR nT zD zD (fun _ => 0)) sz) (cPw dC dI cs sz (ww_X3_readAnswers cs ad raO raR raT xR nT O R T)))) (cQi dC dI cs (va_A (ww_X3_readAnswers cs ad raO raR raT xR nT zD zD (fun _ => 0)) sz) r.1 (ww_X3_readAnswers cs ad raO raR raT xR nT r.2.1 r.2.2 T)) 0 0 (va_A (ww_X3_readAnswers cs ad raO raR raT xR nT zD zD (fun _ => 0)) sz) := by
  refine Met.ofW (cc := cX3_readAnswers) (maxL := 4) (ret := (some .boolean)) (by decide) rfl ?_
  intro p e s m args below meth c s₁ B hml hv
  obtain ⟨hav, hE, hsz, hP, hK, hD0, hN⟩ := hv
  have hx := B.exec
  have hb := B.bytes
  have hr := B.returns
  have hts := atoms_spec (ws := wsX3_readAnswers) B.pre
  have hown : s.vm.findClass RX3 = some m.cls := findClass_of_methodNamed B.named
  have hlocks := B.notSynchronized
  subst hsz
  have hA : ∀ q, s.heap.size ≤ q → va_A (ww_X3_readAnswers cs ad raO raR raT xR nT zD zD (fun _ => 0)) s.heap.size q := fun q h => Or.inr h
  have hD : va_D (va_A (ww_X3_readAnswers cs ad raO raR raT xR nT zD zD (fun _ => 0)) s.heap.size) (ww_X3_readAnswers cs ad raO raR raT xR nT O R T) := hD0.weaken (fun k q h _ => cA_in (ws := (ww_X3_readAnswers cs ad raO raR raT xR nT O R T)) (ws' := (ww_X3_readAnswers cs ad raO raR raT xR nT zD zD (fun _ => 0))) rfl h)
  have hS : va_S (va_A (ww_X3_readAnswers cs ad raO raR raT xR nT zD zD (fun _ => 0)) s.heap.size) s.heap s.heap [] := va_S.rf
  have hinX3 := (show ∀ w ∈ wsX30, w ∈ wsX3_readAnswers from fun w h => List.mem_cons_of_mem _ (List.mem_append_left _ (List.mem_append_right _ h)))
  have k_fieldLink_RX3_22__KeyLetters_Office___phraseNames____J_ := hts (.fieldLink RX3 22 "KeyLetters$Office" "phraseNames" "[J") (List.mem_of_getElem? (i := 1) rfl)
  have k_fieldLink_RX3_31__KeyLetters_Office___answers____I_ := hts (.fieldLink RX3 31 "KeyLetters$Office" "answers" "[I") (List.mem_of_getElem? (i := 3) rfl)
  have k_fieldLink_RX3_41__KeyLetters_Office___phrases___I_ := hts (.fieldLink RX3 41 "KeyLetters$Office" "phrases" "I") (List.mem_of_getElem? (i := 2) rfl)
  have k_fieldLink_RX3_44__KeyLetters_Office___answersTold___I_ := hts (.fieldLink RX3 44 "KeyLetters$Office" "answersTold" "I") (List.mem_of_getElem? (i := 4) rfl)
  have k_initialized_RX4 := hts (.initialized RX4) (List.mem_of_getElem? (i := 6) rfl)
  have k_instanceMethod_yX4_advance := hts (.instanceMethod yX4_advance) (List.mem_of_getElem? (i := 5) rfl)
  have k_instanceMethod_yX4_neededOf := hts (.instanceMethod yX4_neededOf) (List.mem_of_getElem? (i := 84) rfl)
  have k_instanceMethod_yX4_refuse := hts (.instanceMethod yX4_refuse) (List.mem_of_getElem? (i := 92) rfl)
  have k_selects_RX4_yX4_advance_yX4_advance := hts (.selects RX4 yX4_advance yX4_advance) (List.mem_of_getElem? (i := 7) rfl)
  have k_selects_RX4_yX4_neededOf_yX4_neededOf := hts (.selects RX4 yX4_neededOf yX4_neededOf) (List.mem_of_getElem? (i := 85) rfl)
  have k_selects_RX4_yX4_refuse_yX4_refuse := hts (.selects RX4 yX4_refuse yX4_refuse) (List.mem_of_getElem? (i := 93) rfl)
  have hl := lv_entry ([.ref (raO 0), .ref (raR 0)]) (n := 4) (Nat.le_of_ble_eq_true rfl)
  rw [show entryFrame m args 4 = entryFrame m ([.ref (raO 0), .ref (raR 0)] : List Value).toArray 4 from by rw [hav], lg_entry_eq]
  generalize (lg_sl ([.ref (raO 0), .ref (raR 0)]) ++ List.replicate (4 - (lg_sl ([.ref (raO 0), .ref (raR 0)])).length) Slot.unset).toArray = ls at hl ⊢
  have hl : lv_has ls 4 [(0, .ref (raO 0)), (1, .ref (raR 0))] := hl
  unfold f_X3_readAnswers at hf
  refine lv_aload_n hx hb dX3_readAnswers_0 rfl (lv_at hl 1 rfl) ?_
  obtain ⟨Rv2, hq1, hf⟩ := bo_e hf
  have hEc := cE_sub (A1 := va_A (ww_X4_advance cs ad raR raT xR nT zD (fun _ => 0)) _) hE hS (cA_free (isC := [8, 9]) (wc := (ww_X4_advance cs ad raR raT xR nT R T)) (wz := (ww_X4_advance cs ad raR raT xR nT zD (fun _ => 0))) rfl rfl hD hS hA)
  refine g_callv (isC := [8, 9]) (isR := [0, 1, 2, 3, 4, 5, 6, 7]) (wc := (ww_X4_advance cs ad raR raT xR nT R T)) (wz := (ww_X4_advance cs ad raR raT xR nT zD (fun _ => 0))) (w1 := (ww_X4_advance cs ad raR raT xR nT Rv2 T)) (ws' := (ww_X3_readAnswers cs ad raO raR raT xR nT O Rv2 T)) (va_runVN (As := []) (rest := []) ⟨hx, hb, hml, hown, hts⟩ (c_X4_advance l dC dI cs ad raR raT xR nT _ R T Rv2 hq1) ⟨va_cnB 0 hts gX3_readAnswers_X4_advance_n120 rfl rfl rfl (hN _ (List.mem_of_getElem? (i := 76) rfl)) k_initialized_RX4 (by decide +kernel) ⟨Nat.le_of_ble_eq_true rfl, Nat.le_of_ble_eq_true rfl⟩, k_instanceMethod_yX4_advance, k_selects_RX4_yX4_advance_yX4_advance⟩ ⟨fun a U g mk q => ⟨q.1, (fun _ _ _ _ => cPe_bl (fun h => cPw_bl h)) a U g mk q.2⟩, va_recv hK hP (ci := 5) (q0 := 8) rfl rfl, fun U hU hW => ⟨rfl, ⟨hEc U hU hW, ⟨by rw [hU], by rw [hU]; exact (hP.sub (ws' := (ww_X4_advance cs ad raR raT xR nT R T)) [8, 9] rfl), va_K.moved hW.alike hK, (hD.sub (ws' := (ww_X4_advance cs ad raR raT xR nT R T)) [8, 9] (by decide) rfl).weaken (fun _ _ _ _ => trivial), kN_warm hW hN⟩⟩⟩⟩ rfl rfl hl.1 rfl (lv_room (Nat.le_of_ble_eq_true rfl)) dX3_readAnswers_1 ⟨Nat.le_refl _, Nat.le_refl _⟩) hP hD hS hA rfl rfl (wr := ((wX3 cs ad raO O))) rfl rfl rfl (nw := 10) rfl (by decide +kernel) rfl (fun H locs hP hD hS => ?_)
  refine lv_aload_n hx hb dX3_readAnswers_4 rfl (lv_at hl 1 rfl) ?_
  refine lv_aload_n hx hb dX3_readAnswers_5 rfl (lv_at hl 0 rfl) ?_
  refine va_get (D := (dC, dI)) (ci := 4) (C := RX3) (T := TX3) (N := 11) hx hb hts hinX3 hown hK hP 0 rfl rfl 7 (by decide) (v := .ref (raO 7)) k_fieldLink_RX3_22__KeyLetters_Office___phraseNames____J_ (fun _ h9 => h9) rfl dX3_readAnswers_6 ?_
  refine lv_aload_n hx hb dX3_readAnswers_9 rfl (lv_at hl 0 rfl) ?_
  refine va_get (D := (dC, dI)) (ci := 4) (C := RX3) (T := TX3) (N := 11) hx hb hts hinX3 hown hK hP 0 rfl rfl 2 (by decide) (v := .int (O.1 0 2)) k_fieldLink_RX3_41__KeyLetters_Office___phrases___I_ (fun _ h9 => h9) rfl dX3_readAnswers_10 ?_
  obtain ⟨v4, Rv5, hq3, hf⟩ := bo2_e hf
  have hEc := cE_sub (A1 := va_A (ww_X4_neededOf cs ad raR (raO 7) raT xR 8 nT zD (fun _ => 0) (fun _ => 0)) _) hE hS (cA_free (isC := [8, 4, 9]) (wc := (ww_X4_neededOf cs ad raR (raO 7) raT xR 8 nT Rv2 (O.2 7) T)) (wz := (ww_X4_neededOf cs ad raR (raO 7) raT xR 8 nT zD (fun _ => 0) (fun _ => 0))) rfl rfl hD hS hA)
  refine g_callw (isC := [8, 4, 9]) (isR := [0, 1, 2, 3, 5, 6, 7]) (wc := (ww_X4_neededOf cs ad raR (raO 7) raT xR 8 nT Rv2 (O.2 7) T)) (wz := (ww_X4_neededOf cs ad raR (raO 7) raT xR 8 nT zD (fun _ => 0) (fun _ => 0))) (w1 := (ww_X4_neededOf cs ad raR (raO 7) raT xR 8 nT Rv5 (O.2 7) T)) (ws' := (ww_X3_readAnswers cs ad raO raR raT xR nT O Rv5 T)) (v := v4) (va_runVN (As := [.ref (raO 7), .int (O.1 0 2)]) (rest := []) ⟨hx, hb, hml, hown, hts⟩ (c_X4_neededOf l dC dI cs ad raR (raO 7) raT xR 8 nT _ Rv2 (O.2 7) T (O.1 0 2) (v4, Rv5) hq3) ⟨va_cnB 2 hts gX3_readAnswers_X4_neededOf_n136 rfl rfl rfl (hN _ (List.mem_of_getElem? (i := 80) rfl)) k_initialized_RX4 (by decide +kernel) ⟨Nat.le_of_ble_eq_true rfl, Nat.le_of_ble_eq_true rfl⟩, k_instanceMethod_yX4_neededOf, k_selects_RX4_yX4_neededOf_yX4_neededOf⟩ ⟨fun a U g mk q => ⟨q.1, (fun _ _ _ _ => cPe_bl (fun h => cPw_bl h)) a U g mk q.2⟩, va_recv hK hP (ci := 5) (q0 := 8) rfl rfl, fun U hU hW => ⟨rfl, ⟨hEc U hU hW, ⟨by rw [hU], by rw [hU]; exact (hP.sub (ws' := (ww_X4_neededOf cs ad raR (raO 7) raT xR 8 nT Rv2 (O.2 7) T)) [8, 4, 9] rfl), va_K.moved hW.alike hK, (hD.sub (ws' := (ww_X4_neededOf cs ad raR (raO 7) raT xR 8 nT Rv2 (O.2 7) T)) [8, 4, 9] (by decide) rfl).weaken (fun _ _ _ _ => trivial), kN_warm hW hN⟩⟩⟩⟩ rfl rfl hl.1 rfl (lv_room (Nat.le_of_ble_eq_true rfl)) dX3_readAnswers_13 ⟨Nat.le_refl _, Nat.le_refl _⟩) hP hD hS hA rfl rfl (wr := ([(raO 0, .inr (4, fX3 ad raO O)), (raO 4, .inl (cs 2, 6, .inr (.inl (O.2 4)))), (raO 5, .inl (cs 1, 6, .inl (O.1 5))), (raO 6, .inl (cs 1, 6, .inl (O.1 6))), (raO 8, .inl (cs 1, 8, .inl (O.1 8))), (raO 9, .inl (cs 1, 8, .inl (O.1 9))), (raO 10, .inl (cs 1, 8, .inl (O.1 10)))])) rfl rfl rfl (nw := 10) rfl (by decide +kernel) rfl (fun H locs hP hD hS => ?_)
  refine lv_istore_n (nL := 4) (lv' := [(2, .int v4), (0, .ref (raO 0)), (1, .ref (raR 0))]) hx hb dX3_readAnswers_16 rfl hl (by decide) rfl (fun ls hl => ?_)
  refine lv_iload_n hx hb dX3_readAnswers_17 rfl (lv_at hl 0 rfl) ?_
  refine lv_iconst (v := -1) hx hb dX3_readAnswers_18 (by decide) ?_
  refine lv_icmp_ne (tgt := 24) hx hb dX3_readAnswers_19 (by decide) (fun hb25 => ?_) (fun hb25 => ?_)
  · have hf := (if_neg hb25).symm.trans hf
    refine lv_aload_n hx hb dX3_readAnswers_24 rfl (lv_at hl 2 rfl) ?_
    obtain ⟨Rv7, hq6, hf⟩ := bo_e hf
    have hEc := cE_sub (A1 := va_A (ww_X4_advance cs ad raR raT xR nT zD (fun _ => 0)) _) hE hS (cA_free (isC := [8, 9]) (wc := (ww_X4_advance cs ad raR raT xR nT Rv5 T)) (wz := (ww_X4_advance cs ad raR raT xR nT zD (fun _ => 0))) rfl rfl hD hS hA)
    refine g_callv (isC := [8, 9]) (isR := [0, 1, 2, 3, 4, 5, 6, 7]) (wc := (ww_X4_advance cs ad raR raT xR nT Rv5 T)) (wz := (ww_X4_advance cs ad raR raT xR nT zD (fun _ => 0))) (w1 := (ww_X4_advance cs ad raR raT xR nT Rv7 T)) (ws' := (ww_X3_readAnswers cs ad raO raR raT xR nT O Rv7 T)) (va_runVN (As := []) (rest := []) ⟨hx, hb, hml, hown, hts⟩ (c_X4_advance l dC dI cs ad raR raT xR nT _ Rv5 T Rv7 hq6) ⟨va_cnB 0 hts gX3_readAnswers_X4_advance_n120 rfl rfl rfl (hN _ (List.mem_of_getElem? (i := 76) rfl)) k_initialized_RX4 (by decide +kernel) ⟨Nat.le_of_ble_eq_true rfl, Nat.le_of_ble_eq_true rfl⟩, k_instanceMethod_yX4_advance, k_selects_RX4_yX4_advance_yX4_advance⟩ ⟨fun a U g mk q => ⟨q.1, (fun _ _ _ _ => cPe_bl (fun h => cPw_bl h)) a U g mk q.2⟩, va_recv hK hP (ci := 5) (q0 := 8) rfl rfl, fun U hU hW => ⟨rfl, ⟨hEc U hU hW, ⟨by rw [hU], by rw [hU]; exact (hP.sub (ws' := (ww_X4_advance cs ad raR raT xR nT Rv5 T)) [8, 9] rfl), va_K.moved hW.alike hK, (hD.sub (ws' := (ww_X4_advance cs ad raR raT xR nT Rv5 T)) [8, 9] (by decide) rfl).weaken (fun _ _ _ _ => trivial), kN_warm hW hN⟩⟩⟩⟩ rfl rfl hl.1 rfl (lv_room (Nat.le_of_ble_eq_true rfl)) dX3_readAnswers_25 ⟨Nat.le_refl _, Nat.le_refl _⟩) hP hD hS hA rfl rfl (wr := ((wX3 cs ad raO O))) rfl rfl rfl (nw := 10) rfl (by decide +kernel) rfl (fun H locs hP hD hS => ?_)
    refine lv_aload_n hx hb dX3_readAnswers_28 rfl (lv_at hl 2 rfl) ?_
    refine lv_aload_n hx hb dX3_readAnswers_29 rfl (lv_at hl 1 rfl) ?_
    refine va_get (D := (dC, dI)) (ci := 4) (C := RX3) (T := TX3) (N := 11) hx hb hts hinX3 hown hK hP 0 rfl rfl 7 (by decide) (v := .ref (raO 7)) k_fieldLink_RX3_22__KeyLetters_Office___phraseNames____J_ (fun _ h9 => h9) rfl dX3_readAnswers_30 ?_
    refine lv_aload_n hx hb dX3_readAnswers_33 rfl (lv_at hl 1 rfl) ?_
    refine va_get (D := (dC, dI)) (ci := 4) (C := RX3) (T := TX3) (N := 11) hx hb hts hinX3 hown hK hP 0 rfl rfl 2 (by decide) (v := .int (O.1 0 2)) k_fieldLink_RX3_41__KeyLetters_Office___phrases___I_ (fun _ h9 => h9) rfl dX3_readAnswers_34 ?_
    obtain ⟨v9, Rv10, hq8, hf⟩ := bo2_e hf
    have hEc := cE_sub (A1 := va_A (ww_X4_neededOf cs ad raR (raO 7) raT xR 8 nT zD (fun _ => 0) (fun _ => 0)) _) hE hS (cA_free (isC := [8, 4, 9]) (wc := (ww_X4_neededOf cs ad raR (raO 7) raT xR 8 nT Rv7 (O.2 7) T)) (wz := (ww_X4_neededOf cs ad raR (raO 7) raT xR 8 nT zD (fun _ => 0) (fun _ => 0))) rfl rfl hD hS hA)
    refine g_callw (isC := [8, 4, 9]) (isR := [0, 1, 2, 3, 5, 6, 7]) (wc := (ww_X4_neededOf cs ad raR (raO 7) raT xR 8 nT Rv7 (O.2 7) T)) (wz := (ww_X4_neededOf cs ad raR (raO 7) raT xR 8 nT zD (fun _ => 0) (fun _ => 0))) (w1 := (ww_X4_neededOf cs ad raR (raO 7) raT xR 8 nT Rv10 (O.2 7) T)) (ws' := (ww_X3_readAnswers cs ad raO raR raT xR nT O Rv10 T)) (v := v9) (va_runVN (As := [.ref (raO 7), .int (O.1 0 2)]) (rest := []) ⟨hx, hb, hml, hown, hts⟩ (c_X4_neededOf l dC dI cs ad raR (raO 7) raT xR 8 nT _ Rv7 (O.2 7) T (O.1 0 2) (v9, Rv10) hq8) ⟨va_cnB 2 hts gX3_readAnswers_X4_neededOf_n136 rfl rfl rfl (hN _ (List.mem_of_getElem? (i := 80) rfl)) k_initialized_RX4 (by decide +kernel) ⟨Nat.le_of_ble_eq_true rfl, Nat.le_of_ble_eq_true rfl⟩, k_instanceMethod_yX4_neededOf, k_selects_RX4_yX4_neededOf_yX4_neededOf⟩ ⟨fun a U g mk q => ⟨q.1, (fun _ _ _ _ => cPe_bl (fun h => cPw_bl h)) a U g mk q.2⟩, va_recv hK hP (ci := 5) (q0 := 8) rfl rfl, fun U hU hW => ⟨rfl, ⟨hEc U hU hW, ⟨by rw [hU], by rw [hU]; exact (hP.sub (ws' := (ww_X4_neededOf cs ad raR (raO 7) raT xR 8 nT Rv7 (O.2 7) T)) [8, 4, 9] rfl), va_K.moved hW.alike hK, (hD.sub (ws' := (ww_X4_neededOf cs ad raR (raO 7) raT xR 8 nT Rv7 (O.2 7) T)) [8, 4, 9] (by decide) rfl).weaken (fun _ _ _ _ => trivial), kN_warm hW hN⟩⟩⟩⟩ rfl rfl hl.1 rfl (lv_room (Nat.le_of_ble_eq_true rfl)) dX3_readAnswers_37 ⟨Nat.le_refl _, Nat.le_refl _⟩) hP hD hS hA rfl rfl (wr := ([(raO 0, .inr (4, fX3 ad raO O)), (raO 4, .inl (cs 2, 6, .inr (.inl (O.2 4)))), (raO 5, .inl (cs 1, 6, .inl (O.1 5))), (raO 6, .inl (cs 1, 6, .inl (O.1 6))), (raO 8, .inl (cs 1, 8, .inl (O.1 8))), (raO 9, .inl (cs 1, 8, .inl (O.1 9))), (raO 10, .inl (cs 1, 8, .inl (O.1 10)))])) rfl rfl rfl (nw := 10) rfl (by decide +kernel) rfl (fun H locs hP hD hS => ?_)
    refine lv_istore_n (nL := 4) (lv' := [(3, .int v9), (2, .int v4), (0, .ref (raO 0)), (1, .ref (raR 0))]) hx hb dX3_readAnswers_40 rfl hl (by decide) rfl (fun ls hl => ?_)
    refine lv_iload_n hx hb dX3_readAnswers_41 rfl (lv_at hl 0 rfl) ?_
    refine lv_iconst (v := -1) hx hb dX3_readAnswers_42 (by decide) ?_
    refine lv_icmp_ne (tgt := 48) hx hb dX3_readAnswers_43 (by decide) (fun hb24 => ?_) (fun hb24 => ?_)
    · have hf := (if_neg hb24).symm.trans hf
      refine lv_aload_n hx hb dX3_readAnswers_48 rfl (lv_at hl 2 rfl) ?_
      refine lv_iload_n hx hb dX3_readAnswers_49 rfl (lv_at hl 1 rfl) ?_
      refine lv_iload_n hx hb dX3_readAnswers_50 rfl (lv_at hl 0 rfl) ?_
      obtain ⟨v12, hq11, hf⟩ := bo_e hf
      refine ko_call (v := some (.int v12)) (va_runV (As := [.int v4, .int v9]) (rest := []) ⟨hx, hb, hml, hown, hts⟩ (c_X3_isAnswer l dC dI cs ad raO O v4 v9 v12 hq11) (cwV 2 hts gX3_readAnswers_X3_isAnswer rfl rfl rfl (by decide +kernel) ⟨Nat.le_of_ble_eq_true rfl, Nat.le_of_ble_eq_true rfl⟩) ⟨fun a U g mk q => ⟨q.1, (fun _ _ _ _ => cPr_bl) a U g mk q.2⟩, va_recv hK hP (ci := 4) (q0 := 0) rfl rfl, fun U hU hW => ⟨rfl, ⟨by rw [hU]; exact (hP.sub (ws' := (ww_X3_isAnswer cs ad raO O)) [0, 1, 2, 3, 4, 5, 6, 7] rfl), va_K.moved hW.alike hK, kN_warm hW hN⟩⟩⟩ rfl rfl hl.1 rfl (lv_room (Nat.le_of_ble_eq_true rfl)) dX3_readAnswers_51 ⟨Nat.le_refl _, Nat.le_refl _⟩) ?_
      refine lv_if_eq (tgt := 63) hx hb dX3_readAnswers_54 (by decide) (fun hb23 => ?_) (fun hb23 => ?_)
      · have hf := (if_pos hb23).symm.trans hf
        refine lv_aload_n hx hb dX3_readAnswers_63 rfl (lv_at hl 2 rfl) ?_
        refine va_get (D := (dC, dI)) (ci := 4) (C := RX3) (T := TX3) (N := 11) hx hb hts hinX3 hown hK hP 0 rfl rfl 10 (by decide) (v := .ref (raO 10)) k_fieldLink_RX3_31__KeyLetters_Office___answers____I_ (fun _ h9 => h9) rfl dX3_readAnswers_64 ?_
        refine lv_iload_n hx hb dX3_readAnswers_67 rfl (lv_at hl 0 rfl) ?_
        refine lv_dup2_11 hx hb dX3_readAnswers_68 rfl rfl ?_
        obtain ⟨hc13, hf⟩ := ck_e hf
        refine va_iald hx hb hK hP 7 1 rfl rfl hc13 dX3_readAnswers_69 ?_
        refine lv_iconst (v := 1) hx hb dX3_readAnswers_70 (by decide) ?_
        refine lv_iload_n hx hb dX3_readAnswers_71 rfl (lv_at hl 1 rfl) ?_
        refine lv_ishl hx hb dX3_readAnswers_72 ?_
        refine lv_ior hx hb dX3_readAnswers_73 ?_
        obtain ⟨hc14, hf⟩ := ck_e hf
        obtain ⟨Ov15, eOv15, hf⟩ := bd1_e hf
        refine va_iast hx hb hK hP hD hS 7 1 rfl rfl hc14 dX3_readAnswers_74 (fun H locs hP hD hS => ?_)
        have hP : va_P (dC, dI) vwCl (ww_X3_readAnswers cs ad raO raR raT xR nT Ov15 Rv10 T) H := g_toP (by rw [eOv15]; rfl) hP
        have hD : va_D (va_A (ww_X3_readAnswers cs ad raO raR raT xR nT zD zD (fun _ => 0)) s.heap.size) (ww_X3_readAnswers cs ad raO raR raT xR nT Ov15 Rv10 T) := g_toD (by rw [eOv15]; rfl) hD
        refine lv_aload_n hx hb dX3_readAnswers_75 rfl (lv_at hl 2 rfl) ?_
        refine lv_dup hx hb dX3_readAnswers_76 rfl ?_
        refine va_get (D := (dC, dI)) (ci := 4) (C := RX3) (T := TX3) (N := 11) hx hb hts hinX3 hown hK hP 0 rfl rfl 3 (by decide) (v := .int (Ov15.1 0 3)) k_fieldLink_RX3_44__KeyLetters_Office___answersTold___I_ (fun _ h9 => h9) rfl dX3_readAnswers_77 ?_
        refine lv_iconst (v := 1) hx hb dX3_readAnswers_80 (by decide) ?_
        refine lv_iadd hx hb dX3_readAnswers_81 ?_
        obtain ⟨Ov16, eOv16, hf⟩ := bd1_e hf
        refine g_put (D := (dC, dI)) (ci := 4) (C := RX3) (T := TX3) (N := 11) hx hb hts hinX3 tyX3 tyX3_ok nmX3 hown hK hP hD hS 0 rfl rfl 3 (by decide) k_fieldLink_RX3_44__KeyLetters_Office___answersTold___I_ (fun _ h9 => h9) rfl (ty := .int) (v := .int ((Ov15.1 0 3) + (1 : Int32))) (by decide +kernel) rfl rfl (Nat.le_of_ble_eq_true rfl) (ws' := (ww_X3_readAnswers cs ad raO raR raT xR nT Ov16 Rv10 T)) (by rw [eOv16]; rfl) dX3_readAnswers_82 (fun H locs hP hD hS => ?_)
        refine lv_aload_n hx hb dX3_readAnswers_85 rfl (lv_at hl 3 rfl) ?_
        obtain ⟨Rv18, hq17, hf⟩ := bo_e hf
        have hEc := cE_sub (A1 := va_A (ww_X4_advance cs ad raR raT xR nT zD (fun _ => 0)) _) hE hS (cA_free (isC := [8, 9]) (wc := (ww_X4_advance cs ad raR raT xR nT Rv10 T)) (wz := (ww_X4_advance cs ad raR raT xR nT zD (fun _ => 0))) rfl rfl hD hS hA)
        refine g_callv (isC := [8, 9]) (isR := [0, 1, 2, 3, 4, 5, 6, 7]) (wc := (ww_X4_advance cs ad raR raT xR nT Rv10 T)) (wz := (ww_X4_advance cs ad raR raT xR nT zD (fun _ => 0))) (w1 := (ww_X4_advance cs ad raR raT xR nT Rv18 T)) (ws' := (ww_X3_readAnswers cs ad raO raR raT xR nT Ov16 Rv18 T)) (va_runVN (As := []) (rest := []) ⟨hx, hb, hml, hown, hts⟩ (c_X4_advance l dC dI cs ad raR raT xR nT _ Rv10 T Rv18 hq17) ⟨va_cnB 0 hts gX3_readAnswers_X4_advance_n120 rfl rfl rfl (hN _ (List.mem_of_getElem? (i := 76) rfl)) k_initialized_RX4 (by decide +kernel) ⟨Nat.le_of_ble_eq_true rfl, Nat.le_of_ble_eq_true rfl⟩, k_instanceMethod_yX4_advance, k_selects_RX4_yX4_advance_yX4_advance⟩ ⟨fun a U g mk q => ⟨q.1, (fun _ _ _ _ => cPe_bl (fun h => cPw_bl h)) a U g mk q.2⟩, va_recv hK hP (ci := 5) (q0 := 8) rfl rfl, fun U hU hW => ⟨rfl, ⟨hEc U hU hW, ⟨by rw [hU], by rw [hU]; exact (hP.sub (ws' := (ww_X4_advance cs ad raR raT xR nT Rv10 T)) [8, 9] rfl), va_K.moved hW.alike hK, (hD.sub (ws' := (ww_X4_advance cs ad raR raT xR nT Rv10 T)) [8, 9] (by decide) rfl).weaken (fun _ _ _ _ => trivial), kN_warm hW hN⟩⟩⟩⟩ rfl rfl hl.1 rfl (lv_room (Nat.le_of_ble_eq_true rfl)) dX3_readAnswers_86 ⟨Nat.le_refl _, Nat.le_refl _⟩) hP hD hS hA rfl rfl (wr := ((wX3 cs ad raO Ov16))) rfl rfl rfl (nw := 10) rfl (by decide +kernel) rfl (fun H locs hP hD hS => ?_)
        refine lv_iconst (v := 1) hx hb dX3_readAnswers_89 (by decide) ?_
        have hf := Option.some.inj hf
        subst hf
        exact c_zret (v := (1 : Int32)) hx hb hr rfl hlocks hP hK hD hS dX3_readAnswers_90
      · have hf := (if_neg hb23).symm.trans hf
        refine lv_aload_n hx hb dX3_readAnswers_57 rfl (lv_at hl 3 rfl) ?_
        refine lv_iconst (v := 3) hx hb dX3_readAnswers_58 (by decide) ?_
        obtain ⟨v20, Rv21, hq19, hf⟩ := bo2_e hf
        refine g_callw (isC := [8, 9]) (isR := [0, 1, 2, 3, 4, 5, 6, 7]) (wc := (ww_X4_refuse cs ad raR raT xR nT Rv10 T)) (wz := (ww_X4_refuse cs ad raR raT xR nT zD (fun _ => 0))) (w1 := (ww_X4_refuse cs ad raR raT xR nT Rv21 T)) (ws' := (ww_X3_readAnswers cs ad raO raR raT xR nT O Rv21 T)) (v := v20) (va_runVN (As := [.int (3 : Int32)]) (rest := []) ⟨hx, hb, hml, hown, hts⟩ (c_X4_refuse l dC dI cs ad raR raT xR nT _ Rv10 T (3 : Int32) (v20, Rv21) hq19) ⟨va_cnB 1 hts gX3_readAnswers_X4_refuse_n117 rfl rfl rfl (hN _ (List.mem_of_getElem? (i := 75) rfl)) k_initialized_RX4 (by decide +kernel) ⟨Nat.le_of_ble_eq_true rfl, Nat.le_of_ble_eq_true rfl⟩, k_instanceMethod_yX4_refuse, k_selects_RX4_yX4_refuse_yX4_refuse⟩ ⟨fun a U g mk q => ⟨q.1, (fun _ _ _ _ => cPw_bl) a U g mk q.2⟩, va_recv hK hP (ci := 5) (q0 := 8) rfl rfl, fun U hU hW => ⟨rfl, ⟨by rw [hU], by rw [hU]; exact (hP.sub (ws' := (ww_X4_refuse cs ad raR raT xR nT Rv10 T)) [8, 9] rfl), va_K.moved hW.alike hK, (hD.sub (ws' := (ww_X4_refuse cs ad raR raT xR nT Rv10 T)) [8, 9] (by decide) rfl).weaken (fun _ _ _ _ => trivial), kN_warm hW hN⟩⟩⟩ rfl rfl hl.1 rfl (lv_room (Nat.le_of_ble_eq_true rfl)) dX3_readAnswers_59 ⟨Nat.le_refl _, Nat.le_refl _⟩) hP hD hS hA rfl rfl (wr := ((wX3 cs ad raO O))) rfl rfl rfl (nw := 10) rfl (by decide +kernel) rfl (fun H locs hP hD hS => ?_)
        obtain ⟨hc22, hf⟩ := ck_e hf
        have hf := Option.some.inj hf
        subst hf
        exact c_zret (v := v20) hx hb hr (kt_z (Decidable.not_not.mp hc22)) hlocks hP hK hD hS dX3_readAnswers_62
    · have hf := (if_pos hb24).symm.trans hf
      refine lv_iconst (v := 0) hx hb dX3_readAnswers_46 (by decide) ?_
      have hf := Option.some.inj hf
      subst hf
      exact c_zret (v := (0 : Int32)) hx hb hr rfl hlocks hP hK hD hS dX3_readAnswers_47
  · have hf := (if_pos hb25).symm.trans hf
    refine lv_iconst (v := 0) hx hb dX3_readAnswers_22 (by decide) ?_
    have hf := Option.some.inj hf
    subst hf
    exact c_zret (v := (0 : Int32)) hx hb hr rfl hlocks hP hK hD hS dX3_readAnswers_23

def ww_X3_readLine (cs : Nat → ClassId) (ad : Nat → Nat) (raO : Nat → Nat) (raR : Nat → Nat) (raT : Nat) (xR : Nat) (nT : Nat) (O : kD) (R : kD) (T : Nat → Int32) : va_W := (wX3 cs ad raO O ++ (wX4 cs ad raR xR raT R ++ ([(raT, .inl (cs 1, nT, .inl T))])))
abbrev rm_X3_readLine : Room := { frames := 7, cells := 0, slots := 0, locals := 189 }
set_option maxHeartbeats 4000000 in
set_option maxRecDepth 100000 in
theorem c_X3_readLine (l : Launch) (dC : Nat → ClassId) (dI : Nat → Nat → Nat) (cs : Nat → ClassId) (ad : Nat → Nat) (raO : Nat → Nat) (raR : Nat → Nat) (raT : Nat) (xR : Nat) (nT : Nat) (sz : Nat) (O : kD) (R : kD) (T : Nat → Int32) (r : Int32 × kD × kD) (hf : f_X3_readLine nT O R T = some r) : Met l yX3_readLine wsX3_readLine rm_X3_readLine (va_Pc [.ref (raO 0), .ref (raR 0)] (cPe ad (va_A (ww_X3_readLine cs ad raO raR raT xR nT zD zD (fun _ => 0)) sz) (cPw dC dI cs sz (ww_X3_readLine cs ad raO raR raT xR nT O R T)))) (cQi dC dI cs (va_A (ww_X3_readLine cs ad raO raR raT xR nT zD zD (fun _ => 0)) sz) r.1 (ww_X3_readLine cs ad raO raR raT xR nT r.2.1 r.2.2 T)) 0 0 (va_A (ww_X3_readLine cs ad raO raR raT xR nT zD zD (fun _ => 0)) sz) := by
  refine Met.ofW (cc := cX3_readLine) (maxL := 2) (ret := (some .boolean)) (by decide) rfl ?_
  intro p e s m args below meth c s₁ B hml hv
  obtain ⟨hav, hE, hsz, hP, hK, hD0, hN⟩ := hv
  have hx := B.exec
  have hb := B.bytes
  have hr := B.returns
  have hts := atoms_spec (ws := wsX3_readLine) B.pre
  have hown : s.vm.findClass RX3 = some m.cls := findClass_of_methodNamed B.named
  have hlocks := B.notSynchronized
  subst hsz
  have hA : ∀ q, s.heap.size ≤ q → va_A (ww_X3_readLine cs ad raO raR raT xR nT zD zD (fun _ => 0)) s.heap.size q := fun q h => Or.inr h
  have hD : va_D (va_A (ww_X3_readLine cs ad raO raR raT xR nT zD zD (fun _ => 0)) s.heap.size) (ww_X3_readLine cs ad raO raR raT xR nT O R T) := hD0.weaken (fun k q h _ => cA_in (ws := (ww_X3_readLine cs ad raO raR raT xR nT O R T)) (ws' := (ww_X3_readLine cs ad raO raR raT xR nT zD zD (fun _ => 0))) rfl h)
  have hS : va_S (va_A (ww_X3_readLine cs ad raO raR raT xR nT zD zD (fun _ => 0)) s.heap.size) s.heap s.heap [] := va_S.rf
  have kLink_RX3_111__KeyLetters_Word___ANSWERS___LKeyLetters_Word__ := hts (.fieldLink RX3 111 "KeyLetters$Word" "ANSWERS" "LKeyLetters$Word;") (List.mem_of_getElem? (i := 4) rfl)
  have k_initialized_RX4 := hts (.initialized RX4) (List.mem_of_getElem? (i := 6) rfl)
  have k_instanceMethod_yX4_refuse := hts (.instanceMethod yX4_refuse) (List.mem_of_getElem? (i := 20) rfl)
  have k_instanceMethod_yX4_seesWord := hts (.instanceMethod yX4_seesWord) (List.mem_of_getElem? (i := 5) rfl)
  have k_selects_RX4_yX4_refuse_yX4_refuse := hts (.selects RX4 yX4_refuse yX4_refuse) (List.mem_of_getElem? (i := 21) rfl)
  have k_selects_RX4_yX4_seesWord_yX4_seesWord := hts (.selects RX4 yX4_seesWord yX4_seesWord) (List.mem_of_getElem? (i := 7) rfl)
  have kdLink_RX3_86__KeyLetters_Word___MACHINE___LKeyLetters_Word__ := hts (.fieldLink RX3 86 "KeyLetters$Word" "MACHINE" "LKeyLetters$Word;") (List.mem_of_getElem? (i := 1) rfl)
  have kldLink_RX3_105__KeyLetters_Word___KNOWS___LKeyLetters_Word__ := hts (.fieldLink RX3 105 "KeyLetters$Word" "KNOWS" "LKeyLetters$Word;") (List.mem_of_getElem? (i := 3) rfl)
  have kldLink_RX3_99__KeyLetters_Word___PHRASE___LKeyLetters_Word__ := hts (.fieldLink RX3 99 "KeyLetters$Word" "PHRASE" "LKeyLetters$Word;") (List.mem_of_getElem? (i := 2) rfl)
  have hl := lv_entry ([.ref (raO 0), .ref (raR 0)]) (n := 2) (Nat.le_of_ble_eq_true rfl)
  rw [show entryFrame m args 2 = entryFrame m ([.ref (raO 0), .ref (raR 0)] : List Value).toArray 2 from by rw [hav], lg_entry_eq]
  generalize (lg_sl ([.ref (raO 0), .ref (raR 0)]) ++ List.replicate (2 - (lg_sl ([.ref (raO 0), .ref (raR 0)])).length) Slot.unset).toArray = ls at hl ⊢
  have hl : lv_has ls 2 [(0, .ref (raO 0)), (1, .ref (raR 0))] := hl
  unfold f_X3_readLine at hf
  refine lv_aload_n hx hb dX3_readLine_0 rfl (lv_at hl 1 rfl) ?_
  refine va_gets hx hb (show va_Z "KeyLetters$Word" "MACHINE" "LKeyLetters$Word;" (.ref (ad 1)) _ s s.heap from (hE.1.1 1 (by decide)).1) hS hown kdLink_RX3_86__KeyLetters_Word___MACHINE___LKeyLetters_Word__ (fun _ h9 => h9) dX3_readLine_1 ?_
  obtain ⟨v2, hq1, hf⟩ := bo_e hf
  have hEc := cE_subF hE hS
  refine ko_call (v := some (.int v2)) (va_runVN (As := [.ref (ad (1 : Int32).toNatClampNeg)]) (rest := []) ⟨hx, hb, hml, hown, hts⟩ (c_X4_seesWord l dC dI cs ad raR raT xR nT R T (1 : Int32) v2 hq1) ⟨va_cnB 1 hts gX3_readLine_X4_seesWord_n92 rfl rfl rfl (hN _ (List.mem_of_getElem? (i := 74) rfl)) k_initialized_RX4 (by decide +kernel) ⟨Nat.le_of_ble_eq_true rfl, Nat.le_of_ble_eq_true rfl⟩, k_instanceMethod_yX4_seesWord, k_selects_RX4_yX4_seesWord_yX4_seesWord⟩ ⟨fun a U g mk q => ⟨q.1, (fun _ _ _ _ => cPe_bl (fun h => cPr_bl h)) a U g mk q.2⟩, va_recv hK hP (ci := 5) (q0 := 8) rfl rfl, fun U hU hW => ⟨rfl, ⟨hEc U hU hW, ⟨by rw [hU]; exact (hP.sub (ws' := (ww_X4_seesWord cs ad raR raT xR nT R T)) [8, 9] rfl), va_K.moved hW.alike hK, kN_warm hW hN⟩⟩⟩⟩ rfl rfl hl.1 rfl (lv_room (Nat.le_of_ble_eq_true rfl)) dX3_readLine_4 ⟨Nat.le_refl _, Nat.le_refl _⟩) ?_
  refine lv_if_eq (tgt := 16) hx hb dX3_readLine_7 (by decide) (fun hb36 => ?_) (fun hb36 => ?_)
  · have hf := (if_pos hb36).symm.trans hf
    refine lv_aload_n hx hb dX3_readLine_16 rfl (lv_at hl 1 rfl) ?_
    refine va_gets hx hb (show va_Z "KeyLetters$Word" "PHRASE" "LKeyLetters$Word;" (.ref (ad 2)) _ s s.heap from (hE.1.1 2 (by decide)).1) hS hown kldLink_RX3_99__KeyLetters_Word___PHRASE___LKeyLetters_Word__ (fun _ h9 => h9) dX3_readLine_17 ?_
    obtain ⟨v4, hq3, hf⟩ := bo_e hf
    have hEc := cE_subF hE hS
    refine ko_call (v := some (.int v4)) (va_runVN (As := [.ref (ad (2 : Int32).toNatClampNeg)]) (rest := []) ⟨hx, hb, hml, hown, hts⟩ (c_X4_seesWord l dC dI cs ad raR raT xR nT R T (2 : Int32) v4 hq3) ⟨va_cnB 1 hts gX3_readLine_X4_seesWord_n92 rfl rfl rfl (hN _ (List.mem_of_getElem? (i := 74) rfl)) k_initialized_RX4 (by decide +kernel) ⟨Nat.le_of_ble_eq_true rfl, Nat.le_of_ble_eq_true rfl⟩, k_instanceMethod_yX4_seesWord, k_selects_RX4_yX4_seesWord_yX4_seesWord⟩ ⟨fun a U g mk q => ⟨q.1, (fun _ _ _ _ => cPe_bl (fun h => cPr_bl h)) a U g mk q.2⟩, va_recv hK hP (ci := 5) (q0 := 8) rfl rfl, fun U hU hW => ⟨rfl, ⟨hEc U hU hW, ⟨by rw [hU]; exact (hP.sub (ws' := (ww_X4_seesWord cs ad raR raT xR nT R T)) [8, 9] rfl), va_K.moved hW.alike hK, kN_warm hW hN⟩⟩⟩⟩ rfl rfl hl.1 rfl (lv_room (Nat.le_of_ble_eq_true rfl)) dX3_readLine_20 ⟨Nat.le_refl _, Nat.le_refl _⟩) ?_
    refine lv_if_eq (tgt := 32) hx hb dX3_readLine_23 (by decide) (fun hb30 => ?_) (fun hb30 => ?_)
    · have hf := (if_pos hb30).symm.trans hf
      refine lv_aload_n hx hb dX3_readLine_32 rfl (lv_at hl 1 rfl) ?_
      refine va_gets hx hb (show va_Z "KeyLetters$Word" "KNOWS" "LKeyLetters$Word;" (.ref (ad 3)) _ s s.heap from (hE.1.1 3 (by decide)).1) hS hown kldLink_RX3_105__KeyLetters_Word___KNOWS___LKeyLetters_Word__ (fun _ h9 => h9) dX3_readLine_33 ?_
      obtain ⟨v6, hq5, hf⟩ := bo_e hf
      have hEc := cE_subF hE hS
      refine ko_call (v := some (.int v6)) (va_runVN (As := [.ref (ad (3 : Int32).toNatClampNeg)]) (rest := []) ⟨hx, hb, hml, hown, hts⟩ (c_X4_seesWord l dC dI cs ad raR raT xR nT R T (3 : Int32) v6 hq5) ⟨va_cnB 1 hts gX3_readLine_X4_seesWord_n92 rfl rfl rfl (hN _ (List.mem_of_getElem? (i := 74) rfl)) k_initialized_RX4 (by decide +kernel) ⟨Nat.le_of_ble_eq_true rfl, Nat.le_of_ble_eq_true rfl⟩, k_instanceMethod_yX4_seesWord, k_selects_RX4_yX4_seesWord_yX4_seesWord⟩ ⟨fun a U g mk q => ⟨q.1, (fun _ _ _ _ => cPe_bl (fun h => cPr_bl h)) a U g mk q.2⟩, va_recv hK hP (ci := 5) (q0 := 8) rfl rfl, fun U hU hW => ⟨rfl, ⟨hEc U hU hW, ⟨by rw [hU]; exact (hP.sub (ws' := (ww_X4_seesWord cs ad raR raT xR nT R T)) [8, 9] rfl), va_K.moved hW.alike hK, kN_warm hW hN⟩⟩⟩⟩ rfl rfl hl.1 rfl (lv_room (Nat.le_of_ble_eq_true rfl)) dX3_readLine_36 ⟨Nat.le_refl _, Nat.le_refl _⟩) ?_
      refine lv_if_eq (tgt := 48) hx hb dX3_readLine_39 (by decide) (fun hb24 => ?_) (fun hb24 => ?_)
      · have hf := (if_pos hb24).symm.trans hf
        refine lv_aload_n hx hb dX3_readLine_48 rfl (lv_at hl 1 rfl) ?_
        refine va_gets hx hb (show va_Z "KeyLetters$Word" "ANSWERS" "LKeyLetters$Word;" (.ref (ad 4)) _ s s.heap from (hE.1.1 4 (by decide)).1) hS hown kLink_RX3_111__KeyLetters_Word___ANSWERS___LKeyLetters_Word__ (fun _ h9 => h9) dX3_readLine_49 ?_
        obtain ⟨v8, hq7, hf⟩ := bo_e hf
        have hEc := cE_subF hE hS
        refine ko_call (v := some (.int v8)) (va_runVN (As := [.ref (ad (4 : Int32).toNatClampNeg)]) (rest := []) ⟨hx, hb, hml, hown, hts⟩ (c_X4_seesWord l dC dI cs ad raR raT xR nT R T (4 : Int32) v8 hq7) ⟨va_cnB 1 hts gX3_readLine_X4_seesWord_n92 rfl rfl rfl (hN _ (List.mem_of_getElem? (i := 74) rfl)) k_initialized_RX4 (by decide +kernel) ⟨Nat.le_of_ble_eq_true rfl, Nat.le_of_ble_eq_true rfl⟩, k_instanceMethod_yX4_seesWord, k_selects_RX4_yX4_seesWord_yX4_seesWord⟩ ⟨fun a U g mk q => ⟨q.1, (fun _ _ _ _ => cPe_bl (fun h => cPr_bl h)) a U g mk q.2⟩, va_recv hK hP (ci := 5) (q0 := 8) rfl rfl, fun U hU hW => ⟨rfl, ⟨hEc U hU hW, ⟨by rw [hU]; exact (hP.sub (ws' := (ww_X4_seesWord cs ad raR raT xR nT R T)) [8, 9] rfl), va_K.moved hW.alike hK, kN_warm hW hN⟩⟩⟩⟩ rfl rfl hl.1 rfl (lv_room (Nat.le_of_ble_eq_true rfl)) dX3_readLine_52 ⟨Nat.le_refl _, Nat.le_refl _⟩) ?_
        refine lv_if_eq (tgt := 64) hx hb dX3_readLine_55 (by decide) (fun hb18 => ?_) (fun hb18 => ?_)
        · have hf := (if_pos hb18).symm.trans hf
          refine lv_aload_n hx hb dX3_readLine_64 rfl (lv_at hl 1 rfl) ?_
          refine lv_iconst (v := 1) hx hb dX3_readLine_65 (by decide) ?_
          obtain ⟨v10, Rv11, hq9, hf⟩ := bo2_e hf
          refine g_callw (isC := [8, 9]) (isR := [0, 1, 2, 3, 4, 5, 6, 7]) (wc := (ww_X4_refuse cs ad raR raT xR nT R T)) (wz := (ww_X4_refuse cs ad raR raT xR nT zD (fun _ => 0))) (w1 := (ww_X4_refuse cs ad raR raT xR nT Rv11 T)) (ws' := (ww_X3_readLine cs ad raO raR raT xR nT O Rv11 T)) (v := v10) (va_runVN (As := [.int (1 : Int32)]) (rest := []) ⟨hx, hb, hml, hown, hts⟩ (c_X4_refuse l dC dI cs ad raR raT xR nT _ R T (1 : Int32) (v10, Rv11) hq9) ⟨va_cnB 1 hts gX3_readLine_X4_refuse_n117 rfl rfl rfl (hN _ (List.mem_of_getElem? (i := 75) rfl)) k_initialized_RX4 (by decide +kernel) ⟨Nat.le_of_ble_eq_true rfl, Nat.le_of_ble_eq_true rfl⟩, k_instanceMethod_yX4_refuse, k_selects_RX4_yX4_refuse_yX4_refuse⟩ ⟨fun a U g mk q => ⟨q.1, (fun _ _ _ _ => cPw_bl) a U g mk q.2⟩, va_recv hK hP (ci := 5) (q0 := 8) rfl rfl, fun U hU hW => ⟨rfl, ⟨by rw [hU], by rw [hU]; exact (hP.sub (ws' := (ww_X4_refuse cs ad raR raT xR nT R T)) [8, 9] rfl), va_K.moved hW.alike hK, (hD.sub (ws' := (ww_X4_refuse cs ad raR raT xR nT R T)) [8, 9] (by decide) rfl).weaken (fun _ _ _ _ => trivial), kN_warm hW hN⟩⟩⟩ rfl rfl hl.1 rfl (lv_room (Nat.le_of_ble_eq_true rfl)) dX3_readLine_66 ⟨Nat.le_refl _, Nat.le_refl _⟩) hP hD hS hA rfl rfl (wr := ((wX3 cs ad raO O))) rfl rfl rfl (nw := 10) rfl (by decide +kernel) rfl (fun H locs hP hD hS => ?_)
          obtain ⟨hc12, hf⟩ := ck_e hf
          have hf := Option.some.inj hf
          subst hf
          exact c_zret (v := v10) hx hb hr (kt_z (Decidable.not_not.mp hc12)) hlocks hP hK hD hS dX3_readLine_69
        · have hf := (if_neg hb18).symm.trans hf
          refine lv_aload_n hx hb dX3_readLine_58 rfl (lv_at hl 0 rfl) ?_
          refine lv_aload_n hx hb dX3_readLine_59 rfl (lv_at hl 1 rfl) ?_
          obtain ⟨v14, Ov15, Rv16, hq13, hf⟩ := bo3_e hf
          have hEc := cE_sub (A1 := va_A (ww_X3_readAnswers cs ad raO raR raT xR nT zD zD (fun _ => 0)) _) hE hS (cA_free (isC := [0, 1, 2, 3, 4, 5, 6, 7, 8, 9]) (wc := (ww_X3_readAnswers cs ad raO raR raT xR nT O R T)) (wz := (ww_X3_readAnswers cs ad raO raR raT xR nT zD zD (fun _ => 0))) rfl rfl hD hS hA)
          refine g_callw (isC := [0, 1, 2, 3, 4, 5, 6, 7, 8, 9]) (isR := []) (wc := (ww_X3_readAnswers cs ad raO raR raT xR nT O R T)) (wz := (ww_X3_readAnswers cs ad raO raR raT xR nT zD zD (fun _ => 0))) (w1 := (ww_X3_readAnswers cs ad raO raR raT xR nT Ov15 Rv16 T)) (ws' := (ww_X3_readLine cs ad raO raR raT xR nT Ov15 Rv16 T)) (v := v14) (va_runV (As := [.ref (raR 0)]) (rest := []) ⟨hx, hb, hml, hown, hts⟩ (c_X3_readAnswers l dC dI cs ad raO raR raT xR nT _ O R T (v14, Ov15, Rv16) hq13) (cwV 1 hts gX3_readLine_X3_readAnswers rfl rfl rfl (by decide +kernel) ⟨Nat.le_of_ble_eq_true rfl, Nat.le_of_ble_eq_true rfl⟩) ⟨fun a U g mk q => ⟨q.1, (fun _ _ _ _ => cPe_bl (fun h => cPw_bl h)) a U g mk q.2⟩, va_recv hK hP (ci := 4) (q0 := 0) rfl rfl, fun U hU hW => ⟨rfl, ⟨hEc U hU hW, ⟨by rw [hU], by rw [hU]; exact (hP.sub (ws' := (ww_X3_readAnswers cs ad raO raR raT xR nT O R T)) [0, 1, 2, 3, 4, 5, 6, 7, 8, 9] rfl), va_K.moved hW.alike hK, (hD.sub (ws' := (ww_X3_readAnswers cs ad raO raR raT xR nT O R T)) [0, 1, 2, 3, 4, 5, 6, 7, 8, 9] (by decide) rfl).weaken (fun _ _ _ _ => trivial), kN_warm hW hN⟩⟩⟩⟩ rfl rfl hl.1 rfl (lv_room (Nat.le_of_ble_eq_true rfl)) dX3_readLine_60 ⟨Nat.le_refl _, Nat.le_refl _⟩) hP hD hS hA rfl rfl (wr := ([] : va_W)) rfl rfl rfl (nw := 10) rfl (by decide +kernel) rfl (fun H locs hP hD hS => ?_)
          obtain ⟨hc17, hf⟩ := ck_e hf
          have hf := Option.some.inj hf
          subst hf
          exact c_zret (v := v14) hx hb hr (kt_z (Decidable.not_not.mp hc17)) hlocks hP hK hD hS dX3_readLine_63
      · have hf := (if_neg hb24).symm.trans hf
        refine lv_aload_n hx hb dX3_readLine_42 rfl (lv_at hl 0 rfl) ?_
        refine lv_aload_n hx hb dX3_readLine_43 rfl (lv_at hl 1 rfl) ?_
        obtain ⟨v20, Ov21, Rv22, hq19, hf⟩ := bo3_e hf
        have hEc := cE_sub (A1 := va_A (ww_X3_readKnows cs ad raO raR raT xR nT zD zD (fun _ => 0)) _) hE hS (cA_free (isC := [0, 1, 2, 3, 4, 5, 6, 7, 8, 9]) (wc := (ww_X3_readKnows cs ad raO raR raT xR nT O R T)) (wz := (ww_X3_readKnows cs ad raO raR raT xR nT zD zD (fun _ => 0))) rfl rfl hD hS hA)
        refine g_callw (isC := [0, 1, 2, 3, 4, 5, 6, 7, 8, 9]) (isR := []) (wc := (ww_X3_readKnows cs ad raO raR raT xR nT O R T)) (wz := (ww_X3_readKnows cs ad raO raR raT xR nT zD zD (fun _ => 0))) (w1 := (ww_X3_readKnows cs ad raO raR raT xR nT Ov21 Rv22 T)) (ws' := (ww_X3_readLine cs ad raO raR raT xR nT Ov21 Rv22 T)) (v := v20) (va_runV (As := [.ref (raR 0)]) (rest := []) ⟨hx, hb, hml, hown, hts⟩ (c_X3_readKnows l dC dI cs ad raO raR raT xR nT _ O R T (v20, Ov21, Rv22) hq19) (cwV 1 hts gX3_readLine_X3_readKnows rfl rfl rfl (by decide +kernel) ⟨Nat.le_of_ble_eq_true rfl, Nat.le_of_ble_eq_true rfl⟩) ⟨fun a U g mk q => ⟨q.1, (fun _ _ _ _ => cPe_bl (fun h => cPw_bl h)) a U g mk q.2⟩, va_recv hK hP (ci := 4) (q0 := 0) rfl rfl, fun U hU hW => ⟨rfl, ⟨hEc U hU hW, ⟨by rw [hU], by rw [hU]; exact (hP.sub (ws' := (ww_X3_readKnows cs ad raO raR raT xR nT O R T)) [0, 1, 2, 3, 4, 5, 6, 7, 8, 9] rfl), va_K.moved hW.alike hK, (hD.sub (ws' := (ww_X3_readKnows cs ad raO raR raT xR nT O R T)) [0, 1, 2, 3, 4, 5, 6, 7, 8, 9] (by decide) rfl).weaken (fun _ _ _ _ => trivial), kN_warm hW hN⟩⟩⟩⟩ rfl rfl hl.1 rfl (lv_room (Nat.le_of_ble_eq_true rfl)) dX3_readLine_44 ⟨Nat.le_refl _, Nat.le_refl _⟩) hP hD hS hA rfl rfl (wr := ([] : va_W)) rfl rfl rfl (nw := 10) rfl (by decide +kernel) rfl (fun H locs hP hD hS => ?_)
        obtain ⟨hc23, hf⟩ := ck_e hf
        have hf := Option.some.inj hf
        subst hf
        exact c_zret (v := v20) hx hb hr (kt_z (Decidable.not_not.mp hc23)) hlocks hP hK hD hS dX3_readLine_47
    · have hf := (if_neg hb30).symm.trans hf
      refine lv_aload_n hx hb dX3_readLine_26 rfl (lv_at hl 0 rfl) ?_
      refine lv_aload_n hx hb dX3_readLine_27 rfl (lv_at hl 1 rfl) ?_
      obtain ⟨v26, Ov27, Rv28, hq25, hf⟩ := bo3_e hf
      have hEc := cE_sub (A1 := va_A (ww_X3_readPhrase cs ad raO raR raT xR nT zD zD (fun _ => 0)) _) hE hS (cA_free (isC := [0, 1, 2, 3, 4, 5, 6, 7, 8, 9]) (wc := (ww_X3_readPhrase cs ad raO raR raT xR nT O R T)) (wz := (ww_X3_readPhrase cs ad raO raR raT xR nT zD zD (fun _ => 0))) rfl rfl hD hS hA)
      refine g_callw (isC := [0, 1, 2, 3, 4, 5, 6, 7, 8, 9]) (isR := []) (wc := (ww_X3_readPhrase cs ad raO raR raT xR nT O R T)) (wz := (ww_X3_readPhrase cs ad raO raR raT xR nT zD zD (fun _ => 0))) (w1 := (ww_X3_readPhrase cs ad raO raR raT xR nT Ov27 Rv28 T)) (ws' := (ww_X3_readLine cs ad raO raR raT xR nT Ov27 Rv28 T)) (v := v26) (va_runV (As := [.ref (raR 0)]) (rest := []) ⟨hx, hb, hml, hown, hts⟩ (c_X3_readPhrase l dC dI cs ad raO raR raT xR nT _ O R T (v26, Ov27, Rv28) hq25) (cwV 1 hts gX3_readLine_X3_readPhrase rfl rfl rfl (by decide +kernel) ⟨Nat.le_of_ble_eq_true rfl, Nat.le_of_ble_eq_true rfl⟩) ⟨fun a U g mk q => ⟨q.1, (fun _ _ _ _ => cPe_bl (fun h => cPw_bl h)) a U g mk q.2⟩, va_recv hK hP (ci := 4) (q0 := 0) rfl rfl, fun U hU hW => ⟨rfl, ⟨hEc U hU hW, ⟨by rw [hU], by rw [hU]; exact (hP.sub (ws' := (ww_X3_readPhrase cs ad raO raR raT xR nT O R T)) [0, 1, 2, 3, 4, 5, 6, 7, 8, 9] rfl), va_K.moved hW.alike hK, (hD.sub (ws' := (ww_X3_readPhrase cs ad raO raR raT xR nT O R T)) [0, 1, 2, 3, 4, 5, 6, 7, 8, 9] (by decide) rfl).weaken (fun _ _ _ _ => trivial), kN_warm hW hN⟩⟩⟩⟩ rfl rfl hl.1 rfl (lv_room (Nat.le_of_ble_eq_true rfl)) dX3_readLine_28 ⟨Nat.le_refl _, Nat.le_refl _⟩) hP hD hS hA rfl rfl (wr := ([] : va_W)) rfl rfl rfl (nw := 10) rfl (by decide +kernel) rfl (fun H locs hP hD hS => ?_)
      obtain ⟨hc29, hf⟩ := ck_e hf
      have hf := Option.some.inj hf
      subst hf
      exact c_zret (v := v26) hx hb hr (kt_z (Decidable.not_not.mp hc29)) hlocks hP hK hD hS dX3_readLine_31
  · have hf := (if_neg hb36).symm.trans hf
    refine lv_aload_n hx hb dX3_readLine_10 rfl (lv_at hl 0 rfl) ?_
    refine lv_aload_n hx hb dX3_readLine_11 rfl (lv_at hl 1 rfl) ?_
    obtain ⟨v32, Ov33, Rv34, hq31, hf⟩ := bo3_e hf
    have hEc := cE_sub (A1 := va_A (ww_X3_readMachine cs ad raO raR raT xR nT zD zD (fun _ => 0)) _) hE hS (cA_free (isC := [0, 1, 2, 3, 4, 5, 6, 7, 8, 9]) (wc := (ww_X3_readMachine cs ad raO raR raT xR nT O R T)) (wz := (ww_X3_readMachine cs ad raO raR raT xR nT zD zD (fun _ => 0))) rfl rfl hD hS hA)
    refine g_callw (isC := [0, 1, 2, 3, 4, 5, 6, 7, 8, 9]) (isR := []) (wc := (ww_X3_readMachine cs ad raO raR raT xR nT O R T)) (wz := (ww_X3_readMachine cs ad raO raR raT xR nT zD zD (fun _ => 0))) (w1 := (ww_X3_readMachine cs ad raO raR raT xR nT Ov33 Rv34 T)) (ws' := (ww_X3_readLine cs ad raO raR raT xR nT Ov33 Rv34 T)) (v := v32) (va_runV (As := [.ref (raR 0)]) (rest := []) ⟨hx, hb, hml, hown, hts⟩ (c_X3_readMachine l dC dI cs ad raO raR raT xR nT _ O R T (v32, Ov33, Rv34) hq31) (cwV 1 hts gX3_readLine_X3_readMachine rfl rfl rfl (by decide +kernel) ⟨Nat.le_of_ble_eq_true rfl, Nat.le_of_ble_eq_true rfl⟩) ⟨fun a U g mk q => ⟨q.1, (fun _ _ _ _ => cPe_bl (fun h => cPw_bl h)) a U g mk q.2⟩, va_recv hK hP (ci := 4) (q0 := 0) rfl rfl, fun U hU hW => ⟨rfl, ⟨hEc U hU hW, ⟨by rw [hU], by rw [hU]; exact (hP.sub (ws' := (ww_X3_readMachine cs ad raO raR raT xR nT O R T)) [0, 1, 2, 3, 4, 5, 6, 7, 8, 9] rfl), va_K.moved hW.alike hK, (hD.sub (ws' := (ww_X3_readMachine cs ad raO raR raT xR nT O R T)) [0, 1, 2, 3, 4, 5, 6, 7, 8, 9] (by decide) rfl).weaken (fun _ _ _ _ => trivial), kN_warm hW hN⟩⟩⟩⟩ rfl rfl hl.1 rfl (lv_room (Nat.le_of_ble_eq_true rfl)) dX3_readLine_12 ⟨Nat.le_refl _, Nat.le_refl _⟩) hP hD hS hA rfl rfl (wr := ([] : va_W)) rfl rfl rfl (nw := 10) rfl (by decide +kernel) rfl (fun H locs hP hD hS => ?_)
    obtain ⟨hc35, hf⟩ := ck_e hf
    have hf := Option.some.inj hf
    subst hf
    exact c_zret (v := v32) hx hb hr (kt_z (Decidable.not_not.mp hc35)) hlocks hP hK hD hS dX3_readLine_15

def ww_X3_read (cs : Nat → ClassId) (ad : Nat → Nat) (raO : Nat → Nat) (raR : Nat → Nat) (raT : Nat) (xR : Nat) (nT : Nat) (O : kD) (R : kD) (T : Nat → Int32) : va_W := (wX3 cs ad raO O ++ (wX4 cs ad raR xR raT R ++ ([(raT, .inl (cs 1, nT, .inl T))])))
abbrev rm_X3_read : Room := { frames := 8, cells := 0, slots := 0, locals := 210 }
set_option maxHeartbeats 4000000 in
set_option maxRecDepth 100000 in
theorem c_X3_read (l : Launch) (dC : Nat → ClassId) (dI : Nat → Nat → Nat) (cs : Nat → ClassId) (ad : Nat → Nat) (raO : Nat → Nat) (raR : Nat → Nat) (raT : Nat) (xR : Nat) (nT : Nat) (sz : Nat) (O : kD) (R : kD) (T : Nat → Int32) (r : Int32 × kD × kD) (hf : f_X3_read nT O R T = some r) : Met l yX3_read wsX3_read rm_X3_read (va_Pc [.ref (raO 0), .ref (raR 0)] (cPe ad (va_A (ww_X3_read cs ad raO raR raT xR nT zD zD (fun _ => 0)) sz) (cPw dC dI cs sz (ww_X3_read cs ad raO raR raT xR nT O R T)))) (cQi dC dI cs (va_A (ww_X3_read cs ad raO raR raT xR nT zD zD (fun _ => 0)) sz) r.1 (ww_X3_read cs ad raO raR raT xR nT r.2.1 r.2.2 T)) 0 0 (va_A (ww_X3_read cs ad raO raR raT xR nT zD zD (fun _ => 0)) sz) := by
  refine Met.ofW (cc := cX3_read) (maxL := 2) (ret := (some .boolean)) (by decide) rfl ?_
  intro p e s m args below meth c s₁ B hml hv
  obtain ⟨hav, hE, hsz, hP, hK, hD0, hN⟩ := hv
  have hx := B.exec
  have hb := B.bytes
  have hr := B.returns
  have hts := atoms_spec (ws := wsX3_read) B.pre
  have hown : s.vm.findClass RX3 = some m.cls := findClass_of_methodNamed B.named
  have hlocks := B.notSynchronized
  subst hsz
  have hA : ∀ q, s.heap.size ≤ q → va_A (ww_X3_read cs ad raO raR raT xR nT zD zD (fun _ => 0)) s.heap.size q := fun q h => Or.inr h
  have hD : va_D (va_A (ww_X3_read cs ad raO raR raT xR nT zD zD (fun _ => 0)) s.heap.size) (ww_X3_read cs ad raO raR raT xR nT O R T) := hD0.weaken (fun k q h _ => cA_in (ws := (ww_X3_read cs ad raO raR raT xR nT O R T)) (ws' := (ww_X3_read cs ad raO raR raT xR nT zD zD (fun _ => 0))) rfl h)
  have hS : va_S (va_A (ww_X3_read cs ad raO raR raT xR nT zD zD (fun _ => 0)) s.heap.size) s.heap s.heap [] := va_S.rf
  have hinX3 := (show ∀ w ∈ wsX30, w ∈ wsX3_read from fun w h => List.mem_cons_of_mem _ (List.mem_append_left _ (List.mem_append_right _ h)))
  have k_fieldLink_RX3_34__KeyLetters_Office___lines___I_ := hts (.fieldLink RX3 34 "KeyLetters$Office" "lines" "I") (List.mem_of_getElem? (i := 1) rfl)
  have k_fieldLink_RX3_38__KeyLetters_Office___machines___I_ := hts (.fieldLink RX3 38 "KeyLetters$Office" "machines" "I") (List.mem_of_getElem? (i := 2) rfl)
  have k_fieldLink_RX3_41__KeyLetters_Office___phrases___I_ := hts (.fieldLink RX3 41 "KeyLetters$Office" "phrases" "I") (List.mem_of_getElem? (i := 3) rfl)
  have k_fieldLink_RX3_44__KeyLetters_Office___answersTold___I_ := hts (.fieldLink RX3 44 "KeyLetters$Office" "answersTold" "I") (List.mem_of_getElem? (i := 4) rfl)
  have k_initialized_RX4 := hts (.initialized RX4) (List.mem_of_getElem? (i := 6) rfl)
  have k_instanceMethod_yX4_needsEnd := hts (.instanceMethod yX4_needsEnd) (List.mem_of_getElem? (i := 171) rfl)
  have k_instanceMethod_yX4_passSign := hts (.instanceMethod yX4_passSign) (List.mem_of_getElem? (i := 163) rfl)
  have k_instanceMethod_yX4_seesEnd := hts (.instanceMethod yX4_seesEnd) (List.mem_of_getElem? (i := 5) rfl)
  have k_selects_RX4_yX4_needsEnd_yX4_needsEnd := hts (.selects RX4 yX4_needsEnd yX4_needsEnd) (List.mem_of_getElem? (i := 172) rfl)
  have k_selects_RX4_yX4_passSign_yX4_passSign := hts (.selects RX4 yX4_passSign yX4_passSign) (List.mem_of_getElem? (i := 164) rfl)
  have k_selects_RX4_yX4_seesEnd_yX4_seesEnd := hts (.selects RX4 yX4_seesEnd yX4_seesEnd) (List.mem_of_getElem? (i := 7) rfl)
  have hl := lv_entry ([.ref (raO 0), .ref (raR 0)]) (n := 2) (Nat.le_of_ble_eq_true rfl)
  rw [show entryFrame m args 2 = entryFrame m ([.ref (raO 0), .ref (raR 0)] : List Value).toArray 2 from by rw [hav], lg_entry_eq]
  generalize (lg_sl ([.ref (raO 0), .ref (raR 0)]) ++ List.replicate (2 - (lg_sl ([.ref (raO 0), .ref (raR 0)])).length) Slot.unset).toArray = ls at hl ⊢
  have hl : lv_has ls 2 [(0, .ref (raO 0)), (1, .ref (raR 0))] := hl
  unfold f_X3_read at hf
  have h_69 : ∀ (O_69 : kD) (R_69 : kD) (ls : Array Slot) (H : Heap) (locs : List Loc), lv_has ls 2 [(1, .ref (raR 0))] → va_P (dC, dI) vwCl (ww_X3_read cs ad raO raR raT xR nT O_69 R_69 T) H → va_D (va_A (ww_X3_read cs ad raO raR raT xR nT zD zD (fun _ => 0)) s.heap.size) (ww_X3_read cs ad raO raR raT xR nT O_69 R_69 T) → va_S (va_A (ww_X3_read cs ad raO raR raT xR nT zD zD (fun _ => 0)) s.heap.size) s.heap H locs → g_X3_read_69 nT T O_69 R_69 = some r → W p l e (headSpec wsX3_read rm_X3_read).room s m args below meth c H locs 0 0 (MQ below (cQi dC dI cs (va_A (ww_X3_read cs ad raO raR raT xR nT zD zD (fun _ => 0)) s.heap.size) r.1 (ww_X3_read cs ad raO raR raT xR nT r.2.1 r.2.2 T)) args s 0 0 (va_A (ww_X3_read cs ad raO raR raT xR nT zD zD (fun _ => 0)) s.heap.size)) (F0 m 69 ls []) := by
    intro O_69 R_69 ls H locs hl hP hD hS hf
    unfold g_X3_read_69 at hf
    refine lv_aload_n hx hb dX3_read_69 rfl (lv_at hl 0 rfl) ?_
    obtain ⟨v2, Rv3, hq1, hf⟩ := bo2_e hf
    refine g_callw (isC := [8, 9]) (isR := [0, 1, 2, 3, 4, 5, 6, 7]) (wc := (ww_X4_needsEnd cs ad raR raT xR nT R_69 T)) (wz := (ww_X4_needsEnd cs ad raR raT xR nT zD (fun _ => 0))) (w1 := (ww_X4_needsEnd cs ad raR raT xR nT Rv3 T)) (ws' := (ww_X3_read cs ad raO raR raT xR nT O_69 Rv3 T)) (v := v2) (va_runVN (As := []) (rest := []) ⟨hx, hb, hml, hown, hts⟩ (c_X4_needsEnd l dC dI cs ad raR raT xR nT _ R_69 T (v2, Rv3) hq1) ⟨va_cnB 0 hts gX3_read_X4_needsEnd_n83 rfl rfl rfl (hN _ (List.mem_of_getElem? (i := 84) rfl)) k_initialized_RX4 (by decide +kernel) ⟨Nat.le_of_ble_eq_true rfl, Nat.le_of_ble_eq_true rfl⟩, k_instanceMethod_yX4_needsEnd, k_selects_RX4_yX4_needsEnd_yX4_needsEnd⟩ ⟨fun a U g mk q => ⟨q.1, (fun _ _ _ _ => cPw_bl) a U g mk q.2⟩, va_recv hK hP (ci := 5) (q0 := 8) rfl rfl, fun U hU hW => ⟨rfl, ⟨by rw [hU], by rw [hU]; exact (hP.sub (ws' := (ww_X4_needsEnd cs ad raR raT xR nT R_69 T)) [8, 9] rfl), va_K.moved hW.alike hK, (hD.sub (ws' := (ww_X4_needsEnd cs ad raR raT xR nT R_69 T)) [8, 9] (by decide) rfl).weaken (fun _ _ _ _ => trivial), kN_warm hW hN⟩⟩⟩ rfl rfl hl.1 rfl (lv_room (Nat.le_of_ble_eq_true rfl)) dX3_read_70 ⟨Nat.le_refl _, Nat.le_refl _⟩) hP hD hS hA rfl rfl (wr := ((wX3 cs ad raO O_69))) rfl rfl rfl (nw := 10) rfl (by decide +kernel) rfl (fun H locs hP hD hS => ?_)
    obtain ⟨hc4, hf⟩ := ck_e hf
    have hf := Option.some.inj hf
    subst hf
    exact c_zret (v := v2) hx hb hr (kt_z (Decidable.not_not.mp hc4)) hlocks hP hK hD hS dX3_read_73
  have h_20 := lp_ind (z := (fun _ _ => none)) (b := (g_X3_read_20 nT T)) (fun (rc_20 : kD → kD → Option (Int32 × kD × kD)) => ∀ (O_20 : kD) (R_20 : kD) (ls : Array Slot) (H : Heap) (locs : List Loc), lv_has ls 2 [(0, .ref (raO 0)), (1, .ref (raR 0))] → va_P (dC, dI) vwCl (ww_X3_read cs ad raO raR raT xR nT O_20 R_20 T) H → va_D (va_A (ww_X3_read cs ad raO raR raT xR nT zD zD (fun _ => 0)) s.heap.size) (ww_X3_read cs ad raO raR raT xR nT O_20 R_20 T) → va_S (va_A (ww_X3_read cs ad raO raR raT xR nT zD zD (fun _ => 0)) s.heap.size) s.heap H locs → rc_20 O_20 R_20 = some r → W p l e (headSpec wsX3_read rm_X3_read).room s m args below meth c H locs 0 0 (MQ below (cQi dC dI cs (va_A (ww_X3_read cs ad raO raR raT xR nT zD zD (fun _ => 0)) s.heap.size) r.1 (ww_X3_read cs ad raO raR raT xR nT r.2.1 r.2.2 T)) args s 0 0 (va_A (ww_X3_read cs ad raO raR raT xR nT zD zD (fun _ => 0)) s.heap.size)) (F0 m 20 ls [])) (by
      intro O_20 R_20 ls H locs hl hP hD hS hf
      cases hf) (by
      intro rc_20 ih_20 O_20 R_20 ls H locs hl hP hD hS hf
      unfold g_X3_read_20 at hf
      refine lv_aload_n hx hb dX3_read_20 rfl (lv_at hl 0 rfl) ?_
      refine va_get (D := (dC, dI)) (ci := 4) (C := RX3) (T := TX3) (N := 11) hx hb hts hinX3 hown hK hP 0 rfl rfl 0 (by decide) (v := .int (O_20.1 0 0)) k_fieldLink_RX3_34__KeyLetters_Office___lines___I_ (fun _ h9 => h9) rfl dX3_read_21 ?_
      refine lv_sipush (v := 900) hx hb dX3_read_24 (by decide) ?_
      refine lv_icmp_ge (tgt := 69) hx hb dX3_read_27 (by decide) (fun hb16 => ?_) (fun hb16 => ?_)
      · have hf := (if_pos hb16).symm.trans hf
        exact h_69 O_20 R_20 ls _ _ (lv_sub hl [1] rfl) hP hD hS hf
      · have hf := (if_neg hb16).symm.trans hf
        refine lv_aload_n hx hb dX3_read_30 rfl (lv_at hl 1 rfl) ?_
        refine ko_call (v := some (.int (f_X4_seesEnd nT R_20 T))) (va_runVN (As := []) (rest := []) ⟨hx, hb, hml, hown, hts⟩ (c_X4_seesEnd l dC dI cs ad raR raT xR nT R_20 T _ rfl) ⟨va_cnB 0 hts gX3_read_X4_seesEnd_n70 rfl rfl rfl (hN _ (List.mem_of_getElem? (i := 73) rfl)) k_initialized_RX4 (by decide +kernel) ⟨Nat.le_of_ble_eq_true rfl, Nat.le_of_ble_eq_true rfl⟩, k_instanceMethod_yX4_seesEnd, k_selects_RX4_yX4_seesEnd_yX4_seesEnd⟩ ⟨fun a U g mk q => ⟨q.1, (fun _ _ _ _ => cPr_bl) a U g mk q.2⟩, va_recv hK hP (ci := 5) (q0 := 8) rfl rfl, fun U hU hW => ⟨rfl, ⟨by rw [hU]; exact (hP.sub (ws' := (ww_X4_seesEnd cs ad raR raT xR nT R_20 T)) [8, 9] rfl), va_K.moved hW.alike hK, kN_warm hW hN⟩⟩⟩ rfl rfl hl.1 rfl (lv_room (Nat.le_of_ble_eq_true rfl)) dX3_read_31 ⟨Nat.le_refl _, Nat.le_refl _⟩) ?_
        refine lv_if_ne (tgt := 69) hx hb dX3_read_34 (by decide) (fun hb15 => ?_) (fun hb15 => ?_)
        · have hf := (if_neg hb15).symm.trans hf
          exact h_69 O_20 R_20 ls _ _ (lv_sub hl [1] rfl) hP hD hS hf
        · have hf := (if_pos hb15).symm.trans hf
          refine lv_aload_n hx hb dX3_read_37 rfl (lv_at hl 0 rfl) ?_
          refine lv_aload_n hx hb dX3_read_38 rfl (lv_at hl 1 rfl) ?_
          obtain ⟨v6, Ov7, Rv8, hq5, hf⟩ := bo3_e hf
          have hEc := cE_sub (A1 := va_A (ww_X3_readLine cs ad raO raR raT xR nT zD zD (fun _ => 0)) _) hE hS (cA_free (isC := [0, 1, 2, 3, 4, 5, 6, 7, 8, 9]) (wc := (ww_X3_readLine cs ad raO raR raT xR nT O_20 R_20 T)) (wz := (ww_X3_readLine cs ad raO raR raT xR nT zD zD (fun _ => 0))) rfl rfl hD hS hA)
          refine g_callw (isC := [0, 1, 2, 3, 4, 5, 6, 7, 8, 9]) (isR := []) (wc := (ww_X3_readLine cs ad raO raR raT xR nT O_20 R_20 T)) (wz := (ww_X3_readLine cs ad raO raR raT xR nT zD zD (fun _ => 0))) (w1 := (ww_X3_readLine cs ad raO raR raT xR nT Ov7 Rv8 T)) (ws' := (ww_X3_read cs ad raO raR raT xR nT Ov7 Rv8 T)) (v := v6) (va_runV (As := [.ref (raR 0)]) (rest := []) ⟨hx, hb, hml, hown, hts⟩ (c_X3_readLine l dC dI cs ad raO raR raT xR nT _ O_20 R_20 T (v6, Ov7, Rv8) hq5) (cwV 1 hts gX3_read_X3_readLine rfl rfl rfl (by decide +kernel) ⟨Nat.le_of_ble_eq_true rfl, Nat.le_of_ble_eq_true rfl⟩) ⟨fun a U g mk q => ⟨q.1, (fun _ _ _ _ => cPe_bl (fun h => cPw_bl h)) a U g mk q.2⟩, va_recv hK hP (ci := 4) (q0 := 0) rfl rfl, fun U hU hW => ⟨rfl, ⟨hEc U hU hW, ⟨by rw [hU], by rw [hU]; exact (hP.sub (ws' := (ww_X3_readLine cs ad raO raR raT xR nT O_20 R_20 T)) [0, 1, 2, 3, 4, 5, 6, 7, 8, 9] rfl), va_K.moved hW.alike hK, (hD.sub (ws' := (ww_X3_readLine cs ad raO raR raT xR nT O_20 R_20 T)) [0, 1, 2, 3, 4, 5, 6, 7, 8, 9] (by decide) rfl).weaken (fun _ _ _ _ => trivial), kN_warm hW hN⟩⟩⟩⟩ rfl rfl hl.1 rfl (lv_room (Nat.le_of_ble_eq_true rfl)) dX3_read_39 ⟨Nat.le_refl _, Nat.le_refl _⟩) hP hD hS hA rfl rfl (wr := ([] : va_W)) rfl rfl rfl (nw := 10) rfl (by decide +kernel) rfl (fun H locs hP hD hS => ?_)
          refine lv_if_eq (tgt := 54) hx hb dX3_read_42 (by decide) (fun hb14 => ?_) (fun hb14 => ?_)
          · have hf := (if_pos hb14).symm.trans hf
            refine lv_iconst (v := 0) hx hb dX3_read_54 (by decide) ?_
            have hf := Option.some.inj hf
            subst hf
            exact c_zret (v := (0 : Int32)) hx hb hr rfl hlocks hP hK hD hS dX3_read_55
          · have hf := (if_neg hb14).symm.trans hf
            refine lv_aload_n hx hb dX3_read_45 rfl (lv_at hl 1 rfl) ?_
            refine lv_bipush (v := 59) hx hb dX3_read_46 (by decide) ?_
            obtain ⟨v10, Rv11, hq9, hf⟩ := bo2_e hf
            have hEc := cE_sub (A1 := va_A (ww_X4_passSign cs ad raR raT xR nT zD (fun _ => 0)) _) hE hS (cA_free (isC := [8, 9]) (wc := (ww_X4_passSign cs ad raR raT xR nT Rv8 T)) (wz := (ww_X4_passSign cs ad raR raT xR nT zD (fun _ => 0))) rfl rfl hD hS hA)
            refine g_callw (isC := [8, 9]) (isR := [0, 1, 2, 3, 4, 5, 6, 7]) (wc := (ww_X4_passSign cs ad raR raT xR nT Rv8 T)) (wz := (ww_X4_passSign cs ad raR raT xR nT zD (fun _ => 0))) (w1 := (ww_X4_passSign cs ad raR raT xR nT Rv11 T)) (ws' := (ww_X3_read cs ad raO raR raT xR nT Ov7 Rv11 T)) (v := v10) (va_runVN (As := [.int (59 : Int32)]) (rest := []) ⟨hx, hb, hml, hown, hts⟩ (c_X4_passSign l dC dI cs ad raR raT xR nT _ Rv8 T (59 : Int32) (v10, Rv11) hq9) ⟨va_cnB 1 hts gX3_read_X4_passSign_n80 rfl rfl rfl (hN _ (List.mem_of_getElem? (i := 83) rfl)) k_initialized_RX4 (by decide +kernel) ⟨Nat.le_of_ble_eq_true rfl, Nat.le_of_ble_eq_true rfl⟩, k_instanceMethod_yX4_passSign, k_selects_RX4_yX4_passSign_yX4_passSign⟩ ⟨fun a U g mk q => ⟨q.1, (fun _ _ _ _ => cPe_bl (fun h => cPw_bl h)) a U g mk q.2⟩, va_recv hK hP (ci := 5) (q0 := 8) rfl rfl, fun U hU hW => ⟨rfl, ⟨hEc U hU hW, ⟨by rw [hU], by rw [hU]; exact (hP.sub (ws' := (ww_X4_passSign cs ad raR raT xR nT Rv8 T)) [8, 9] rfl), va_K.moved hW.alike hK, (hD.sub (ws' := (ww_X4_passSign cs ad raR raT xR nT Rv8 T)) [8, 9] (by decide) rfl).weaken (fun _ _ _ _ => trivial), kN_warm hW hN⟩⟩⟩⟩ rfl rfl hl.1 rfl (lv_room (Nat.le_of_ble_eq_true rfl)) dX3_read_48 ⟨Nat.le_refl _, Nat.le_refl _⟩) hP hD hS hA rfl rfl (wr := ((wX3 cs ad raO Ov7))) rfl rfl rfl (nw := 10) rfl (by decide +kernel) rfl (fun H locs hP hD hS => ?_)
            refine lv_if_ne (tgt := 56) hx hb dX3_read_51 (by decide) (fun hb13 => ?_) (fun hb13 => ?_)
            · have hf := (if_neg hb13).symm.trans hf
              refine lv_aload_n hx hb dX3_read_56 rfl (lv_at hl 0 rfl) ?_
              refine lv_dup hx hb dX3_read_57 rfl ?_
              refine va_get (D := (dC, dI)) (ci := 4) (C := RX3) (T := TX3) (N := 11) hx hb hts hinX3 hown hK hP 0 rfl rfl 0 (by decide) (v := .int (Ov7.1 0 0)) k_fieldLink_RX3_34__KeyLetters_Office___lines___I_ (fun _ h9 => h9) rfl dX3_read_58 ?_
              refine lv_iconst (v := 1) hx hb dX3_read_61 (by decide) ?_
              refine lv_iadd hx hb dX3_read_62 ?_
              obtain ⟨Ov12, eOv12, hf⟩ := bd1_e hf
              refine g_put (D := (dC, dI)) (ci := 4) (C := RX3) (T := TX3) (N := 11) hx hb hts hinX3 tyX3 tyX3_ok nmX3 hown hK hP hD hS 0 rfl rfl 0 (by decide) k_fieldLink_RX3_34__KeyLetters_Office___lines___I_ (fun _ h9 => h9) rfl (ty := .int) (v := .int ((Ov7.1 0 0) + (1 : Int32))) (by decide +kernel) rfl rfl (Nat.le_of_ble_eq_true rfl) (ws' := (ww_X3_read cs ad raO raR raT xR nT Ov12 Rv11 T)) (by rw [eOv12]; rfl) dX3_read_63 (fun H locs hP hD hS => ?_)
              refine lv_goto (tgt := 20) hx hb dX3_read_66 (by decide) ?_
              exact ih_20 Ov12 Rv11 ls _ _ hl hP hD hS hf
            · have hf := (if_pos hb13).symm.trans hf
              refine lv_iconst (v := 0) hx hb dX3_read_54 (by decide) ?_
              have hf := Option.some.inj hf
              subst hf
              exact c_zret (v := (0 : Int32)) hx hb hr rfl hlocks hP hK hD hS dX3_read_55) 2000
  refine lv_aload_n hx hb dX3_read_0 rfl (lv_at hl 0 rfl) ?_
  refine lv_iconst (v := 0) hx hb dX3_read_1 (by decide) ?_
  obtain ⟨Ov17, eOv17, hf⟩ := bd1_e hf
  refine g_put (D := (dC, dI)) (ci := 4) (C := RX3) (T := TX3) (N := 11) hx hb hts hinX3 tyX3 tyX3_ok nmX3 hown hK hP hD hS 0 rfl rfl 0 (by decide) k_fieldLink_RX3_34__KeyLetters_Office___lines___I_ (fun _ h9 => h9) rfl (ty := .int) (v := .int (0 : Int32)) (by decide +kernel) rfl rfl (Nat.le_of_ble_eq_true rfl) (ws' := (ww_X3_read cs ad raO raR raT xR nT Ov17 R T)) (by rw [eOv17]; rfl) dX3_read_2 (fun H locs hP hD hS => ?_)
  refine lv_aload_n hx hb dX3_read_5 rfl (lv_at hl 0 rfl) ?_
  refine lv_iconst (v := 0) hx hb dX3_read_6 (by decide) ?_
  obtain ⟨Ov18, eOv18, hf⟩ := bd1_e hf
  refine g_put (D := (dC, dI)) (ci := 4) (C := RX3) (T := TX3) (N := 11) hx hb hts hinX3 tyX3 tyX3_ok nmX3 hown hK hP hD hS 0 rfl rfl 1 (by decide) k_fieldLink_RX3_38__KeyLetters_Office___machines___I_ (fun _ h9 => h9) rfl (ty := .int) (v := .int (0 : Int32)) (by decide +kernel) rfl rfl (Nat.le_of_ble_eq_true rfl) (ws' := (ww_X3_read cs ad raO raR raT xR nT Ov18 R T)) (by rw [eOv18]; rfl) dX3_read_7 (fun H locs hP hD hS => ?_)
  refine lv_aload_n hx hb dX3_read_10 rfl (lv_at hl 0 rfl) ?_
  refine lv_iconst (v := 0) hx hb dX3_read_11 (by decide) ?_
  obtain ⟨Ov19, eOv19, hf⟩ := bd1_e hf
  refine g_put (D := (dC, dI)) (ci := 4) (C := RX3) (T := TX3) (N := 11) hx hb hts hinX3 tyX3 tyX3_ok nmX3 hown hK hP hD hS 0 rfl rfl 2 (by decide) k_fieldLink_RX3_41__KeyLetters_Office___phrases___I_ (fun _ h9 => h9) rfl (ty := .int) (v := .int (0 : Int32)) (by decide +kernel) rfl rfl (Nat.le_of_ble_eq_true rfl) (ws' := (ww_X3_read cs ad raO raR raT xR nT Ov19 R T)) (by rw [eOv19]; rfl) dX3_read_12 (fun H locs hP hD hS => ?_)
  refine lv_aload_n hx hb dX3_read_15 rfl (lv_at hl 0 rfl) ?_
  refine lv_iconst (v := 0) hx hb dX3_read_16 (by decide) ?_
  obtain ⟨Ov20, eOv20, hf⟩ := bd1_e hf
  refine g_put (D := (dC, dI)) (ci := 4) (C := RX3) (T := TX3) (N := 11) hx hb hts hinX3 tyX3 tyX3_ok nmX3 hown hK hP hD hS 0 rfl rfl 3 (by decide) k_fieldLink_RX3_44__KeyLetters_Office___answersTold___I_ (fun _ h9 => h9) rfl (ty := .int) (v := .int (0 : Int32)) (by decide +kernel) rfl rfl (Nat.le_of_ble_eq_true rfl) (ws' := (ww_X3_read cs ad raO raR raT xR nT Ov20 R T)) (by rw [eOv20]; rfl) dX3_read_17 (fun H locs hP hD hS => ?_)
  exact h_20 Ov20 R ls _ _ hl hP hD hS hf

def ww_X4_open (cs : Nat → ClassId) (ad : Nat → Nat) (raR : Nat → Nat) (raT : Nat) (xR : Nat) (nT : Nat) (R : kD) (T : Nat → Int32) : va_W := (wX4 cs ad raR xR raT R ++ ([(raT, .inl (cs 1, nT, .inl T))]))
abbrev rm_X4_open : Room := { frames := 6, cells := 0, slots := 0, locals := 166 }
set_option maxHeartbeats 4000000 in
set_option maxRecDepth 100000 in
theorem c_X4_open (l : Launch) (dC : Nat → ClassId) (dI : Nat → Nat → Nat) (cs : Nat → ClassId) (ad : Nat → Nat) (raR : Nat → Nat) (raT : Nat) (xR : Nat) (nT : Nat) (sz : Nat) (R : kD) (T : Nat → Int32) (a1 : Int32) (a2 : Int32) (r : kD) (hf : f_X4_open a1 a2 nT R T = some r) : Met l yX4_open wsX4_open rm_X4_open (va_Pc [.ref (raR 0), .ref raT, .int a1, .int a2] (cPe ad (va_A (ww_X4_open cs ad raR raT xR nT zD (fun _ => 0)) sz) (cPw dC dI cs sz (ww_X4_open cs ad raR raT xR nT R T)))) (cQv dC dI cs (va_A (ww_X4_open cs ad raR raT xR nT zD (fun _ => 0)) sz) (ww_X4_open cs ad raR raT xR nT r T)) 0 0 (va_A (ww_X4_open cs ad raR raT xR nT zD (fun _ => 0)) sz) := by
  refine Met.ofW (cc := cX4_open) (maxL := 4) (ret := none) (by decide) rfl ?_
  intro p e s m args below meth c s₁ B hml hv
  obtain ⟨hav, hE, hsz, hP, hK, hD0, hN⟩ := hv
  have hx := B.exec
  have hb := B.bytes
  have hr := B.returns
  have hts := atoms_spec (ws := wsX4_open) B.pre
  have hown : s.vm.findClass RX4 = some m.cls := findClass_of_methodNamed B.named
  have hlocks := B.notSynchronized
  subst hsz
  have hA : ∀ q, s.heap.size ≤ q → va_A (ww_X4_open cs ad raR raT xR nT zD (fun _ => 0)) s.heap.size q := fun q h => Or.inr h
  have hD : va_D (va_A (ww_X4_open cs ad raR raT xR nT zD (fun _ => 0)) s.heap.size) (ww_X4_open cs ad raR raT xR nT R T) := hD0.weaken (fun k q h _ => cA_in (ws := (ww_X4_open cs ad raR raT xR nT R T)) (ws' := (ww_X4_open cs ad raR raT xR nT zD (fun _ => 0))) rfl h)
  have hS : va_S (va_A (ww_X4_open cs ad raR raT xR nT zD (fun _ => 0)) s.heap.size) s.heap s.heap [] := va_S.rf
  have hinX4 := (show ∀ w ∈ wsX40, w ∈ wsX4_open from fun w h => List.mem_cons_of_mem _ (List.mem_append_right _ h))
  have k_code_Lib_Math_min_name_Lib_Math_min_code_2__some__int_ := hts (.code Lib.Math.min.name Lib.Math.min.code 2 (some .int)) (List.mem_of_getElem? (i := 5) rfl)
  have k_fieldLink_RX4_30__KeyLetters_Reader___bytes___I_ := hts (.fieldLink RX4 30 "KeyLetters$Reader" "bytes" "I") (List.mem_of_getElem? (i := 6) rfl)
  have k_fieldLink_RX4_34__KeyLetters_Reader___most___I_ := hts (.fieldLink RX4 34 "KeyLetters$Reader" "most" "I") (List.mem_of_getElem? (i := 7) rfl)
  have k_fieldLink_RX4_37__KeyLetters_Reader___next___I_ := hts (.fieldLink RX4 37 "KeyLetters$Reader" "next" "I") (List.mem_of_getElem? (i := 8) rfl)
  have k_fieldLink_RX4_40__KeyLetters_Reader___faultKind___I_ := hts (.fieldLink RX4 40 "KeyLetters$Reader" "faultKind" "I") (List.mem_of_getElem? (i := 9) rfl)
  have k_fieldLink_RX4_43__KeyLetters_Reader___faultPlace___I_ := hts (.fieldLink RX4 43 "KeyLetters$Reader" "faultPlace" "I") (List.mem_of_getElem? (i := 10) rfl)
  have k_fieldLink_RX4_9__KeyLetters_Reader___text____I_ := hts (.fieldLink RX4 9 "KeyLetters$Reader" "text" "[I") (List.mem_of_getElem? (i := 1) rfl)
  have k_initialized__java_lang_Math_ := hts (.initialized "java/lang/Math") (List.mem_of_getElem? (i := 4) rfl)
  have k_methodLink_RX4_24_Lib_Math_min_name := hts (.methodLink RX4 24 Lib.Math.min.name) (List.mem_of_getElem? (i := 2) rfl)
  have k_static_Lib_Math_min_name := hts (.static Lib.Math.min.name) (List.mem_of_getElem? (i := 3) rfl)
  have hl := lv_entry ([.ref (raR 0), .ref raT, .int a1, .int a2]) (n := 4) (Nat.le_of_ble_eq_true rfl)
  rw [show entryFrame m args 4 = entryFrame m ([.ref (raR 0), .ref raT, .int a1, .int a2] : List Value).toArray 4 from by rw [hav], lg_entry_eq]
  generalize (lg_sl ([.ref (raR 0), .ref raT, .int a1, .int a2]) ++ List.replicate (4 - (lg_sl ([.ref (raR 0), .ref raT, .int a1, .int a2])).length) Slot.unset).toArray = ls at hl ⊢
  have hl : lv_has ls 4 [(0, .ref (raR 0)), (1, .ref raT), (2, .int a1), (3, .int a2)] := hl
  unfold f_X4_open at hf
  refine lv_aload_n hx hb dX4_open_0 rfl (lv_at hl 0 rfl) ?_
  refine lv_aload_n hx hb dX4_open_1 rfl (lv_at hl 1 rfl) ?_
  obtain ⟨Rv1, eRv1, hf⟩ := bd1_e hf
  refine g_put (D := (dC, dI)) (ci := 5) (C := RX4) (T := TX4) (N := 11) hx hb hts hinX4 tyX4 tyX4_ok nmX4 hown hK hP hD hS 0 rfl rfl 0 (by decide) k_fieldLink_RX4_9__KeyLetters_Reader___text____I_ (fun _ h9 => h9) rfl (ty := .array .int) (v := .ref raT) (by decide +kernel) rfl rfl (Nat.le_of_ble_eq_true rfl) (ws' := (ww_X4_open cs ad raR raT xR nT Rv1 T)) (by rw [eRv1]; rfl) dX4_open_2 (fun H locs hP hD hS => ?_)
  refine lv_aload_n hx hb dX4_open_5 rfl (lv_at hl 0 rfl) ?_
  refine lv_iload_n hx hb dX4_open_6 rfl (lv_at hl 2 rfl) ?_
  refine lv_aload_n hx hb dX4_open_7 rfl (lv_at hl 1 rfl) ?_
  refine va_alen hx hb hK hP 1 1 rfl rfl (v := (Int32.ofNat nT)) rfl dX4_open_8 ?_
  refine va_mmin hx hb (hml.trans hl.1.symm) hown k_methodLink_RX4_24_Lib_Math_min_name k_static_Lib_Math_min_name k_initialized__java_lang_Math_ k_code_Lib_Math_min_name_Lib_Math_min_code_2__some__int_ (Nat.le_of_ble_eq_true rfl) (Nat.le_of_ble_eq_true rfl) (Nat.zero_le _) (Nat.zero_le _) dX4_open_9 ?_
  obtain ⟨Rv2, eRv2, hf⟩ := bd1_e hf
  refine g_put (D := (dC, dI)) (ci := 5) (C := RX4) (T := TX4) (N := 11) hx hb hts hinX4 tyX4 tyX4_ok nmX4 hown hK hP hD hS 0 rfl rfl 1 (by decide) k_fieldLink_RX4_30__KeyLetters_Reader___bytes___I_ (fun _ h9 => h9) rfl (ty := .int) (v := .int (kMin a1 (Int32.ofNat nT))) (by decide +kernel) rfl rfl (Nat.le_of_ble_eq_true rfl) (ws' := (ww_X4_open cs ad raR raT xR nT Rv2 T)) (by rw [eRv2]; rfl) dX4_open_12 (fun H locs hP hD hS => ?_)
  refine lv_aload_n hx hb dX4_open_15 rfl (lv_at hl 0 rfl) ?_
  refine lv_iload_n hx hb dX4_open_16 rfl (lv_at hl 3 rfl) ?_
  obtain ⟨Rv3, eRv3, hf⟩ := bd1_e hf
  refine g_put (D := (dC, dI)) (ci := 5) (C := RX4) (T := TX4) (N := 11) hx hb hts hinX4 tyX4 tyX4_ok nmX4 hown hK hP hD hS 0 rfl rfl 2 (by decide) k_fieldLink_RX4_34__KeyLetters_Reader___most___I_ (fun _ h9 => h9) rfl (ty := .int) (v := .int a2) (by decide +kernel) rfl rfl (Nat.le_of_ble_eq_true rfl) (ws' := (ww_X4_open cs ad raR raT xR nT Rv3 T)) (by rw [eRv3]; rfl) dX4_open_17 (fun H locs hP hD hS => ?_)
  refine lv_aload_n hx hb dX4_open_20 rfl (lv_at hl 0 rfl) ?_
  refine lv_iconst (v := 0) hx hb dX4_open_21 (by decide) ?_
  obtain ⟨Rv4, eRv4, hf⟩ := bd1_e hf
  refine g_put (D := (dC, dI)) (ci := 5) (C := RX4) (T := TX4) (N := 11) hx hb hts hinX4 tyX4 tyX4_ok nmX4 hown hK hP hD hS 0 rfl rfl 3 (by decide) k_fieldLink_RX4_37__KeyLetters_Reader___next___I_ (fun _ h9 => h9) rfl (ty := .int) (v := .int (0 : Int32)) (by decide +kernel) rfl rfl (Nat.le_of_ble_eq_true rfl) (ws' := (ww_X4_open cs ad raR raT xR nT Rv4 T)) (by rw [eRv4]; rfl) dX4_open_22 (fun H locs hP hD hS => ?_)
  refine lv_aload_n hx hb dX4_open_25 rfl (lv_at hl 0 rfl) ?_
  refine lv_iconst (v := 0) hx hb dX4_open_26 (by decide) ?_
  obtain ⟨Rv5, eRv5, hf⟩ := bd1_e hf
  refine g_put (D := (dC, dI)) (ci := 5) (C := RX4) (T := TX4) (N := 11) hx hb hts hinX4 tyX4 tyX4_ok nmX4 hown hK hP hD hS 0 rfl rfl 9 (by decide) k_fieldLink_RX4_40__KeyLetters_Reader___faultKind___I_ (fun _ h9 => h9) rfl (ty := .int) (v := .int (0 : Int32)) (by decide +kernel) rfl rfl (Nat.le_of_ble_eq_true rfl) (ws' := (ww_X4_open cs ad raR raT xR nT Rv5 T)) (by rw [eRv5]; rfl) dX4_open_27 (fun H locs hP hD hS => ?_)
  refine lv_aload_n hx hb dX4_open_30 rfl (lv_at hl 0 rfl) ?_
  refine lv_iconst (v := 0) hx hb dX4_open_31 (by decide) ?_
  obtain ⟨Rv6, eRv6, hf⟩ := bd1_e hf
  refine g_put (D := (dC, dI)) (ci := 5) (C := RX4) (T := TX4) (N := 11) hx hb hts hinX4 tyX4 tyX4_ok nmX4 hown hK hP hD hS 0 rfl rfl 10 (by decide) k_fieldLink_RX4_43__KeyLetters_Reader___faultPlace___I_ (fun _ h9 => h9) rfl (ty := .int) (v := .int (0 : Int32)) (by decide +kernel) rfl rfl (Nat.le_of_ble_eq_true rfl) (ws' := (ww_X4_open cs ad raR raT xR nT Rv6 T)) (by rw [eRv6]; rfl) dX4_open_32 (fun H locs hP hD hS => ?_)
  refine lv_aload_n hx hb dX4_open_35 rfl (lv_at hl 0 rfl) ?_
  obtain ⟨Rv8, hq7, hf⟩ := bo_e hf
  have hEc := cE_sub (A1 := va_A (ww_X4_advance cs ad raR raT xR nT zD (fun _ => 0)) _) hE hS (cA_free (isC := [0, 1]) (wc := (ww_X4_advance cs ad raR raT xR nT Rv6 T)) (wz := (ww_X4_advance cs ad raR raT xR nT zD (fun _ => 0))) rfl rfl hD hS hA)
  refine g_callv (isC := [0, 1]) (isR := []) (wc := (ww_X4_advance cs ad raR raT xR nT Rv6 T)) (wz := (ww_X4_advance cs ad raR raT xR nT zD (fun _ => 0))) (w1 := (ww_X4_advance cs ad raR raT xR nT Rv8 T)) (ws' := (ww_X4_open cs ad raR raT xR nT Rv8 T)) (va_runV (As := []) (rest := []) ⟨hx, hb, hml, hown, hts⟩ (c_X4_advance l dC dI cs ad raR raT xR nT _ Rv6 T Rv8 hq7) (cwV 0 hts gX4_open_X4_advance rfl rfl rfl (by decide +kernel) ⟨Nat.le_of_ble_eq_true rfl, Nat.le_of_ble_eq_true rfl⟩) ⟨fun a U g mk q => ⟨q.1, (fun _ _ _ _ => cPe_bl (fun h => cPw_bl h)) a U g mk q.2⟩, va_recv hK hP (ci := 5) (q0 := 0) rfl rfl, fun U hU hW => ⟨rfl, ⟨hEc U hU hW, ⟨by rw [hU], by rw [hU]; exact (hP.sub (ws' := (ww_X4_advance cs ad raR raT xR nT Rv6 T)) [0, 1] rfl), va_K.moved hW.alike hK, (hD.sub (ws' := (ww_X4_advance cs ad raR raT xR nT Rv6 T)) [0, 1] (by decide) rfl).weaken (fun _ _ _ _ => trivial), kN_warm hW hN⟩⟩⟩⟩ rfl rfl hl.1 rfl (lv_room (Nat.le_of_ble_eq_true rfl)) dX4_open_36 ⟨Nat.le_refl _, Nat.le_refl _⟩) hP hD hS hA rfl rfl (wr := ([] : va_W)) rfl rfl rfl (nw := 2) rfl (by decide +kernel) rfl (fun H locs hP hD hS => ?_)
  have hf := Option.some.inj hf
  subst hf
  exact c_vret hx hb hr hlocks hP hK hD hS dX4_open_39

def ww_X8_readNamed (cs : Nat → ClassId) (ad : Nat → Nat) (raN : Nat → Nat) (raR : Nat → Nat) (raA : Nat) (raT : Nat) (xR : Nat) (nA : Nat) (nT : Nat) (N : kD) (R : kD) (A : Nat → Int64) (T : Nat → Int32) : va_W := (wX8 cs ad raN N ++ (wX4 cs ad raR xR raT R ++ ([(raA, .inl (cs 2, nA, .inr (.inl A)))] ++ ([(raT, .inl (cs 1, nT, .inl T))]))))
abbrev rm_X8_readNamed : Room := { frames := 6, cells := 0, slots := 0, locals := 166 }
set_option maxHeartbeats 4000000 in
set_option maxRecDepth 100000 in
theorem c_X8_readNamed (l : Launch) (dC : Nat → ClassId) (dI : Nat → Nat → Nat) (cs : Nat → ClassId) (ad : Nat → Nat) (raN : Nat → Nat) (raR : Nat → Nat) (raA : Nat) (raT : Nat) (xR : Nat) (nA : Nat) (nT : Nat) (sz : Nat) (N : kD) (R : kD) (A : Nat → Int64) (T : Nat → Int32) (a1 : Int32) (a3 : Int32) (r : Int32 × kD × kD) (hf : f_X8_readNamed a1 a3 nA nT N R A T = some r) : Met l yX8_readNamed wsX8_readNamed rm_X8_readNamed (va_Pc [.ref (raN 0), .ref (raR 0), .ref (ad a1.toNatClampNeg), .ref raA, .int a3] (cPe ad (va_A (ww_X8_readNamed cs ad raN raR raA raT xR nA nT zD zD (fun _ => 0) (fun _ => 0)) sz) (cPw dC dI cs sz (ww_X8_readNamed cs ad raN raR raA raT xR nA nT N R A T)))) (cQi dC dI cs (va_A (ww_X8_readNamed cs ad raN raR raA raT xR nA nT zD zD (fun _ => 0) (fun _ => 0)) sz) r.1 (ww_X8_readNamed cs ad raN raR raA raT xR nA nT r.2.1 r.2.2 A T)) 0 0 (va_A (ww_X8_readNamed cs ad raN raR raA raT xR nA nT zD zD (fun _ => 0) (fun _ => 0)) sz) := by
  refine Met.ofW (cc := cX8_readNamed) (maxL := 6) (ret := (some .boolean)) (by decide) rfl ?_
  intro p e s m args below meth c s₁ B hml hv
  obtain ⟨hav, hE, hsz, hP, hK, hD0, hN⟩ := hv
  have hx := B.exec
  have hb := B.bytes
  have hr := B.returns
  have hts := atoms_spec (ws := wsX8_readNamed) B.pre
  have hown : s.vm.findClass RX8 = some m.cls := findClass_of_methodNamed B.named
  have hlocks := B.notSynchronized
  subst hsz
  have hA : ∀ q, s.heap.size ≤ q → va_A (ww_X8_readNamed cs ad raN raR raA raT xR nA nT zD zD (fun _ => 0) (fun _ => 0)) s.heap.size q := fun q h => Or.inr h
  have hD : va_D (va_A (ww_X8_readNamed cs ad raN raR raA raT xR nA nT zD zD (fun _ => 0) (fun _ => 0)) s.heap.size) (ww_X8_readNamed cs ad raN raR raA raT xR nA nT N R A T) := hD0.weaken (fun k q h _ => cA_in (ws := (ww_X8_readNamed cs ad raN raR raA raT xR nA nT N R A T)) (ws' := (ww_X8_readNamed cs ad raN raR raA raT xR nA nT zD zD (fun _ => 0) (fun _ => 0))) rfl h)
  have hS : va_S (va_A (ww_X8_readNamed cs ad raN raR raA raT xR nA nT zD zD (fun _ => 0) (fun _ => 0)) s.heap.size) s.heap s.heap [] := va_S.rf
  have k_initialized_RX4 := hts (.initialized RX4) (List.mem_of_getElem? (i := 2) rfl)
  have k_instanceMethod_yX4_advance := hts (.instanceMethod yX4_advance) (List.mem_of_getElem? (i := 23) rfl)
  have k_instanceMethod_yX4_neededOf := hts (.instanceMethod yX4_neededOf) (List.mem_of_getElem? (i := 1) rfl)
  have k_selects_RX4_yX4_advance_yX4_advance := hts (.selects RX4 yX4_advance yX4_advance) (List.mem_of_getElem? (i := 24) rfl)
  have k_selects_RX4_yX4_neededOf_yX4_neededOf := hts (.selects RX4 yX4_neededOf yX4_neededOf) (List.mem_of_getElem? (i := 3) rfl)
  have hl := lv_entry ([.ref (raN 0), .ref (raR 0), .ref (ad a1.toNatClampNeg), .ref raA, .int a3]) (n := 6) (Nat.le_of_ble_eq_true rfl)
  rw [show entryFrame m args 6 = entryFrame m ([.ref (raN 0), .ref (raR 0), .ref (ad a1.toNatClampNeg), .ref raA, .int a3] : List Value).toArray 6 from by rw [hav], lg_entry_eq]
  generalize (lg_sl ([.ref (raN 0), .ref (raR 0), .ref (ad a1.toNatClampNeg), .ref raA, .int a3]) ++ List.replicate (6 - (lg_sl ([.ref (raN 0), .ref (raR 0), .ref (ad a1.toNatClampNeg), .ref raA, .int a3])).length) Slot.unset).toArray = ls at hl ⊢
  have hl : lv_has ls 6 [(0, .ref (raN 0)), (1, .ref (raR 0)), (2, .ref (ad a1.toNatClampNeg)), (3, .ref raA), (4, .int a3)] := hl
  unfold f_X8_readNamed at hf
  refine lv_aload_n hx hb dX8_readNamed_0 rfl (lv_at hl 1 rfl) ?_
  refine lv_aload_n hx hb dX8_readNamed_1 rfl (lv_at hl 3 rfl) ?_
  refine lv_iload hx hb dX8_readNamed_2 (lv_at hl 4 rfl) ?_
  obtain ⟨v2, Rv3, hq1, hf⟩ := bo2_e hf
  have hEc := cE_sub (A1 := va_A (ww_X4_neededOf cs ad raR raA raT xR nA nT zD (fun _ => 0) (fun _ => 0)) _) hE hS (cA_free (isC := [5, 6, 7]) (wc := (ww_X4_neededOf cs ad raR raA raT xR nA nT R A T)) (wz := (ww_X4_neededOf cs ad raR raA raT xR nA nT zD (fun _ => 0) (fun _ => 0))) rfl rfl hD hS hA)
  refine g_callw (isC := [5, 6, 7]) (isR := [0, 1, 2, 3, 4]) (wc := (ww_X4_neededOf cs ad raR raA raT xR nA nT R A T)) (wz := (ww_X4_neededOf cs ad raR raA raT xR nA nT zD (fun _ => 0) (fun _ => 0))) (w1 := (ww_X4_neededOf cs ad raR raA raT xR nA nT Rv3 A T)) (ws' := (ww_X8_readNamed cs ad raN raR raA raT xR nA nT N Rv3 A T)) (v := v2) (va_runVN (As := [.ref raA, .int a3]) (rest := []) ⟨hx, hb, hml, hown, hts⟩ (c_X4_neededOf l dC dI cs ad raR raA raT xR nA nT _ R A T a3 (v2, Rv3) hq1) ⟨va_cnB 2 hts gX8_readNamed_X4_neededOf_n129 rfl rfl rfl (hN _ (List.mem_of_getElem? (i := 138) rfl)) k_initialized_RX4 (by decide +kernel) ⟨Nat.le_of_ble_eq_true rfl, Nat.le_of_ble_eq_true rfl⟩, k_instanceMethod_yX4_neededOf, k_selects_RX4_yX4_neededOf_yX4_neededOf⟩ ⟨fun a U g mk q => ⟨q.1, (fun _ _ _ _ => cPe_bl (fun h => cPw_bl h)) a U g mk q.2⟩, va_recv hK hP (ci := 5) (q0 := 5) rfl rfl, fun U hU hW => ⟨rfl, ⟨hEc U hU hW, ⟨by rw [hU], by rw [hU]; exact (hP.sub (ws' := (ww_X4_neededOf cs ad raR raA raT xR nA nT R A T)) [5, 6, 7] rfl), va_K.moved hW.alike hK, (hD.sub (ws' := (ww_X4_neededOf cs ad raR raA raT xR nA nT R A T)) [5, 6, 7] (by decide) rfl).weaken (fun _ _ _ _ => trivial), kN_warm hW hN⟩⟩⟩⟩ rfl rfl hl.1 rfl (lv_room (Nat.le_of_ble_eq_true rfl)) dX8_readNamed_4 ⟨Nat.le_refl _, Nat.le_refl _⟩) hP hD hS hA rfl rfl (wr := ((wX8 cs ad raN N))) rfl rfl rfl (nw := 8) rfl (by decide +kernel) rfl (fun H locs hP hD hS => ?_)
  refine lv_istore (nL := 6) (lv' := [(5, .int v2), (0, .ref (raN 0)), (1, .ref (raR 0)), (2, .ref (ad a1.toNatClampNeg)), (3, .ref raA), (4, .int a3)]) hx hb dX8_readNamed_7 hl (by decide) rfl (fun ls hl => ?_)
  refine lv_iload hx hb dX8_readNamed_9 (lv_at hl 0 rfl) ?_
  refine lv_iconst (v := -1) hx hb dX8_readNamed_11 (by decide) ?_
  refine lv_icmp_ne (tgt := 17) hx hb dX8_readNamed_12 (by decide) (fun hb10 => ?_) (fun hb10 => ?_)
  · have hf := (if_neg hb10).symm.trans hf
    refine lv_aload_n hx hb dX8_readNamed_17 rfl (lv_at hl 2 rfl) ?_
    obtain ⟨Rv5, hq4, hf⟩ := bo_e hf
    have hEc := cE_sub (A1 := va_A (ww_X4_advance cs ad raR raT xR nT zD (fun _ => 0)) _) hE hS (cA_free (isC := [5, 7]) (wc := (ww_X4_advance cs ad raR raT xR nT Rv3 T)) (wz := (ww_X4_advance cs ad raR raT xR nT zD (fun _ => 0))) rfl rfl hD hS hA)
    refine g_callv (isC := [5, 7]) (isR := [0, 1, 2, 3, 4, 6]) (wc := (ww_X4_advance cs ad raR raT xR nT Rv3 T)) (wz := (ww_X4_advance cs ad raR raT xR nT zD (fun _ => 0))) (w1 := (ww_X4_advance cs ad raR raT xR nT Rv5 T)) (ws' := (ww_X8_readNamed cs ad raN raR raA raT xR nA nT N Rv5 A T)) (va_runVN (As := []) (rest := []) ⟨hx, hb, hml, hown, hts⟩ (c_X4_advance l dC dI cs ad raR raT xR nT _ Rv3 T Rv5 hq4) ⟨va_cnB 0 hts gX8_readNamed_X4_advance_n58 rfl rfl rfl (hN _ (List.mem_of_getElem? (i := 136) rfl)) k_initialized_RX4 (by decide +kernel) ⟨Nat.le_of_ble_eq_true rfl, Nat.le_of_ble_eq_true rfl⟩, k_instanceMethod_yX4_advance, k_selects_RX4_yX4_advance_yX4_advance⟩ ⟨fun a U g mk q => ⟨q.1, (fun _ _ _ _ => cPe_bl (fun h => cPw_bl h)) a U g mk q.2⟩, va_recv hK hP (ci := 5) (q0 := 5) rfl rfl, fun U hU hW => ⟨rfl, ⟨hEc U hU hW, ⟨by rw [hU], by rw [hU]; exact (hP.sub (ws' := (ww_X4_advance cs ad raR raT xR nT Rv3 T)) [5, 7] rfl), va_K.moved hW.alike hK, (hD.sub (ws' := (ww_X4_advance cs ad raR raT xR nT Rv3 T)) [5, 7] (by decide) rfl).weaken (fun _ _ _ _ => trivial), kN_warm hW hN⟩⟩⟩⟩ rfl rfl hl.1 rfl (lv_room (Nat.le_of_ble_eq_true rfl)) dX8_readNamed_18 ⟨Nat.le_refl _, Nat.le_refl _⟩) hP hD hS hA rfl rfl (wr := ((wX8 cs ad raN N) ++ (([(raA, .inl (cs 2, nA, .inr (.inl A)))])))) rfl rfl rfl (nw := 8) rfl (by decide +kernel) rfl (fun H locs hP hD hS => ?_)
    refine lv_aload_n hx hb dX8_readNamed_21 rfl (lv_at hl 1 rfl) ?_
    refine lv_aload_n hx hb dX8_readNamed_22 rfl (lv_at hl 3 rfl) ?_
    refine lv_iconst (v := 0) hx hb dX8_readNamed_23 (by decide) ?_
    refine lv_iload hx hb dX8_readNamed_24 (lv_at hl 0 rfl) ?_
    obtain ⟨v7, Nv8, hq6, hf⟩ := bo2_e hf
    have hEc := cE_sub (A1 := va_A (ww_X8_keepWord cs ad raN zD) _) hE hS (cA_free (isC := [0, 1, 2, 3, 4]) (wc := (ww_X8_keepWord cs ad raN N)) (wz := (ww_X8_keepWord cs ad raN zD)) rfl rfl hD hS hA)
    refine g_callw (isC := [0, 1, 2, 3, 4]) (isR := [5, 6, 7]) (wc := (ww_X8_keepWord cs ad raN N)) (wz := (ww_X8_keepWord cs ad raN zD)) (w1 := (ww_X8_keepWord cs ad raN Nv8)) (ws' := (ww_X8_readNamed cs ad raN raR raA raT xR nA nT Nv8 Rv5 A T)) (v := v7) (va_runV (As := [.ref (ad a1.toNatClampNeg), .int (0 : Int32), .int v2]) (rest := []) ⟨hx, hb, hml, hown, hts⟩ (c_X8_keepWord l dC dI cs ad raN _ N a1 (0 : Int32) v2 (v7, Nv8) hq6) (cwV 3 hts gX8_readNamed_X8_keepWord rfl rfl rfl (by decide +kernel) ⟨Nat.le_of_ble_eq_true rfl, Nat.le_of_ble_eq_true rfl⟩) ⟨fun a U g mk q => ⟨q.1, (fun _ _ _ _ => cPe_bl (fun h => cPw_bl h)) a U g mk q.2⟩, va_recv hK hP (ci := 9) (q0 := 0) rfl rfl, fun U hU hW => ⟨rfl, ⟨hEc U hU hW, ⟨by rw [hU], by rw [hU]; exact (hP.sub (ws' := (ww_X8_keepWord cs ad raN N)) [0, 1, 2, 3, 4] rfl), va_K.moved hW.alike hK, (hD.sub (ws' := (ww_X8_keepWord cs ad raN N)) [0, 1, 2, 3, 4] (by decide) rfl).weaken (fun _ _ _ _ => trivial), kN_warm hW hN⟩⟩⟩⟩ rfl rfl hl.1 rfl (lv_room (Nat.le_of_ble_eq_true rfl)) dX8_readNamed_26 ⟨Nat.le_refl _, Nat.le_refl _⟩) hP hD hS hA rfl rfl (wr := ((wX4 cs ad raR xR raT Rv5) ++ (([(raA, .inl (cs 2, nA, .inr (.inl A)))]) ++ (([(raT, .inl (cs 1, nT, .inl T))]))))) rfl rfl rfl (nw := 8) rfl (by decide +kernel) rfl (fun H locs hP hD hS => ?_)
    obtain ⟨hc9, hf⟩ := ck_e hf
    have hf := Option.some.inj hf
    subst hf
    exact c_zret (v := v7) hx hb hr (kt_z (Decidable.not_not.mp hc9)) hlocks hP hK hD hS dX8_readNamed_29
  · have hf := (if_pos hb10).symm.trans hf
    refine lv_iconst (v := 0) hx hb dX8_readNamed_15 (by decide) ?_
    have hf := Option.some.inj hf
    subst hf
    exact c_zret (v := (0 : Int32)) hx hb hr rfl hlocks hP hK hD hS dX8_readNamed_16

def ww_X8_readComparison (cs : Nat → ClassId) (ad : Nat → Nat) (raN : Nat → Nat) (raR : Nat → Nat) (raT : Nat) (xR : Nat) (nT : Nat) (N : kD) (R : kD) (T : Nat → Int32) : va_W := (wX8 cs ad raN N ++ (wX4 cs ad raR xR raT R ++ ([(raT, .inl (cs 1, nT, .inl T))])))
abbrev rm_X8_readComparison : Room := { frames := 6, cells := 0, slots := 0, locals := 166 }
set_option maxHeartbeats 4000000 in
set_option maxRecDepth 100000 in
theorem c_X8_readComparison (l : Launch) (dC : Nat → ClassId) (dI : Nat → Nat → Nat) (cs : Nat → ClassId) (ad : Nat → Nat) (raN : Nat → Nat) (raR : Nat → Nat) (raT : Nat) (xR : Nat) (nT : Nat) (sz : Nat) (N : kD) (R : kD) (T : Nat → Int32) (a1 : Int32) (r : Int32 × kD × kD) (hf : f_X8_readComparison a1 nT N R T = some r) : Met l yX8_readComparison wsX8_readComparison rm_X8_readComparison (va_Pc [.ref (raN 0), .ref (raR 0), .ref (ad a1.toNatClampNeg)] (cPe ad (va_A (ww_X8_readComparison cs ad raN raR raT xR nT zD zD (fun _ => 0)) sz) (cPw dC dI cs sz (ww_X8_readComparison cs ad raN raR raT xR nT N R T)))) (cQi dC dI cs (va_A (ww_X8_readComparison cs ad raN raR raT xR nT zD zD (fun _ => 0)) sz) r.1 (ww_X8_readComparison cs ad raN raR raT xR nT r.2.1 r.2.2 T)) 0 0 (va_A (ww_X8_readComparison cs ad raN raR raT xR nT zD zD (fun _ => 0)) sz) := by
  refine Met.ofW (cc := cX8_readComparison) (maxL := 5) (ret := (some .boolean)) (by decide) rfl ?_
  intro p e s m args below meth c s₁ B hml hv
  obtain ⟨hav, hE, hsz, hP, hK, hD0, hN⟩ := hv
  have hx := B.exec
  have hb := B.bytes
  have hr := B.returns
  have hts := atoms_spec (ws := wsX8_readComparison) B.pre
  have hown : s.vm.findClass RX8 = some m.cls := findClass_of_methodNamed B.named
  have hlocks := B.notSynchronized
  subst hsz
  have hA : ∀ q, s.heap.size ≤ q → va_A (ww_X8_readComparison cs ad raN raR raT xR nT zD zD (fun _ => 0)) s.heap.size q := fun q h => Or.inr h
  have hD : va_D (va_A (ww_X8_readComparison cs ad raN raR raT xR nT zD zD (fun _ => 0)) s.heap.size) (ww_X8_readComparison cs ad raN raR raT xR nT N R T) := hD0.weaken (fun k q h _ => cA_in (ws := (ww_X8_readComparison cs ad raN raR raT xR nT N R T)) (ws' := (ww_X8_readComparison cs ad raN raR raT xR nT zD zD (fun _ => 0))) rfl h)
  have hS : va_S (va_A (ww_X8_readComparison cs ad raN raR raT xR nT zD zD (fun _ => 0)) s.heap.size) s.heap s.heap [] := va_S.rf
  have hinX4 := (show ∀ w ∈ wsX40, w ∈ wsX8_readComparison from fun w h => List.mem_cons_of_mem _ (List.mem_append_left _ (List.mem_append_right _ h)))
  have k_initialized_RX4 := hts (.initialized RX4) (List.mem_of_getElem? (i := 2) rfl)
  have k_instanceMethod_yX4_advance := hts (.instanceMethod yX4_advance) (List.mem_of_getElem? (i := 13) rfl)
  have k_instanceMethod_yX4_needsNumber := hts (.instanceMethod yX4_needsNumber) (List.mem_of_getElem? (i := 88) rfl)
  have k_instanceMethod_yX4_refuse := hts (.instanceMethod yX4_refuse) (List.mem_of_getElem? (i := 7) rfl)
  have k_instanceMethod_yX4_seesSign := hts (.instanceMethod yX4_seesSign) (List.mem_of_getElem? (i := 1) rfl)
  have k_selects_RX4_yX4_advance_yX4_advance := hts (.selects RX4 yX4_advance yX4_advance) (List.mem_of_getElem? (i := 14) rfl)
  have k_selects_RX4_yX4_needsNumber_yX4_needsNumber := hts (.selects RX4 yX4_needsNumber yX4_needsNumber) (List.mem_of_getElem? (i := 89) rfl)
  have k_selects_RX4_yX4_refuse_yX4_refuse := hts (.selects RX4 yX4_refuse yX4_refuse) (List.mem_of_getElem? (i := 8) rfl)
  have k_selects_RX4_yX4_seesSign_yX4_seesSign := hts (.selects RX4 yX4_seesSign yX4_seesSign) (List.mem_of_getElem? (i := 3) rfl)
  have hl := lv_entry ([.ref (raN 0), .ref (raR 0), .ref (ad a1.toNatClampNeg)]) (n := 5) (Nat.le_of_ble_eq_true rfl)
  rw [show entryFrame m args 5 = entryFrame m ([.ref (raN 0), .ref (raR 0), .ref (ad a1.toNatClampNeg)] : List Value).toArray 5 from by rw [hav], lg_entry_eq]
  generalize (lg_sl ([.ref (raN 0), .ref (raR 0), .ref (ad a1.toNatClampNeg)]) ++ List.replicate (5 - (lg_sl ([.ref (raN 0), .ref (raR 0), .ref (ad a1.toNatClampNeg)])).length) Slot.unset).toArray = ls at hl ⊢
  have hl : lv_has ls 5 [(0, .ref (raN 0)), (1, .ref (raR 0)), (2, .ref (ad a1.toNatClampNeg))] := hl
  unfold f_X8_readComparison at hf
  have h_33 : ∀ (x2_33 : Int32) (N_33 : kD) (R_33 : kD) (ls : Array Slot) (H : Heap) (locs : List Loc), lv_has ls 5 [(0, .ref (raN 0)), (1, .ref (raR 0)), (2, .ref (ad x2_33.toNatClampNeg))] → va_P (dC, dI) vwCl (ww_X8_readComparison cs ad raN raR raT xR nT N_33 R_33 T) H → va_D (va_A (ww_X8_readComparison cs ad raN raR raT xR nT zD zD (fun _ => 0)) s.heap.size) (ww_X8_readComparison cs ad raN raR raT xR nT N_33 R_33 T) → va_S (va_A (ww_X8_readComparison cs ad raN raR raT xR nT zD zD (fun _ => 0)) s.heap.size) s.heap H locs → g_X8_readComparison_33 nT T x2_33 N_33 R_33 = some r → W p l e (headSpec wsX8_readComparison rm_X8_readComparison).room s m args below meth c H locs 0 0 (MQ below (cQi dC dI cs (va_A (ww_X8_readComparison cs ad raN raR raT xR nT zD zD (fun _ => 0)) s.heap.size) r.1 (ww_X8_readComparison cs ad raN raR raT xR nT r.2.1 r.2.2 T)) args s 0 0 (va_A (ww_X8_readComparison cs ad raN raR raT xR nT zD zD (fun _ => 0)) s.heap.size)) (F0 m 33 ls []) := by
    intro x2_33 N_33 R_33 ls H locs hl hP hD hS hf
    unfold g_X8_readComparison_33 at hf
    refine lv_aload_n hx hb dX8_readComparison_33 rfl (lv_at hl 1 rfl) ?_
    refine va_getN (D := (dC, dI)) (ci := 5) (C := RX4) (T := TX4) (N := 11) hx hb hts hinX4 hown hK hP 5 rfl rfl 8 (by decide) (v := .int (R_33.1 0 8)) (va_Nw.use rfl (hN _ (List.mem_of_getElem? (i := 4) rfl))) (fun _ h9 => h9) rfl dX8_readComparison_34 ?_
    obtain ⟨v1, ev1, hf⟩ := bd1_e hf
    refine kt_i ev1 ?_
    refine lv_istore_n (nL := 5) (lv' := [(3, .int v1), (0, .ref (raN 0)), (1, .ref (raR 0)), (2, .ref (ad x2_33.toNatClampNeg))]) hx hb dX8_readComparison_37 rfl hl (by decide) rfl (fun ls hl => ?_)
    refine lv_aload_n hx hb dX8_readComparison_38 rfl (lv_at hl 2 rfl) ?_
    obtain ⟨Rv3, hq2, hf⟩ := bo_e hf
    have hEc := cE_sub (A1 := va_A (ww_X4_advance cs ad raR raT xR nT zD (fun _ => 0)) _) hE hS (cA_free (isC := [5, 6]) (wc := (ww_X4_advance cs ad raR raT xR nT R_33 T)) (wz := (ww_X4_advance cs ad raR raT xR nT zD (fun _ => 0))) rfl rfl hD hS hA)
    refine g_callv (isC := [5, 6]) (isR := [0, 1, 2, 3, 4]) (wc := (ww_X4_advance cs ad raR raT xR nT R_33 T)) (wz := (ww_X4_advance cs ad raR raT xR nT zD (fun _ => 0))) (w1 := (ww_X4_advance cs ad raR raT xR nT Rv3 T)) (ws' := (ww_X8_readComparison cs ad raN raR raT xR nT N_33 Rv3 T)) (va_runVN (As := []) (rest := []) ⟨hx, hb, hml, hown, hts⟩ (c_X4_advance l dC dI cs ad raR raT xR nT _ R_33 T Rv3 hq2) ⟨va_cnB 0 hts gX8_readComparison_X4_advance_n58 rfl rfl rfl (hN _ (List.mem_of_getElem? (i := 136) rfl)) k_initialized_RX4 (by decide +kernel) ⟨Nat.le_of_ble_eq_true rfl, Nat.le_of_ble_eq_true rfl⟩, k_instanceMethod_yX4_advance, k_selects_RX4_yX4_advance_yX4_advance⟩ ⟨fun a U g mk q => ⟨q.1, (fun _ _ _ _ => cPe_bl (fun h => cPw_bl h)) a U g mk q.2⟩, va_recv hK hP (ci := 5) (q0 := 5) rfl rfl, fun U hU hW => ⟨rfl, ⟨hEc U hU hW, ⟨by rw [hU], by rw [hU]; exact (hP.sub (ws' := (ww_X4_advance cs ad raR raT xR nT R_33 T)) [5, 6] rfl), va_K.moved hW.alike hK, (hD.sub (ws' := (ww_X4_advance cs ad raR raT xR nT R_33 T)) [5, 6] (by decide) rfl).weaken (fun _ _ _ _ => trivial), kN_warm hW hN⟩⟩⟩⟩ rfl rfl hl.1 rfl (lv_room (Nat.le_of_ble_eq_true rfl)) dX8_readComparison_39 ⟨Nat.le_refl _, Nat.le_refl _⟩) hP hD hS hA rfl rfl (wr := ((wX8 cs ad raN N_33))) rfl rfl rfl (nw := 7) rfl (by decide +kernel) rfl (fun H locs hP hD hS => ?_)
    refine lv_aload_n hx hb dX8_readComparison_42 rfl (lv_at hl 2 rfl) ?_
    refine lv_iconst (v := 0) hx hb dX8_readComparison_43 (by decide) ?_
    refine lv_sipush (v := 999) hx hb dX8_readComparison_44 (by decide) ?_
    obtain ⟨v5, Rv6, hq4, hf⟩ := bo2_e hf
    refine g_callw (isC := [5, 6]) (isR := [0, 1, 2, 3, 4]) (wc := (ww_X4_needsNumber cs ad raR raT xR nT Rv3 T)) (wz := (ww_X4_needsNumber cs ad raR raT xR nT zD (fun _ => 0))) (w1 := (ww_X4_needsNumber cs ad raR raT xR nT Rv6 T)) (ws' := (ww_X8_readComparison cs ad raN raR raT xR nT N_33 Rv6 T)) (v := v5) (va_runVN (As := [.int (0 : Int32), .int (999 : Int32)]) (rest := []) ⟨hx, hb, hml, hown, hts⟩ (c_X4_needsNumber l dC dI cs ad raR raT xR nT _ Rv3 T (0 : Int32) (999 : Int32) (v5, Rv6) hq4) ⟨va_cnB 2 hts gX8_readComparison_X4_needsNumber_n136 rfl rfl rfl (hN _ (List.mem_of_getElem? (i := 139) rfl)) k_initialized_RX4 (by decide +kernel) ⟨Nat.le_of_ble_eq_true rfl, Nat.le_of_ble_eq_true rfl⟩, k_instanceMethod_yX4_needsNumber, k_selects_RX4_yX4_needsNumber_yX4_needsNumber⟩ ⟨fun a U g mk q => ⟨q.1, (fun _ _ _ _ => cPw_bl) a U g mk q.2⟩, va_recv hK hP (ci := 5) (q0 := 5) rfl rfl, fun U hU hW => ⟨rfl, ⟨by rw [hU], by rw [hU]; exact (hP.sub (ws' := (ww_X4_needsNumber cs ad raR raT xR nT Rv3 T)) [5, 6] rfl), va_K.moved hW.alike hK, (hD.sub (ws' := (ww_X4_needsNumber cs ad raR raT xR nT Rv3 T)) [5, 6] (by decide) rfl).weaken (fun _ _ _ _ => trivial), kN_warm hW hN⟩⟩⟩ rfl rfl hl.1 rfl (lv_room (Nat.le_of_ble_eq_true rfl)) dX8_readComparison_47 ⟨Nat.le_refl _, Nat.le_refl _⟩) hP hD hS hA rfl rfl (wr := ((wX8 cs ad raN N_33))) rfl rfl rfl (nw := 7) rfl (by decide +kernel) rfl (fun H locs hP hD hS => ?_)
    refine lv_if_ne (tgt := 55) hx hb dX8_readComparison_50 (by decide) (fun hb14 => ?_) (fun hb14 => ?_)
    · have hf := (if_neg hb14).symm.trans hf
      refine lv_aload_n hx hb dX8_readComparison_55 rfl (lv_at hl 2 rfl) ?_
      refine va_getN (D := (dC, dI)) (ci := 5) (C := RX4) (T := TX4) (N := 11) hx hb hts hinX4 hown hK hP 5 rfl rfl 8 (by decide) (v := .int (Rv6.1 0 8)) (va_Nw.use rfl (hN _ (List.mem_of_getElem? (i := 4) rfl))) (fun _ h9 => h9) rfl dX8_readComparison_56 ?_
      obtain ⟨v7, ev7, hf⟩ := bd1_e hf
      refine kt_i ev7 ?_
      refine lv_istore (nL := 5) (lv' := [(4, .int v7), (3, .int v1), (0, .ref (raN 0)), (1, .ref (raR 0)), (2, .ref (ad x2_33.toNatClampNeg))]) hx hb dX8_readComparison_59 hl (by decide) rfl (fun ls hl => ?_)
      refine lv_aload_n hx hb dX8_readComparison_61 rfl (lv_at hl 3 rfl) ?_
      obtain ⟨Rv9, hq8, hf⟩ := bo_e hf
      have hEc := cE_sub (A1 := va_A (ww_X4_advance cs ad raR raT xR nT zD (fun _ => 0)) _) hE hS (cA_free (isC := [5, 6]) (wc := (ww_X4_advance cs ad raR raT xR nT Rv6 T)) (wz := (ww_X4_advance cs ad raR raT xR nT zD (fun _ => 0))) rfl rfl hD hS hA)
      refine g_callv (isC := [5, 6]) (isR := [0, 1, 2, 3, 4]) (wc := (ww_X4_advance cs ad raR raT xR nT Rv6 T)) (wz := (ww_X4_advance cs ad raR raT xR nT zD (fun _ => 0))) (w1 := (ww_X4_advance cs ad raR raT xR nT Rv9 T)) (ws' := (ww_X8_readComparison cs ad raN raR raT xR nT N_33 Rv9 T)) (va_runVN (As := []) (rest := []) ⟨hx, hb, hml, hown, hts⟩ (c_X4_advance l dC dI cs ad raR raT xR nT _ Rv6 T Rv9 hq8) ⟨va_cnB 0 hts gX8_readComparison_X4_advance_n58 rfl rfl rfl (hN _ (List.mem_of_getElem? (i := 136) rfl)) k_initialized_RX4 (by decide +kernel) ⟨Nat.le_of_ble_eq_true rfl, Nat.le_of_ble_eq_true rfl⟩, k_instanceMethod_yX4_advance, k_selects_RX4_yX4_advance_yX4_advance⟩ ⟨fun a U g mk q => ⟨q.1, (fun _ _ _ _ => cPe_bl (fun h => cPw_bl h)) a U g mk q.2⟩, va_recv hK hP (ci := 5) (q0 := 5) rfl rfl, fun U hU hW => ⟨rfl, ⟨hEc U hU hW, ⟨by rw [hU], by rw [hU]; exact (hP.sub (ws' := (ww_X4_advance cs ad raR raT xR nT Rv6 T)) [5, 6] rfl), va_K.moved hW.alike hK, (hD.sub (ws' := (ww_X4_advance cs ad raR raT xR nT Rv6 T)) [5, 6] (by decide) rfl).weaken (fun _ _ _ _ => trivial), kN_warm hW hN⟩⟩⟩⟩ rfl rfl hl.1 rfl (lv_room (Nat.le_of_ble_eq_true rfl)) dX8_readComparison_62 ⟨Nat.le_refl _, Nat.le_refl _⟩) hP hD hS hA rfl rfl (wr := ((wX8 cs ad raN N_33))) rfl rfl rfl (nw := 7) rfl (by decide +kernel) rfl (fun H locs hP hD hS => ?_)
      refine lv_aload_n hx hb dX8_readComparison_65 rfl (lv_at hl 2 rfl) ?_
      refine lv_aload_n hx hb dX8_readComparison_66 rfl (lv_at hl 4 rfl) ?_
      refine lv_iload_n hx hb dX8_readComparison_67 rfl (lv_at hl 1 rfl) ?_
      refine lv_iload hx hb dX8_readComparison_68 (lv_at hl 0 rfl) ?_
      obtain ⟨v11, Nv12, hq10, hf⟩ := bo2_e hf
      have hEc := cE_sub (A1 := va_A (ww_X8_keepWord cs ad raN zD) _) hE hS (cA_free (isC := [0, 1, 2, 3, 4]) (wc := (ww_X8_keepWord cs ad raN N_33)) (wz := (ww_X8_keepWord cs ad raN zD)) rfl rfl hD hS hA)
      refine g_callw (isC := [0, 1, 2, 3, 4]) (isR := [5, 6]) (wc := (ww_X8_keepWord cs ad raN N_33)) (wz := (ww_X8_keepWord cs ad raN zD)) (w1 := (ww_X8_keepWord cs ad raN Nv12)) (ws' := (ww_X8_readComparison cs ad raN raR raT xR nT Nv12 Rv9 T)) (v := v11) (va_runV (As := [.ref (ad x2_33.toNatClampNeg), .int v1, .int v7]) (rest := []) ⟨hx, hb, hml, hown, hts⟩ (c_X8_keepWord l dC dI cs ad raN _ N_33 x2_33 v1 v7 (v11, Nv12) hq10) (cwV 3 hts gX8_readComparison_X8_keepWord rfl rfl rfl (by decide +kernel) ⟨Nat.le_of_ble_eq_true rfl, Nat.le_of_ble_eq_true rfl⟩) ⟨fun a U g mk q => ⟨q.1, (fun _ _ _ _ => cPe_bl (fun h => cPw_bl h)) a U g mk q.2⟩, va_recv hK hP (ci := 9) (q0 := 0) rfl rfl, fun U hU hW => ⟨rfl, ⟨hEc U hU hW, ⟨by rw [hU], by rw [hU]; exact (hP.sub (ws' := (ww_X8_keepWord cs ad raN N_33)) [0, 1, 2, 3, 4] rfl), va_K.moved hW.alike hK, (hD.sub (ws' := (ww_X8_keepWord cs ad raN N_33)) [0, 1, 2, 3, 4] (by decide) rfl).weaken (fun _ _ _ _ => trivial), kN_warm hW hN⟩⟩⟩⟩ rfl rfl hl.1 rfl (lv_room (Nat.le_of_ble_eq_true rfl)) dX8_readComparison_70 ⟨Nat.le_refl _, Nat.le_refl _⟩) hP hD hS hA rfl rfl (wr := ((wX4 cs ad raR xR raT Rv9) ++ (([(raT, .inl (cs 1, nT, .inl T))])))) rfl rfl rfl (nw := 7) rfl (by decide +kernel) rfl (fun H locs hP hD hS => ?_)
      obtain ⟨hc13, hf⟩ := ck_e hf
      have hf := Option.some.inj hf
      subst hf
      exact c_zret (v := v11) hx hb hr (kt_z (Decidable.not_not.mp hc13)) hlocks hP hK hD hS dX8_readComparison_73
    · have hf := (if_pos hb14).symm.trans hf
      refine lv_iconst (v := 0) hx hb dX8_readComparison_53 (by decide) ?_
      have hf := Option.some.inj hf
      subst hf
      exact c_zret (v := (0 : Int32)) hx hb hr rfl hlocks hP hK hD hS dX8_readComparison_54
  refine lv_aload_n hx hb dX8_readComparison_0 rfl (lv_at hl 1 rfl) ?_
  refine lv_bipush (v := 60) hx hb dX8_readComparison_1 (by decide) ?_
  refine ko_call (v := some (.int (f_X4_seesSign (60 : Int32) nT R T))) (va_runVN (As := [.int (60 : Int32)]) (rest := []) ⟨hx, hb, hml, hown, hts⟩ (c_X4_seesSign l dC dI cs ad raR raT xR nT R T (60 : Int32) _ rfl) ⟨va_cnB 1 hts gX8_readComparison_X4_seesSign_n71 rfl rfl rfl (hN _ (List.mem_of_getElem? (i := 134) rfl)) k_initialized_RX4 (by decide +kernel) ⟨Nat.le_of_ble_eq_true rfl, Nat.le_of_ble_eq_true rfl⟩, k_instanceMethod_yX4_seesSign, k_selects_RX4_yX4_seesSign_yX4_seesSign⟩ ⟨fun a U g mk q => ⟨q.1, (fun _ _ _ _ => cPr_bl) a U g mk q.2⟩, va_recv hK hP (ci := 5) (q0 := 5) rfl rfl, fun U hU hW => ⟨rfl, ⟨by rw [hU]; exact (hP.sub (ws' := (ww_X4_seesSign cs ad raR raT xR nT R T)) [5, 6] rfl), va_K.moved hW.alike hK, kN_warm hW hN⟩⟩⟩ rfl rfl hl.1 rfl (lv_room (Nat.le_of_ble_eq_true rfl)) dX8_readComparison_3 ⟨Nat.le_refl _, Nat.le_refl _⟩) ?_
  refine lv_if_ne (tgt := 33) hx hb dX8_readComparison_6 (by decide) (fun hb21 => ?_) (fun hb21 => ?_)
  · have hf := (if_neg hb21).symm.trans hf
    exact h_33 a1 N R ls _ _ hl hP hD hS hf
  · have hf := (if_pos hb21).symm.trans hf
    refine lv_aload_n hx hb dX8_readComparison_9 rfl (lv_at hl 1 rfl) ?_
    refine lv_bipush (v := 61) hx hb dX8_readComparison_10 (by decide) ?_
    refine ko_call (v := some (.int (f_X4_seesSign (61 : Int32) nT R T))) (va_runVN (As := [.int (61 : Int32)]) (rest := []) ⟨hx, hb, hml, hown, hts⟩ (c_X4_seesSign l dC dI cs ad raR raT xR nT R T (61 : Int32) _ rfl) ⟨va_cnB 1 hts gX8_readComparison_X4_seesSign_n71 rfl rfl rfl (hN _ (List.mem_of_getElem? (i := 134) rfl)) k_initialized_RX4 (by decide +kernel) ⟨Nat.le_of_ble_eq_true rfl, Nat.le_of_ble_eq_true rfl⟩, k_instanceMethod_yX4_seesSign, k_selects_RX4_yX4_seesSign_yX4_seesSign⟩ ⟨fun a U g mk q => ⟨q.1, (fun _ _ _ _ => cPr_bl) a U g mk q.2⟩, va_recv hK hP (ci := 5) (q0 := 5) rfl rfl, fun U hU hW => ⟨rfl, ⟨by rw [hU]; exact (hP.sub (ws' := (ww_X4_seesSign cs ad raR raT xR nT R T)) [5, 6] rfl), va_K.moved hW.alike hK, kN_warm hW hN⟩⟩⟩ rfl rfl hl.1 rfl (lv_room (Nat.le_of_ble_eq_true rfl)) dX8_readComparison_12 ⟨Nat.le_refl _, Nat.le_refl _⟩) ?_
    refine lv_if_ne (tgt := 33) hx hb dX8_readComparison_15 (by decide) (fun hb20 => ?_) (fun hb20 => ?_)
    · have hf := (if_neg hb20).symm.trans hf
      exact h_33 a1 N R ls _ _ hl hP hD hS hf
    · have hf := (if_pos hb20).symm.trans hf
      refine lv_aload_n hx hb dX8_readComparison_18 rfl (lv_at hl 1 rfl) ?_
      refine lv_bipush (v := 62) hx hb dX8_readComparison_19 (by decide) ?_
      refine ko_call (v := some (.int (f_X4_seesSign (62 : Int32) nT R T))) (va_runVN (As := [.int (62 : Int32)]) (rest := []) ⟨hx, hb, hml, hown, hts⟩ (c_X4_seesSign l dC dI cs ad raR raT xR nT R T (62 : Int32) _ rfl) ⟨va_cnB 1 hts gX8_readComparison_X4_seesSign_n71 rfl rfl rfl (hN _ (List.mem_of_getElem? (i := 134) rfl)) k_initialized_RX4 (by decide +kernel) ⟨Nat.le_of_ble_eq_true rfl, Nat.le_of_ble_eq_true rfl⟩, k_instanceMethod_yX4_seesSign, k_selects_RX4_yX4_seesSign_yX4_seesSign⟩ ⟨fun a U g mk q => ⟨q.1, (fun _ _ _ _ => cPr_bl) a U g mk q.2⟩, va_recv hK hP (ci := 5) (q0 := 5) rfl rfl, fun U hU hW => ⟨rfl, ⟨by rw [hU]; exact (hP.sub (ws' := (ww_X4_seesSign cs ad raR raT xR nT R T)) [5, 6] rfl), va_K.moved hW.alike hK, kN_warm hW hN⟩⟩⟩ rfl rfl hl.1 rfl (lv_room (Nat.le_of_ble_eq_true rfl)) dX8_readComparison_21 ⟨Nat.le_refl _, Nat.le_refl _⟩) ?_
      refine lv_if_ne (tgt := 33) hx hb dX8_readComparison_24 (by decide) (fun hb19 => ?_) (fun hb19 => ?_)
      · have hf := (if_neg hb19).symm.trans hf
        exact h_33 a1 N R ls _ _ hl hP hD hS hf
      · have hf := (if_pos hb19).symm.trans hf
        refine lv_aload_n hx hb dX8_readComparison_27 rfl (lv_at hl 1 rfl) ?_
        refine lv_iconst (v := 1) hx hb dX8_readComparison_28 (by decide) ?_
        obtain ⟨v16, Rv17, hq15, hf⟩ := bo2_e hf
        refine g_callw (isC := [5, 6]) (isR := [0, 1, 2, 3, 4]) (wc := (ww_X4_refuse cs ad raR raT xR nT R T)) (wz := (ww_X4_refuse cs ad raR raT xR nT zD (fun _ => 0))) (w1 := (ww_X4_refuse cs ad raR raT xR nT Rv17 T)) (ws' := (ww_X8_readComparison cs ad raN raR raT xR nT N Rv17 T)) (v := v16) (va_runVN (As := [.int (1 : Int32)]) (rest := []) ⟨hx, hb, hml, hown, hts⟩ (c_X4_refuse l dC dI cs ad raR raT xR nT _ R T (1 : Int32) (v16, Rv17) hq15) ⟨va_cnB 1 hts gX8_readComparison_X4_refuse_n82 rfl rfl rfl (hN _ (List.mem_of_getElem? (i := 135) rfl)) k_initialized_RX4 (by decide +kernel) ⟨Nat.le_of_ble_eq_true rfl, Nat.le_of_ble_eq_true rfl⟩, k_instanceMethod_yX4_refuse, k_selects_RX4_yX4_refuse_yX4_refuse⟩ ⟨fun a U g mk q => ⟨q.1, (fun _ _ _ _ => cPw_bl) a U g mk q.2⟩, va_recv hK hP (ci := 5) (q0 := 5) rfl rfl, fun U hU hW => ⟨rfl, ⟨by rw [hU], by rw [hU]; exact (hP.sub (ws' := (ww_X4_refuse cs ad raR raT xR nT R T)) [5, 6] rfl), va_K.moved hW.alike hK, (hD.sub (ws' := (ww_X4_refuse cs ad raR raT xR nT R T)) [5, 6] (by decide) rfl).weaken (fun _ _ _ _ => trivial), kN_warm hW hN⟩⟩⟩ rfl rfl hl.1 rfl (lv_room (Nat.le_of_ble_eq_true rfl)) dX8_readComparison_29 ⟨Nat.le_refl _, Nat.le_refl _⟩) hP hD hS hA rfl rfl (wr := ((wX8 cs ad raN N))) rfl rfl rfl (nw := 7) rfl (by decide +kernel) rfl (fun H locs hP hD hS => ?_)
        obtain ⟨hc18, hf⟩ := ck_e hf
        have hf := Option.some.inj hf
        subst hf
        exact c_zret (v := v16) hx hb hr (kt_z (Decidable.not_not.mp hc18)) hlocks hP hK hD hS dX8_readComparison_32

def ww_X8_readOne (cs : Nat → ClassId) (ad : Nat → Nat) (raN : Nat → Nat) (raR : Nat → Nat) (raO : Nat → Nat) (raT : Nat) (xR : Nat) (nT : Nat) (N : kD) (R : kD) (O : kD) (T : Nat → Int32) : va_W := (wX8 cs ad raN N ++ (wX4 cs ad raR xR raT R ++ (wX3 cs ad raO O ++ ([(raT, .inl (cs 1, nT, .inl T))]))))
abbrev rm_X8_readOne (nn : Nat) : Room := { frames := 12 + 3 * nn, cells := 0, slots := 0, locals := 400 + 600 * nn }
def ww_X8_readAll (cs : Nat → ClassId) (ad : Nat → Nat) (raN : Nat → Nat) (raR : Nat → Nat) (raO : Nat → Nat) (raT : Nat) (xR : Nat) (nT : Nat) (N : kD) (R : kD) (O : kD) (T : Nat → Int32) : va_W := (wX8 cs ad raN N ++ (wX4 cs ad raR xR raT R ++ (wX3 cs ad raO O ++ ([(raT, .inl (cs 1, nT, .inl T))]))))
abbrev rm_X8_readAll (nn : Nat) : Room := { frames := 13 + 3 * nn, cells := 0, slots := 0, locals := 600 + 600 * nn }
set_option maxHeartbeats 4000000 in
set_option maxRecDepth 100000 in
theorem c_X8_readAll_open (l : Launch) (dC : Nat → ClassId) (dI : Nat → Nat → Nat) (cs : Nat → ClassId) (ad : Nat → Nat) (nn : Nat) (fO : Int32 → Nat → kD → kD → kD → (Nat → Int32) → Option (Int32 × kD × kD)) (hfO : ∀ (raN : Nat → Nat) (raR : Nat → Nat) (raO : Nat → Nat) (raT : Nat) (xR : Nat) (nT : Nat) (sz : Nat) (N : kD) (R : kD) (O : kD) (T : Nat → Int32) (a2 : Int32) (r : Int32 × kD × kD) (hf : fO a2 nT N R O T = some r), Met l yX8_readOne wsX8_readOne (rm_X8_readOne nn) (va_Pc [.ref (raN 0), .ref (raR 0), .ref (raO 0), .int a2] (cPe ad (va_A (ww_X8_readOne cs ad raN raR raO raT xR nT zD zD zD (fun _ => 0)) sz) (cPw dC dI cs sz (ww_X8_readOne cs ad raN raR raO raT xR nT N R O T)))) (cQi dC dI cs (va_A (ww_X8_readOne cs ad raN raR raO raT xR nT zD zD zD (fun _ => 0)) sz) r.1 (ww_X8_readOne cs ad raN raR raO raT xR nT r.2.1 r.2.2 O T)) 0 0 (va_A (ww_X8_readOne cs ad raN raR raO raT xR nT zD zD zD (fun _ => 0)) sz)) (raN : Nat → Nat) (raR : Nat → Nat) (raO : Nat → Nat) (raT : Nat) (xR : Nat) (nT : Nat) (sz : Nat) (N : kD) (R : kD) (O : kD) (T : Nat → Int32) (a2 : Int32) (r : Int32 × kD × kD) (hf : F_X8_readAll fO a2 nT N R O T = some r) : Met l yX8_readAll wsX8_readAll (rm_X8_readAll nn) (va_Pc [.ref (raN 0), .ref (raR 0), .ref (raO 0), .int a2] (cPe ad (va_A (ww_X8_readAll cs ad raN raR raO raT xR nT zD zD zD (fun _ => 0)) sz) (cPw dC dI cs sz (ww_X8_readAll cs ad raN raR raO raT xR nT N R O T)))) (cQi dC dI cs (va_A (ww_X8_readAll cs ad raN raR raO raT xR nT zD zD zD (fun _ => 0)) sz) r.1 (ww_X8_readAll cs ad raN raR raO raT xR nT r.2.1 r.2.2 O T)) 0 0 (va_A (ww_X8_readAll cs ad raN raR raO raT xR nT zD zD zD (fun _ => 0)) sz) := by
  refine Met.ofW (cc := cX8_readAll) (maxL := 5) (ret := (some .boolean)) (by decide) rfl ?_
  intro p e s m args below meth c s₁ B hml hv
  obtain ⟨hav, hE, hsz, hP, hK, hD0, hN⟩ := hv
  have hx := B.exec
  have hb := B.bytes
  have hr := B.returns
  have hts := atoms_spec (ws := wsX8_readAll) B.pre
  have hown : s.vm.findClass RX8 = some m.cls := findClass_of_methodNamed B.named
  have hlocks := B.notSynchronized
  subst hsz
  have hA : ∀ q, s.heap.size ≤ q → va_A (ww_X8_readAll cs ad raN raR raO raT xR nT zD zD zD (fun _ => 0)) s.heap.size q := fun q h => Or.inr h
  have hD : va_D (va_A (ww_X8_readAll cs ad raN raR raO raT xR nT zD zD zD (fun _ => 0)) s.heap.size) (ww_X8_readAll cs ad raN raR raO raT xR nT N R O T) := hD0.weaken (fun k q h _ => cA_in (ws := (ww_X8_readAll cs ad raN raR raO raT xR nT N R O T)) (ws' := (ww_X8_readAll cs ad raN raR raO raT xR nT zD zD zD (fun _ => 0))) rfl h)
  have hS : va_S (va_A (ww_X8_readAll cs ad raN raR raO raT xR nT zD zD zD (fun _ => 0)) s.heap.size) s.heap s.heap [] := va_S.rf
  have k_initialized_RX4 := hts (.initialized RX4) (List.mem_of_getElem? (i := 7) rfl)
  have k_instanceMethod_yX4_advance := hts (.instanceMethod yX4_advance) (List.mem_of_getElem? (i := 12) rfl)
  have k_instanceMethod_yX4_seesWord := hts (.instanceMethod yX4_seesWord) (List.mem_of_getElem? (i := 6) rfl)
  have k_selects_RX4_yX4_advance_yX4_advance := hts (.selects RX4 yX4_advance yX4_advance) (List.mem_of_getElem? (i := 13) rfl)
  have k_selects_RX4_yX4_seesWord_yX4_seesWord := hts (.selects RX4 yX4_seesWord yX4_seesWord) (List.mem_of_getElem? (i := 8) rfl)
  have kfieldLink_RX8_68__KeyLetters_Word___AND___LKeyLetters_Word__ := hts (.fieldLink RX8 68 "KeyLetters$Word" "AND" "LKeyLetters$Word;") (List.mem_of_getElem? (i := 1) rfl)
  have hl := lv_entry ([.ref (raN 0), .ref (raR 0), .ref (raO 0), .int a2]) (n := 5) (Nat.le_of_ble_eq_true rfl)
  rw [show entryFrame m args 5 = entryFrame m ([.ref (raN 0), .ref (raR 0), .ref (raO 0), .int a2] : List Value).toArray 5 from by rw [hav], lg_entry_eq]
  generalize (lg_sl ([.ref (raN 0), .ref (raR 0), .ref (raO 0), .int a2]) ++ List.replicate (5 - (lg_sl ([.ref (raN 0), .ref (raR 0), .ref (raO 0), .int a2])).length) Slot.unset).toArray = ls at hl ⊢
  have hl : lv_has ls 5 [(0, .ref (raN 0)), (1, .ref (raR 0)), (2, .ref (raO 0)), (3, .int a2)] := hl
  unfold F_X8_readAll at hf
  have h_15 := lp_ind (z := (fun _ _ _ _ => none)) (b := (g_X8_readAll_15 fO nT O T)) (fun (rc_15 : Int32 → Int32 → kD → kD → Option (Int32 × kD × kD)) => ∀ (x3_15 : Int32) (x4_15 : Int32) (N_15 : kD) (R_15 : kD) (ls : Array Slot) (H : Heap) (locs : List Loc), lv_has ls 5 [(0, .ref (raN 0)), (1, .ref (raR 0)), (2, .ref (raO 0)), (3, .int x3_15), (4, .int x4_15)] → va_P (dC, dI) vwCl (ww_X8_readAll cs ad raN raR raO raT xR nT N_15 R_15 O T) H → va_D (va_A (ww_X8_readAll cs ad raN raR raO raT xR nT zD zD zD (fun _ => 0)) s.heap.size) (ww_X8_readAll cs ad raN raR raO raT xR nT N_15 R_15 O T) → va_S (va_A (ww_X8_readAll cs ad raN raR raO raT xR nT zD zD zD (fun _ => 0)) s.heap.size) s.heap H locs → rc_15 x3_15 x4_15 N_15 R_15 = some r → W p l e (headSpec wsX8_readAll (rm_X8_readAll nn)).room s m args below meth c H locs 0 0 (MQ below (cQi dC dI cs (va_A (ww_X8_readAll cs ad raN raR raO raT xR nT zD zD zD (fun _ => 0)) s.heap.size) r.1 (ww_X8_readAll cs ad raN raR raO raT xR nT r.2.1 r.2.2 O T)) args s 0 0 (va_A (ww_X8_readAll cs ad raN raR raO raT xR nT zD zD zD (fun _ => 0)) s.heap.size)) (F0 m 15 ls [])) (by
      intro x3_15 x4_15 N_15 R_15 ls H locs hl hP hD hS hf
      cases hf) (by
      intro rc_15 ih_15 x3_15 x4_15 N_15 R_15 ls H locs hl hP hD hS hf
      unfold g_X8_readAll_15 at hf
      refine lv_iload hx hb dX8_readAll_15 (lv_at hl 4 rfl) ?_
      refine lv_bipush (v := 20) hx hb dX8_readAll_17 (by decide) ?_
      refine lv_icmp_ge (tgt := 64) hx hb dX8_readAll_19 (by decide) (fun hb15 => ?_) (fun hb15 => ?_)
      · have hf := (if_pos hb15).symm.trans hf
        refine lv_iconst (v := 1) hx hb dX8_readAll_64 (by decide) ?_
        have hf := Option.some.inj hf
        subst hf
        exact c_zret (v := (1 : Int32)) hx hb hr rfl hlocks hP hK hD hS dX8_readAll_65
      · have hf := (if_neg hb15).symm.trans hf
        refine lv_aload_n hx hb dX8_readAll_22 rfl (lv_at hl 1 rfl) ?_
        refine va_gets hx hb (show va_Z "KeyLetters$Word" "AND" "LKeyLetters$Word;" (.ref (ad 12)) _ s s.heap from (hE.1.1 12 (by decide)).1) hS hown kfieldLink_RX8_68__KeyLetters_Word___AND___LKeyLetters_Word__ (fun _ h9 => h9) dX8_readAll_23 ?_
        obtain ⟨v2, hq1, hf⟩ := bo_e hf
        have hEc := cE_subF hE hS
        refine ko_call (v := some (.int v2)) (va_runVN (As := [.ref (ad (12 : Int32).toNatClampNeg)]) (rest := []) ⟨hx, hb, hml, hown, hts⟩ (c_X4_seesWord l dC dI cs ad raR raT xR nT R_15 T (12 : Int32) v2 hq1) ⟨va_cnB 1 hts gX8_readAll_X4_seesWord_n54 rfl rfl rfl (hN _ (List.mem_of_getElem? (i := 140) rfl)) k_initialized_RX4 (by decide +kernel) ⟨(show 0 + 1 ≤ 13 + 3 * nn by omega), (show 8 + (2 + 11) + 0 ≤ 600 + 600 * nn by omega)⟩, k_instanceMethod_yX4_seesWord, k_selects_RX4_yX4_seesWord_yX4_seesWord⟩ ⟨fun a U g mk q => ⟨q.1, (fun _ _ _ _ => cPe_bl (fun h => cPr_bl h)) a U g mk q.2⟩, va_recv hK hP (ci := 5) (q0 := 5) rfl rfl, fun U hU hW => ⟨rfl, ⟨hEc U hU hW, ⟨by rw [hU]; exact (hP.sub (ws' := (ww_X4_seesWord cs ad raR raT xR nT R_15 T)) [5, 14] rfl), va_K.moved hW.alike hK, kN_warm hW hN⟩⟩⟩⟩ rfl rfl hl.1 rfl (lv_room (Nat.le_of_ble_eq_true rfl)) dX8_readAll_26 ⟨Nat.le_refl _, Nat.le_refl _⟩) ?_
        refine lv_if_eq (tgt := 64) hx hb dX8_readAll_29 (by decide) (fun hb14 => ?_) (fun hb14 => ?_)
        · have hf := (if_pos hb14).symm.trans hf
          refine lv_iconst (v := 1) hx hb dX8_readAll_64 (by decide) ?_
          have hf := Option.some.inj hf
          subst hf
          exact c_zret (v := (1 : Int32)) hx hb hr rfl hlocks hP hK hD hS dX8_readAll_65
        · have hf := (if_neg hb14).symm.trans hf
          refine lv_aload_n hx hb dX8_readAll_32 rfl (lv_at hl 1 rfl) ?_
          obtain ⟨Rv4, hq3, hf⟩ := bo_e hf
          have hEc := cE_sub (A1 := va_A (ww_X4_advance cs ad raR raT xR nT zD (fun _ => 0)) _) hE hS (cA_free (isC := [5, 14]) (wc := (ww_X4_advance cs ad raR raT xR nT R_15 T)) (wz := (ww_X4_advance cs ad raR raT xR nT zD (fun _ => 0))) rfl rfl hD hS hA)
          refine g_callv (isC := [5, 14]) (isR := [0, 1, 2, 3, 4, 6, 7, 8, 9, 10, 11, 12, 13]) (wc := (ww_X4_advance cs ad raR raT xR nT R_15 T)) (wz := (ww_X4_advance cs ad raR raT xR nT zD (fun _ => 0))) (w1 := (ww_X4_advance cs ad raR raT xR nT Rv4 T)) (ws' := (ww_X8_readAll cs ad raN raR raO raT xR nT N_15 Rv4 O T)) (va_runVN (As := []) (rest := []) ⟨hx, hb, hml, hown, hts⟩ (c_X4_advance l dC dI cs ad raR raT xR nT _ R_15 T Rv4 hq3) ⟨va_cnB 0 hts gX8_readAll_X4_advance_n58 rfl rfl rfl (hN _ (List.mem_of_getElem? (i := 136) rfl)) k_initialized_RX4 (by decide +kernel) ⟨(show 5 + 1 ≤ 13 + 3 * nn by omega), (show 8 + (2 + 11) + 145 ≤ 600 + 600 * nn by omega)⟩, k_instanceMethod_yX4_advance, k_selects_RX4_yX4_advance_yX4_advance⟩ ⟨fun a U g mk q => ⟨q.1, (fun _ _ _ _ => cPe_bl (fun h => cPw_bl h)) a U g mk q.2⟩, va_recv hK hP (ci := 5) (q0 := 5) rfl rfl, fun U hU hW => ⟨rfl, ⟨hEc U hU hW, ⟨by rw [hU], by rw [hU]; exact (hP.sub (ws' := (ww_X4_advance cs ad raR raT xR nT R_15 T)) [5, 14] rfl), va_K.moved hW.alike hK, (hD.sub (ws' := (ww_X4_advance cs ad raR raT xR nT R_15 T)) [5, 14] (by decide) rfl).weaken (fun _ _ _ _ => trivial), kN_warm hW hN⟩⟩⟩⟩ rfl rfl hl.1 rfl (lv_room (Nat.le_of_ble_eq_true rfl)) dX8_readAll_33 ⟨Nat.le_refl _, Nat.le_refl _⟩) hP hD hS hA rfl rfl (wr := ((wX8 cs ad raN N_15) ++ ((wX3 cs ad raO O)))) rfl rfl rfl (nw := 15) rfl (by decide +kernel) rfl (fun H locs hP hD hS => ?_)
          refine lv_aload_n hx hb dX8_readAll_36 rfl (lv_at hl 0 rfl) ?_
          refine lv_aload_n hx hb dX8_readAll_37 rfl (lv_at hl 1 rfl) ?_
          refine lv_aload_n hx hb dX8_readAll_38 rfl (lv_at hl 2 rfl) ?_
          refine lv_iload_n hx hb dX8_readAll_39 rfl (lv_at hl 3 rfl) ?_
          obtain ⟨v6, Nv7, Rv8, hq5, hf⟩ := bo3_e hf
          have hEc := cE_sub (A1 := va_A (ww_X8_readOne cs ad raN raR raO raT xR nT zD zD zD (fun _ => 0)) _) hE hS (cA_free (isC := [0, 1, 2, 3, 4, 5, 6, 7, 8, 9, 10, 11, 12, 13, 14]) (wc := (ww_X8_readOne cs ad raN raR raO raT xR nT N_15 Rv4 O T)) (wz := (ww_X8_readOne cs ad raN raR raO raT xR nT zD zD zD (fun _ => 0))) rfl rfl hD hS hA)
          refine g_callw (isC := [0, 1, 2, 3, 4, 5, 6, 7, 8, 9, 10, 11, 12, 13, 14]) (isR := []) (wc := (ww_X8_readOne cs ad raN raR raO raT xR nT N_15 Rv4 O T)) (wz := (ww_X8_readOne cs ad raN raR raO raT xR nT zD zD zD (fun _ => 0))) (w1 := (ww_X8_readOne cs ad raN raR raO raT xR nT Nv7 Rv8 O T)) (ws' := (ww_X8_readAll cs ad raN raR raO raT xR nT Nv7 Rv8 O T)) (v := v6) (va_runV (As := [.ref (raR 0), .ref (raO 0), .int x3_15]) (rest := []) ⟨hx, hb, hml, hown, hts⟩ (hfO raN raR raO raT xR nT _ N_15 Rv4 O T x3_15 (v6, Nv7, Rv8) hq5) (cwV 3 hts gX8_readAll_X8_readOne rfl rfl rfl (by decide +kernel) ⟨(show (12 + 3 * nn) + 1 ≤ 13 + 3 * nn by omega), (show 8 + (6 + 11) + (400 + 600 * nn) ≤ 600 + 600 * nn by omega)⟩) ⟨fun a U g mk q => ⟨q.1, (fun _ _ _ _ => cPe_bl (fun h => cPw_bl h)) a U g mk q.2⟩, va_recv hK hP (ci := 9) (q0 := 0) rfl rfl, fun U hU hW => ⟨rfl, ⟨hEc U hU hW, ⟨by rw [hU], by rw [hU]; exact (hP.sub (ws' := (ww_X8_readOne cs ad raN raR raO raT xR nT N_15 Rv4 O T)) [0, 1, 2, 3, 4, 5, 6, 7, 8, 9, 10, 11, 12, 13, 14] rfl), va_K.moved hW.alike hK, (hD.sub (ws' := (ww_X8_readOne cs ad raN raR raO raT xR nT N_15 Rv4 O T)) [0, 1, 2, 3, 4, 5, 6, 7, 8, 9, 10, 11, 12, 13, 14] (by decide) rfl).weaken (fun _ _ _ _ => trivial), kN_warm hW hN⟩⟩⟩⟩ rfl rfl hl.1 rfl (lv_room (Nat.le_of_ble_eq_true rfl)) dX8_readAll_40 ⟨Nat.le_refl _, Nat.le_refl _⟩) hP hD hS hA rfl rfl (wr := ([] : va_W)) rfl rfl rfl (nw := 15) rfl (by decide +kernel) rfl (fun H locs hP hD hS => ?_)
          refine lv_if_ne (tgt := 48) hx hb dX8_readAll_43 (by decide) (fun hb13 => ?_) (fun hb13 => ?_)
          · have hf := (if_neg hb13).symm.trans hf
            refine lv_aload_n hx hb dX8_readAll_48 rfl (lv_at hl 0 rfl) ?_
            refine va_gets hx hb (show va_Z "KeyLetters$Word" "AND" "LKeyLetters$Word;" (.ref (ad 12)) _ s s.heap from (hE.1.1 12 (by decide)).1) hS hown kfieldLink_RX8_68__KeyLetters_Word___AND___LKeyLetters_Word__ (fun _ h9 => h9) dX8_readAll_49 ?_
            refine lv_iconst (v := 0) hx hb dX8_readAll_52 (by decide) ?_
            refine lv_iconst (v := 0) hx hb dX8_readAll_53 (by decide) ?_
            obtain ⟨v10, Nv11, hq9, hf⟩ := bo2_e hf
            have hEc := cE_sub (A1 := va_A (ww_X8_keepWord cs ad raN zD) _) hE hS (cA_free (isC := [0, 1, 2, 3, 4]) (wc := (ww_X8_keepWord cs ad raN Nv7)) (wz := (ww_X8_keepWord cs ad raN zD)) rfl rfl hD hS hA)
            refine g_callw (isC := [0, 1, 2, 3, 4]) (isR := [5, 6, 7, 8, 9, 10, 11, 12, 13, 14]) (wc := (ww_X8_keepWord cs ad raN Nv7)) (wz := (ww_X8_keepWord cs ad raN zD)) (w1 := (ww_X8_keepWord cs ad raN Nv11)) (ws' := (ww_X8_readAll cs ad raN raR raO raT xR nT Nv11 Rv8 O T)) (v := v10) (va_runV (As := [.ref (ad (12 : Int32).toNatClampNeg), .int (0 : Int32), .int (0 : Int32)]) (rest := []) ⟨hx, hb, hml, hown, hts⟩ (c_X8_keepWord l dC dI cs ad raN _ Nv7 (12 : Int32) (0 : Int32) (0 : Int32) (v10, Nv11) hq9) (cwV 3 hts gX8_readAll_X8_keepWord rfl rfl rfl (by decide +kernel) ⟨(show 0 + 1 ≤ 13 + 3 * nn by omega), (show 8 + (4 + 11) + 0 ≤ 600 + 600 * nn by omega)⟩) ⟨fun a U g mk q => ⟨q.1, (fun _ _ _ _ => cPe_bl (fun h => cPw_bl h)) a U g mk q.2⟩, va_recv hK hP (ci := 9) (q0 := 0) rfl rfl, fun U hU hW => ⟨rfl, ⟨hEc U hU hW, ⟨by rw [hU], by rw [hU]; exact (hP.sub (ws' := (ww_X8_keepWord cs ad raN Nv7)) [0, 1, 2, 3, 4] rfl), va_K.moved hW.alike hK, (hD.sub (ws' := (ww_X8_keepWord cs ad raN Nv7)) [0, 1, 2, 3, 4] (by decide) rfl).weaken (fun _ _ _ _ => trivial), kN_warm hW hN⟩⟩⟩⟩ rfl rfl hl.1 rfl (lv_room (Nat.le_of_ble_eq_true rfl)) dX8_readAll_54 ⟨Nat.le_refl _, Nat.le_refl _⟩) hP hD hS hA rfl rfl (wr := ((wX4 cs ad raR xR raT Rv8) ++ ((wX3 cs ad raO O) ++ (([(raT, .inl (cs 1, nT, .inl T))]))))) rfl rfl rfl (nw := 15) rfl (by decide +kernel) rfl (fun H locs hP hD hS => ?_)
            refine lv_pop hx hb dX8_readAll_57 rfl ?_
            obtain ⟨v12, ev12, hf⟩ := bd1_e hf
            refine lv_iinc (k := 4) (x := x4_15) (v := v12) (nL := 5) (lv' := [(4, .int v12), (0, .ref (raN 0)), (1, .ref (raR 0)), (2, .ref (raO 0)), (3, .int x3_15)]) hx hb dX8_readAll_58 hl rfl (kt_inc (w := 1) (by decide) ev12) (by decide) rfl (fun ls hl => ?_)
            refine lv_goto (tgt := 15) hx hb dX8_readAll_61 (by decide) ?_
            exact ih_15 x3_15 v12 Nv11 Rv8 ls _ _ (lv_sub hl [1, 2, 3, 4, 0] rfl) hP hD hS hf
          · have hf := (if_pos hb13).symm.trans hf
            refine lv_iconst (v := 0) hx hb dX8_readAll_46 (by decide) ?_
            have hf := Option.some.inj hf
            subst hf
            exact c_zret (v := (0 : Int32)) hx hb hr rfl hlocks hP hK hD hS dX8_readAll_47) 2000
  refine lv_aload_n hx hb dX8_readAll_0 rfl (lv_at hl 0 rfl) ?_
  refine lv_aload_n hx hb dX8_readAll_1 rfl (lv_at hl 1 rfl) ?_
  refine lv_aload_n hx hb dX8_readAll_2 rfl (lv_at hl 2 rfl) ?_
  refine lv_iload_n hx hb dX8_readAll_3 rfl (lv_at hl 3 rfl) ?_
  obtain ⟨v17, Nv18, Rv19, hq16, hf⟩ := bo3_e hf
  have hEc := cE_sub (A1 := va_A (ww_X8_readOne cs ad raN raR raO raT xR nT zD zD zD (fun _ => 0)) _) hE hS (cA_free (isC := [0, 1, 2, 3, 4, 5, 6, 7, 8, 9, 10, 11, 12, 13, 14]) (wc := (ww_X8_readOne cs ad raN raR raO raT xR nT N R O T)) (wz := (ww_X8_readOne cs ad raN raR raO raT xR nT zD zD zD (fun _ => 0))) rfl rfl hD hS hA)
  refine g_callw (isC := [0, 1, 2, 3, 4, 5, 6, 7, 8, 9, 10, 11, 12, 13, 14]) (isR := []) (wc := (ww_X8_readOne cs ad raN raR raO raT xR nT N R O T)) (wz := (ww_X8_readOne cs ad raN raR raO raT xR nT zD zD zD (fun _ => 0))) (w1 := (ww_X8_readOne cs ad raN raR raO raT xR nT Nv18 Rv19 O T)) (ws' := (ww_X8_readAll cs ad raN raR raO raT xR nT Nv18 Rv19 O T)) (v := v17) (va_runV (As := [.ref (raR 0), .ref (raO 0), .int a2]) (rest := []) ⟨hx, hb, hml, hown, hts⟩ (hfO raN raR raO raT xR nT _ N R O T a2 (v17, Nv18, Rv19) hq16) (cwV 3 hts gX8_readAll_X8_readOne rfl rfl rfl (by decide +kernel) ⟨(show (12 + 3 * nn) + 1 ≤ 13 + 3 * nn by omega), (show 8 + (6 + 11) + (400 + 600 * nn) ≤ 600 + 600 * nn by omega)⟩) ⟨fun a U g mk q => ⟨q.1, (fun _ _ _ _ => cPe_bl (fun h => cPw_bl h)) a U g mk q.2⟩, va_recv hK hP (ci := 9) (q0 := 0) rfl rfl, fun U hU hW => ⟨rfl, ⟨hEc U hU hW, ⟨by rw [hU], by rw [hU]; exact (hP.sub (ws' := (ww_X8_readOne cs ad raN raR raO raT xR nT N R O T)) [0, 1, 2, 3, 4, 5, 6, 7, 8, 9, 10, 11, 12, 13, 14] rfl), va_K.moved hW.alike hK, (hD.sub (ws' := (ww_X8_readOne cs ad raN raR raO raT xR nT N R O T)) [0, 1, 2, 3, 4, 5, 6, 7, 8, 9, 10, 11, 12, 13, 14] (by decide) rfl).weaken (fun _ _ _ _ => trivial), kN_warm hW hN⟩⟩⟩⟩ rfl rfl hl.1 rfl (lv_room (Nat.le_of_ble_eq_true rfl)) dX8_readAll_4 ⟨Nat.le_refl _, Nat.le_refl _⟩) hP hD hS hA rfl rfl (wr := ([] : va_W)) rfl rfl rfl (nw := 15) rfl (by decide +kernel) rfl (fun H locs hP hD hS => ?_)
  refine lv_if_ne (tgt := 12) hx hb dX8_readAll_7 (by decide) (fun hb20 => ?_) (fun hb20 => ?_)
  · have hf := (if_neg hb20).symm.trans hf
    refine lv_iconst (v := 0) hx hb dX8_readAll_12 (by decide) ?_
    refine lv_istore (nL := 5) (lv' := [(4, .int (0 : Int32)), (0, .ref (raN 0)), (1, .ref (raR 0)), (2, .ref (raO 0)), (3, .int a2)]) hx hb dX8_readAll_13 hl (by decide) rfl (fun ls hl => ?_)
    exact h_15 a2 (0 : Int32) Nv18 Rv19 ls _ _ (lv_sub hl [1, 2, 3, 4, 0] rfl) hP hD hS hf
  · have hf := (if_pos hb20).symm.trans hf
    refine lv_iconst (v := 0) hx hb dX8_readAll_10 (by decide) ?_
    have hf := Option.some.inj hf
    subst hf
    exact c_zret (v := (0 : Int32)) hx hb hr rfl hlocks hP hK hD hS dX8_readAll_11

def ww_X8_readCond (cs : Nat → ClassId) (ad : Nat → Nat) (raN : Nat → Nat) (raR : Nat → Nat) (raO : Nat → Nat) (raT : Nat) (xR : Nat) (nT : Nat) (N : kD) (R : kD) (O : kD) (T : Nat → Int32) : va_W := (wX8 cs ad raN N ++ (wX4 cs ad raR xR raT R ++ (wX3 cs ad raO O ++ ([(raT, .inl (cs 1, nT, .inl T))]))))
abbrev rm_X8_readCond (nn : Nat) : Room := { frames := 14 + 3 * nn, cells := 0, slots := 0, locals := 800 + 600 * nn }
set_option maxHeartbeats 4000000 in
set_option maxRecDepth 100000 in
theorem c_X8_readCond_open (l : Launch) (dC : Nat → ClassId) (dI : Nat → Nat → Nat) (cs : Nat → ClassId) (ad : Nat → Nat) (nn : Nat) (fA : Int32 → Nat → kD → kD → kD → (Nat → Int32) → Option (Int32 × kD × kD)) (hfA : ∀ (raN : Nat → Nat) (raR : Nat → Nat) (raO : Nat → Nat) (raT : Nat) (xR : Nat) (nT : Nat) (sz : Nat) (N : kD) (R : kD) (O : kD) (T : Nat → Int32) (a2 : Int32) (r : Int32 × kD × kD) (hf : fA a2 nT N R O T = some r), Met l yX8_readAll wsX8_readAll (rm_X8_readAll nn) (va_Pc [.ref (raN 0), .ref (raR 0), .ref (raO 0), .int a2] (cPe ad (va_A (ww_X8_readAll cs ad raN raR raO raT xR nT zD zD zD (fun _ => 0)) sz) (cPw dC dI cs sz (ww_X8_readAll cs ad raN raR raO raT xR nT N R O T)))) (cQi dC dI cs (va_A (ww_X8_readAll cs ad raN raR raO raT xR nT zD zD zD (fun _ => 0)) sz) r.1 (ww_X8_readAll cs ad raN raR raO raT xR nT r.2.1 r.2.2 O T)) 0 0 (va_A (ww_X8_readAll cs ad raN raR raO raT xR nT zD zD zD (fun _ => 0)) sz)) (raN : Nat → Nat) (raR : Nat → Nat) (raO : Nat → Nat) (raT : Nat) (xR : Nat) (nT : Nat) (sz : Nat) (N : kD) (R : kD) (O : kD) (T : Nat → Int32) (a2 : Int32) (r : Int32 × kD × kD) (hf : F_X8_readCond fA a2 nT N R O T = some r) : Met l yX8_readCond wsX8_readCond (rm_X8_readCond nn) (va_Pc [.ref (raN 0), .ref (raR 0), .ref (raO 0), .int a2] (cPe ad (va_A (ww_X8_readCond cs ad raN raR raO raT xR nT zD zD zD (fun _ => 0)) sz) (cPw dC dI cs sz (ww_X8_readCond cs ad raN raR raO raT xR nT N R O T)))) (cQi dC dI cs (va_A (ww_X8_readCond cs ad raN raR raO raT xR nT zD zD zD (fun _ => 0)) sz) r.1 (ww_X8_readCond cs ad raN raR raO raT xR nT r.2.1 r.2.2 O T)) 0 0 (va_A (ww_X8_readCond cs ad raN raR raO raT xR nT zD zD zD (fun _ => 0)) sz) := by
  refine Met.ofW (cc := cX8_readCond) (maxL := 5) (ret := (some .boolean)) (by decide) rfl ?_
  intro p e s m args below meth c s₁ B hml hv
  obtain ⟨hav, hE, hsz, hP, hK, hD0, hN⟩ := hv
  have hx := B.exec
  have hb := B.bytes
  have hr := B.returns
  have hts := atoms_spec (ws := wsX8_readCond) B.pre
  have hown : s.vm.findClass RX8 = some m.cls := findClass_of_methodNamed B.named
  have hlocks := B.notSynchronized
  subst hsz
  have hA : ∀ q, s.heap.size ≤ q → va_A (ww_X8_readCond cs ad raN raR raO raT xR nT zD zD zD (fun _ => 0)) s.heap.size q := fun q h => Or.inr h
  have hD : va_D (va_A (ww_X8_readCond cs ad raN raR raO raT xR nT zD zD zD (fun _ => 0)) s.heap.size) (ww_X8_readCond cs ad raN raR raO raT xR nT N R O T) := hD0.weaken (fun k q h _ => cA_in (ws := (ww_X8_readCond cs ad raN raR raO raT xR nT N R O T)) (ws' := (ww_X8_readCond cs ad raN raR raO raT xR nT zD zD zD (fun _ => 0))) rfl h)
  have hS : va_S (va_A (ww_X8_readCond cs ad raN raR raO raT xR nT zD zD zD (fun _ => 0)) s.heap.size) s.heap s.heap [] := va_S.rf
  have k_fieldLink_RX8_50__KeyLetters_Word___OR___LKeyLetters_Word__ := hts (.fieldLink RX8 50 "KeyLetters$Word" "OR" "LKeyLetters$Word;") (List.mem_of_getElem? (i := 1) rfl)
  have k_initialized_RX4 := hts (.initialized RX4) (List.mem_of_getElem? (i := 7) rfl)
  have k_instanceMethod_yX4_advance := hts (.instanceMethod yX4_advance) (List.mem_of_getElem? (i := 12) rfl)
  have k_instanceMethod_yX4_seesWord := hts (.instanceMethod yX4_seesWord) (List.mem_of_getElem? (i := 6) rfl)
  have k_selects_RX4_yX4_advance_yX4_advance := hts (.selects RX4 yX4_advance yX4_advance) (List.mem_of_getElem? (i := 13) rfl)
  have k_selects_RX4_yX4_seesWord_yX4_seesWord := hts (.selects RX4 yX4_seesWord yX4_seesWord) (List.mem_of_getElem? (i := 8) rfl)
  have hl := lv_entry ([.ref (raN 0), .ref (raR 0), .ref (raO 0), .int a2]) (n := 5) (Nat.le_of_ble_eq_true rfl)
  rw [show entryFrame m args 5 = entryFrame m ([.ref (raN 0), .ref (raR 0), .ref (raO 0), .int a2] : List Value).toArray 5 from by rw [hav], lg_entry_eq]
  generalize (lg_sl ([.ref (raN 0), .ref (raR 0), .ref (raO 0), .int a2]) ++ List.replicate (5 - (lg_sl ([.ref (raN 0), .ref (raR 0), .ref (raO 0), .int a2])).length) Slot.unset).toArray = ls at hl ⊢
  have hl : lv_has ls 5 [(0, .ref (raN 0)), (1, .ref (raR 0)), (2, .ref (raO 0)), (3, .int a2)] := hl
  unfold F_X8_readCond at hf
  have h_15 := lp_ind (z := (fun _ _ _ _ => none)) (b := (g_X8_readCond_15 fA nT O T)) (fun (rc_15 : Int32 → Int32 → kD → kD → Option (Int32 × kD × kD)) => ∀ (x3_15 : Int32) (x4_15 : Int32) (N_15 : kD) (R_15 : kD) (ls : Array Slot) (H : Heap) (locs : List Loc), lv_has ls 5 [(0, .ref (raN 0)), (1, .ref (raR 0)), (2, .ref (raO 0)), (3, .int x3_15), (4, .int x4_15)] → va_P (dC, dI) vwCl (ww_X8_readCond cs ad raN raR raO raT xR nT N_15 R_15 O T) H → va_D (va_A (ww_X8_readCond cs ad raN raR raO raT xR nT zD zD zD (fun _ => 0)) s.heap.size) (ww_X8_readCond cs ad raN raR raO raT xR nT N_15 R_15 O T) → va_S (va_A (ww_X8_readCond cs ad raN raR raO raT xR nT zD zD zD (fun _ => 0)) s.heap.size) s.heap H locs → rc_15 x3_15 x4_15 N_15 R_15 = some r → W p l e (headSpec wsX8_readCond (rm_X8_readCond nn)).room s m args below meth c H locs 0 0 (MQ below (cQi dC dI cs (va_A (ww_X8_readCond cs ad raN raR raO raT xR nT zD zD zD (fun _ => 0)) s.heap.size) r.1 (ww_X8_readCond cs ad raN raR raO raT xR nT r.2.1 r.2.2 O T)) args s 0 0 (va_A (ww_X8_readCond cs ad raN raR raO raT xR nT zD zD zD (fun _ => 0)) s.heap.size)) (F0 m 15 ls [])) (by
      intro x3_15 x4_15 N_15 R_15 ls H locs hl hP hD hS hf
      cases hf) (by
      intro rc_15 ih_15 x3_15 x4_15 N_15 R_15 ls H locs hl hP hD hS hf
      unfold g_X8_readCond_15 at hf
      refine lv_iload hx hb dX8_readCond_15 (lv_at hl 4 rfl) ?_
      refine lv_bipush (v := 20) hx hb dX8_readCond_17 (by decide) ?_
      refine lv_icmp_ge (tgt := 64) hx hb dX8_readCond_19 (by decide) (fun hb15 => ?_) (fun hb15 => ?_)
      · have hf := (if_pos hb15).symm.trans hf
        refine lv_iconst (v := 1) hx hb dX8_readCond_64 (by decide) ?_
        have hf := Option.some.inj hf
        subst hf
        exact c_zret (v := (1 : Int32)) hx hb hr rfl hlocks hP hK hD hS dX8_readCond_65
      · have hf := (if_neg hb15).symm.trans hf
        refine lv_aload_n hx hb dX8_readCond_22 rfl (lv_at hl 1 rfl) ?_
        refine va_gets hx hb (show va_Z "KeyLetters$Word" "OR" "LKeyLetters$Word;" (.ref (ad 11)) _ s s.heap from (hE.1.1 11 (by decide)).1) hS hown k_fieldLink_RX8_50__KeyLetters_Word___OR___LKeyLetters_Word__ (fun _ h9 => h9) dX8_readCond_23 ?_
        obtain ⟨v2, hq1, hf⟩ := bo_e hf
        have hEc := cE_subF hE hS
        refine ko_call (v := some (.int v2)) (va_runVN (As := [.ref (ad (11 : Int32).toNatClampNeg)]) (rest := []) ⟨hx, hb, hml, hown, hts⟩ (c_X4_seesWord l dC dI cs ad raR raT xR nT R_15 T (11 : Int32) v2 hq1) ⟨va_cnB 1 hts gX8_readCond_X4_seesWord_n54 rfl rfl rfl (hN _ (List.mem_of_getElem? (i := 140) rfl)) k_initialized_RX4 (by decide +kernel) ⟨(show 0 + 1 ≤ 14 + 3 * nn by omega), (show 8 + (2 + 11) + 0 ≤ 800 + 600 * nn by omega)⟩, k_instanceMethod_yX4_seesWord, k_selects_RX4_yX4_seesWord_yX4_seesWord⟩ ⟨fun a U g mk q => ⟨q.1, (fun _ _ _ _ => cPe_bl (fun h => cPr_bl h)) a U g mk q.2⟩, va_recv hK hP (ci := 5) (q0 := 5) rfl rfl, fun U hU hW => ⟨rfl, ⟨hEc U hU hW, ⟨by rw [hU]; exact (hP.sub (ws' := (ww_X4_seesWord cs ad raR raT xR nT R_15 T)) [5, 14] rfl), va_K.moved hW.alike hK, kN_warm hW hN⟩⟩⟩⟩ rfl rfl hl.1 rfl (lv_room (Nat.le_of_ble_eq_true rfl)) dX8_readCond_26 ⟨Nat.le_refl _, Nat.le_refl _⟩) ?_
        refine lv_if_eq (tgt := 64) hx hb dX8_readCond_29 (by decide) (fun hb14 => ?_) (fun hb14 => ?_)
        · have hf := (if_pos hb14).symm.trans hf
          refine lv_iconst (v := 1) hx hb dX8_readCond_64 (by decide) ?_
          have hf := Option.some.inj hf
          subst hf
          exact c_zret (v := (1 : Int32)) hx hb hr rfl hlocks hP hK hD hS dX8_readCond_65
        · have hf := (if_neg hb14).symm.trans hf
          refine lv_aload_n hx hb dX8_readCond_32 rfl (lv_at hl 1 rfl) ?_
          obtain ⟨Rv4, hq3, hf⟩ := bo_e hf
          have hEc := cE_sub (A1 := va_A (ww_X4_advance cs ad raR raT xR nT zD (fun _ => 0)) _) hE hS (cA_free (isC := [5, 14]) (wc := (ww_X4_advance cs ad raR raT xR nT R_15 T)) (wz := (ww_X4_advance cs ad raR raT xR nT zD (fun _ => 0))) rfl rfl hD hS hA)
          refine g_callv (isC := [5, 14]) (isR := [0, 1, 2, 3, 4, 6, 7, 8, 9, 10, 11, 12, 13]) (wc := (ww_X4_advance cs ad raR raT xR nT R_15 T)) (wz := (ww_X4_advance cs ad raR raT xR nT zD (fun _ => 0))) (w1 := (ww_X4_advance cs ad raR raT xR nT Rv4 T)) (ws' := (ww_X8_readCond cs ad raN raR raO raT xR nT N_15 Rv4 O T)) (va_runVN (As := []) (rest := []) ⟨hx, hb, hml, hown, hts⟩ (c_X4_advance l dC dI cs ad raR raT xR nT _ R_15 T Rv4 hq3) ⟨va_cnB 0 hts gX8_readCond_X4_advance_n58 rfl rfl rfl (hN _ (List.mem_of_getElem? (i := 136) rfl)) k_initialized_RX4 (by decide +kernel) ⟨(show 5 + 1 ≤ 14 + 3 * nn by omega), (show 8 + (2 + 11) + 145 ≤ 800 + 600 * nn by omega)⟩, k_instanceMethod_yX4_advance, k_selects_RX4_yX4_advance_yX4_advance⟩ ⟨fun a U g mk q => ⟨q.1, (fun _ _ _ _ => cPe_bl (fun h => cPw_bl h)) a U g mk q.2⟩, va_recv hK hP (ci := 5) (q0 := 5) rfl rfl, fun U hU hW => ⟨rfl, ⟨hEc U hU hW, ⟨by rw [hU], by rw [hU]; exact (hP.sub (ws' := (ww_X4_advance cs ad raR raT xR nT R_15 T)) [5, 14] rfl), va_K.moved hW.alike hK, (hD.sub (ws' := (ww_X4_advance cs ad raR raT xR nT R_15 T)) [5, 14] (by decide) rfl).weaken (fun _ _ _ _ => trivial), kN_warm hW hN⟩⟩⟩⟩ rfl rfl hl.1 rfl (lv_room (Nat.le_of_ble_eq_true rfl)) dX8_readCond_33 ⟨Nat.le_refl _, Nat.le_refl _⟩) hP hD hS hA rfl rfl (wr := ((wX8 cs ad raN N_15) ++ ((wX3 cs ad raO O)))) rfl rfl rfl (nw := 15) rfl (by decide +kernel) rfl (fun H locs hP hD hS => ?_)
          refine lv_aload_n hx hb dX8_readCond_36 rfl (lv_at hl 0 rfl) ?_
          refine lv_aload_n hx hb dX8_readCond_37 rfl (lv_at hl 1 rfl) ?_
          refine lv_aload_n hx hb dX8_readCond_38 rfl (lv_at hl 2 rfl) ?_
          refine lv_iload_n hx hb dX8_readCond_39 rfl (lv_at hl 3 rfl) ?_
          obtain ⟨v6, Nv7, Rv8, hq5, hf⟩ := bo3_e hf
          have hEc := cE_sub (A1 := va_A (ww_X8_readAll cs ad raN raR raO raT xR nT zD zD zD (fun _ => 0)) _) hE hS (cA_free (isC := [0, 1, 2, 3, 4, 5, 6, 7, 8, 9, 10, 11, 12, 13, 14]) (wc := (ww_X8_readAll cs ad raN raR raO raT xR nT N_15 Rv4 O T)) (wz := (ww_X8_readAll cs ad raN raR raO raT xR nT zD zD zD (fun _ => 0))) rfl rfl hD hS hA)
          refine g_callw (isC := [0, 1, 2, 3, 4, 5, 6, 7, 8, 9, 10, 11, 12, 13, 14]) (isR := []) (wc := (ww_X8_readAll cs ad raN raR raO raT xR nT N_15 Rv4 O T)) (wz := (ww_X8_readAll cs ad raN raR raO raT xR nT zD zD zD (fun _ => 0))) (w1 := (ww_X8_readAll cs ad raN raR raO raT xR nT Nv7 Rv8 O T)) (ws' := (ww_X8_readCond cs ad raN raR raO raT xR nT Nv7 Rv8 O T)) (v := v6) (va_runV (As := [.ref (raR 0), .ref (raO 0), .int x3_15]) (rest := []) ⟨hx, hb, hml, hown, hts⟩ (hfA raN raR raO raT xR nT _ N_15 Rv4 O T x3_15 (v6, Nv7, Rv8) hq5) (cwV 3 hts gX8_readCond_X8_readAll rfl rfl rfl (by decide +kernel) ⟨(show (13 + 3 * nn) + 1 ≤ 14 + 3 * nn by omega), (show 8 + (5 + 11) + (600 + 600 * nn) ≤ 800 + 600 * nn by omega)⟩) ⟨fun a U g mk q => ⟨q.1, (fun _ _ _ _ => cPe_bl (fun h => cPw_bl h)) a U g mk q.2⟩, va_recv hK hP (ci := 9) (q0 := 0) rfl rfl, fun U hU hW => ⟨rfl, ⟨hEc U hU hW, ⟨by rw [hU], by rw [hU]; exact (hP.sub (ws' := (ww_X8_readAll cs ad raN raR raO raT xR nT N_15 Rv4 O T)) [0, 1, 2, 3, 4, 5, 6, 7, 8, 9, 10, 11, 12, 13, 14] rfl), va_K.moved hW.alike hK, (hD.sub (ws' := (ww_X8_readAll cs ad raN raR raO raT xR nT N_15 Rv4 O T)) [0, 1, 2, 3, 4, 5, 6, 7, 8, 9, 10, 11, 12, 13, 14] (by decide) rfl).weaken (fun _ _ _ _ => trivial), kN_warm hW hN⟩⟩⟩⟩ rfl rfl hl.1 rfl (lv_room (Nat.le_of_ble_eq_true rfl)) dX8_readCond_40 ⟨Nat.le_refl _, Nat.le_refl _⟩) hP hD hS hA rfl rfl (wr := ([] : va_W)) rfl rfl rfl (nw := 15) rfl (by decide +kernel) rfl (fun H locs hP hD hS => ?_)
          refine lv_if_ne (tgt := 48) hx hb dX8_readCond_43 (by decide) (fun hb13 => ?_) (fun hb13 => ?_)
          · have hf := (if_neg hb13).symm.trans hf
            refine lv_aload_n hx hb dX8_readCond_48 rfl (lv_at hl 0 rfl) ?_
            refine va_gets hx hb (show va_Z "KeyLetters$Word" "OR" "LKeyLetters$Word;" (.ref (ad 11)) _ s s.heap from (hE.1.1 11 (by decide)).1) hS hown k_fieldLink_RX8_50__KeyLetters_Word___OR___LKeyLetters_Word__ (fun _ h9 => h9) dX8_readCond_49 ?_
            refine lv_iconst (v := 0) hx hb dX8_readCond_52 (by decide) ?_
            refine lv_iconst (v := 0) hx hb dX8_readCond_53 (by decide) ?_
            obtain ⟨v10, Nv11, hq9, hf⟩ := bo2_e hf
            have hEc := cE_sub (A1 := va_A (ww_X8_keepWord cs ad raN zD) _) hE hS (cA_free (isC := [0, 1, 2, 3, 4]) (wc := (ww_X8_keepWord cs ad raN Nv7)) (wz := (ww_X8_keepWord cs ad raN zD)) rfl rfl hD hS hA)
            refine g_callw (isC := [0, 1, 2, 3, 4]) (isR := [5, 6, 7, 8, 9, 10, 11, 12, 13, 14]) (wc := (ww_X8_keepWord cs ad raN Nv7)) (wz := (ww_X8_keepWord cs ad raN zD)) (w1 := (ww_X8_keepWord cs ad raN Nv11)) (ws' := (ww_X8_readCond cs ad raN raR raO raT xR nT Nv11 Rv8 O T)) (v := v10) (va_runV (As := [.ref (ad (11 : Int32).toNatClampNeg), .int (0 : Int32), .int (0 : Int32)]) (rest := []) ⟨hx, hb, hml, hown, hts⟩ (c_X8_keepWord l dC dI cs ad raN _ Nv7 (11 : Int32) (0 : Int32) (0 : Int32) (v10, Nv11) hq9) (cwV 3 hts gX8_readCond_X8_keepWord rfl rfl rfl (by decide +kernel) ⟨(show 0 + 1 ≤ 14 + 3 * nn by omega), (show 8 + (4 + 11) + 0 ≤ 800 + 600 * nn by omega)⟩) ⟨fun a U g mk q => ⟨q.1, (fun _ _ _ _ => cPe_bl (fun h => cPw_bl h)) a U g mk q.2⟩, va_recv hK hP (ci := 9) (q0 := 0) rfl rfl, fun U hU hW => ⟨rfl, ⟨hEc U hU hW, ⟨by rw [hU], by rw [hU]; exact (hP.sub (ws' := (ww_X8_keepWord cs ad raN Nv7)) [0, 1, 2, 3, 4] rfl), va_K.moved hW.alike hK, (hD.sub (ws' := (ww_X8_keepWord cs ad raN Nv7)) [0, 1, 2, 3, 4] (by decide) rfl).weaken (fun _ _ _ _ => trivial), kN_warm hW hN⟩⟩⟩⟩ rfl rfl hl.1 rfl (lv_room (Nat.le_of_ble_eq_true rfl)) dX8_readCond_54 ⟨Nat.le_refl _, Nat.le_refl _⟩) hP hD hS hA rfl rfl (wr := ((wX4 cs ad raR xR raT Rv8) ++ ((wX3 cs ad raO O) ++ (([(raT, .inl (cs 1, nT, .inl T))]))))) rfl rfl rfl (nw := 15) rfl (by decide +kernel) rfl (fun H locs hP hD hS => ?_)
            refine lv_pop hx hb dX8_readCond_57 rfl ?_
            obtain ⟨v12, ev12, hf⟩ := bd1_e hf
            refine lv_iinc (k := 4) (x := x4_15) (v := v12) (nL := 5) (lv' := [(4, .int v12), (0, .ref (raN 0)), (1, .ref (raR 0)), (2, .ref (raO 0)), (3, .int x3_15)]) hx hb dX8_readCond_58 hl rfl (kt_inc (w := 1) (by decide) ev12) (by decide) rfl (fun ls hl => ?_)
            refine lv_goto (tgt := 15) hx hb dX8_readCond_61 (by decide) ?_
            exact ih_15 x3_15 v12 Nv11 Rv8 ls _ _ (lv_sub hl [1, 2, 3, 4, 0] rfl) hP hD hS hf
          · have hf := (if_pos hb13).symm.trans hf
            refine lv_iconst (v := 0) hx hb dX8_readCond_46 (by decide) ?_
            have hf := Option.some.inj hf
            subst hf
            exact c_zret (v := (0 : Int32)) hx hb hr rfl hlocks hP hK hD hS dX8_readCond_47) 2000
  refine lv_aload_n hx hb dX8_readCond_0 rfl (lv_at hl 0 rfl) ?_
  refine lv_aload_n hx hb dX8_readCond_1 rfl (lv_at hl 1 rfl) ?_
  refine lv_aload_n hx hb dX8_readCond_2 rfl (lv_at hl 2 rfl) ?_
  refine lv_iload_n hx hb dX8_readCond_3 rfl (lv_at hl 3 rfl) ?_
  obtain ⟨v17, Nv18, Rv19, hq16, hf⟩ := bo3_e hf
  have hEc := cE_sub (A1 := va_A (ww_X8_readAll cs ad raN raR raO raT xR nT zD zD zD (fun _ => 0)) _) hE hS (cA_free (isC := [0, 1, 2, 3, 4, 5, 6, 7, 8, 9, 10, 11, 12, 13, 14]) (wc := (ww_X8_readAll cs ad raN raR raO raT xR nT N R O T)) (wz := (ww_X8_readAll cs ad raN raR raO raT xR nT zD zD zD (fun _ => 0))) rfl rfl hD hS hA)
  refine g_callw (isC := [0, 1, 2, 3, 4, 5, 6, 7, 8, 9, 10, 11, 12, 13, 14]) (isR := []) (wc := (ww_X8_readAll cs ad raN raR raO raT xR nT N R O T)) (wz := (ww_X8_readAll cs ad raN raR raO raT xR nT zD zD zD (fun _ => 0))) (w1 := (ww_X8_readAll cs ad raN raR raO raT xR nT Nv18 Rv19 O T)) (ws' := (ww_X8_readCond cs ad raN raR raO raT xR nT Nv18 Rv19 O T)) (v := v17) (va_runV (As := [.ref (raR 0), .ref (raO 0), .int a2]) (rest := []) ⟨hx, hb, hml, hown, hts⟩ (hfA raN raR raO raT xR nT _ N R O T a2 (v17, Nv18, Rv19) hq16) (cwV 3 hts gX8_readCond_X8_readAll rfl rfl rfl (by decide +kernel) ⟨(show (13 + 3 * nn) + 1 ≤ 14 + 3 * nn by omega), (show 8 + (5 + 11) + (600 + 600 * nn) ≤ 800 + 600 * nn by omega)⟩) ⟨fun a U g mk q => ⟨q.1, (fun _ _ _ _ => cPe_bl (fun h => cPw_bl h)) a U g mk q.2⟩, va_recv hK hP (ci := 9) (q0 := 0) rfl rfl, fun U hU hW => ⟨rfl, ⟨hEc U hU hW, ⟨by rw [hU], by rw [hU]; exact (hP.sub (ws' := (ww_X8_readAll cs ad raN raR raO raT xR nT N R O T)) [0, 1, 2, 3, 4, 5, 6, 7, 8, 9, 10, 11, 12, 13, 14] rfl), va_K.moved hW.alike hK, (hD.sub (ws' := (ww_X8_readAll cs ad raN raR raO raT xR nT N R O T)) [0, 1, 2, 3, 4, 5, 6, 7, 8, 9, 10, 11, 12, 13, 14] (by decide) rfl).weaken (fun _ _ _ _ => trivial), kN_warm hW hN⟩⟩⟩⟩ rfl rfl hl.1 rfl (lv_room (Nat.le_of_ble_eq_true rfl)) dX8_readCond_4 ⟨Nat.le_refl _, Nat.le_refl _⟩) hP hD hS hA rfl rfl (wr := ([] : va_W)) rfl rfl rfl (nw := 15) rfl (by decide +kernel) rfl (fun H locs hP hD hS => ?_)
  refine lv_if_ne (tgt := 12) hx hb dX8_readCond_7 (by decide) (fun hb20 => ?_) (fun hb20 => ?_)
  · have hf := (if_neg hb20).symm.trans hf
    refine lv_iconst (v := 0) hx hb dX8_readCond_12 (by decide) ?_
    refine lv_istore (nL := 5) (lv' := [(4, .int (0 : Int32)), (0, .ref (raN 0)), (1, .ref (raR 0)), (2, .ref (raO 0)), (3, .int a2)]) hx hb dX8_readCond_13 hl (by decide) rfl (fun ls hl => ?_)
    exact h_15 a2 (0 : Int32) Nv18 Rv19 ls _ _ (lv_sub hl [1, 2, 3, 4, 0] rfl) hP hD hS hf
  · have hf := (if_pos hb20).symm.trans hf
    refine lv_iconst (v := 0) hx hb dX8_readCond_10 (by decide) ?_
    have hf := Option.some.inj hf
    subst hf
    exact c_zret (v := (0 : Int32)) hx hb hr rfl hlocks hP hK hD hS dX8_readCond_11

set_option maxHeartbeats 4000000 in
set_option maxRecDepth 100000 in
theorem c_X8_readOne_open (l : Launch) (dC : Nat → ClassId) (dI : Nat → Nat → Nat) (cs : Nat → ClassId) (ad : Nat → Nat) (nn : Nat) (fC : Int32 → Nat → kD → kD → kD → (Nat → Int32) → Option (Int32 × kD × kD)) (fO : Int32 → Nat → kD → kD → kD → (Nat → Int32) → Option (Int32 × kD × kD)) (hfC : ∀ (raN : Nat → Nat) (raR : Nat → Nat) (raO : Nat → Nat) (raT : Nat) (xR : Nat) (nT : Nat) (sz : Nat) (N : kD) (R : kD) (O : kD) (T : Nat → Int32) (a2 : Int32) (r : Int32 × kD × kD) (hf : fC a2 nT N R O T = some r), Met l yX8_readCond wsX8_readCond (rm_X8_readCond nn) (va_Pc [.ref (raN 0), .ref (raR 0), .ref (raO 0), .int a2] (cPe ad (va_A (ww_X8_readCond cs ad raN raR raO raT xR nT zD zD zD (fun _ => 0)) sz) (cPw dC dI cs sz (ww_X8_readCond cs ad raN raR raO raT xR nT N R O T)))) (cQi dC dI cs (va_A (ww_X8_readCond cs ad raN raR raO raT xR nT zD zD zD (fun _ => 0)) sz) r.1 (ww_X8_readCond cs ad raN raR raO raT xR nT r.2.1 r.2.2 O T)) 0 0 (va_A (ww_X8_readCond cs ad raN raR raO raT xR nT zD zD zD (fun _ => 0)) sz)) (hfO : ∀ (raN : Nat → Nat) (raR : Nat → Nat) (raO : Nat → Nat) (raT : Nat) (xR : Nat) (nT : Nat) (sz : Nat) (N : kD) (R : kD) (O : kD) (T : Nat → Int32) (a2 : Int32) (r : Int32 × kD × kD) (hf : fO a2 nT N R O T = some r), Met l yX8_readOne wsX8_readOne (rm_X8_readOne nn) (va_Pc [.ref (raN 0), .ref (raR 0), .ref (raO 0), .int a2] (cPe ad (va_A (ww_X8_readOne cs ad raN raR raO raT xR nT zD zD zD (fun _ => 0)) sz) (cPw dC dI cs sz (ww_X8_readOne cs ad raN raR raO raT xR nT N R O T)))) (cQi dC dI cs (va_A (ww_X8_readOne cs ad raN raR raO raT xR nT zD zD zD (fun _ => 0)) sz) r.1 (ww_X8_readOne cs ad raN raR raO raT xR nT r.2.1 r.2.2 O T)) 0 0 (va_A (ww_X8_readOne cs ad raN raR raO raT xR nT zD zD zD (fun _ => 0)) sz)) (raN : Nat → Nat) (raR : Nat → Nat) (raO : Nat → Nat) (raT : Nat) (xR : Nat) (nT : Nat) (sz : Nat) (N : kD) (R : kD) (O : kD) (T : Nat → Int32) (a2 : Int32) (r : Int32 × kD × kD) (hf : F_X8_readOne fC fO a2 nT N R O T = some r) : Met l yX8_readOne wsX8_readOne (rm_X8_readOne (nn + 1)) (va_Pc [.ref (raN 0), .ref (raR 0), .ref (raO 0), .int a2] (cPe ad (va_A (ww_X8_readOne cs ad raN raR raO raT xR nT zD zD zD (fun _ => 0)) sz) (cPw dC dI cs sz (ww_X8_readOne cs ad raN raR raO raT xR nT N R O T)))) (cQi dC dI cs (va_A (ww_X8_readOne cs ad raN raR raO raT xR nT zD zD zD (fun _ => 0)) sz) r.1 (ww_X8_readOne cs ad raN raR raO raT xR nT r.2.1 r.2.2 O T)) 0 0 (va_A (ww_X8_readOne cs ad raN raR raO raT xR nT zD zD zD (fun _ => 0)) sz) := by
  refine Met.ofW (cc := cX8_readOne) (maxL := 6) (ret := (some .boolean)) (by decide) rfl ?_
  intro p e s m args below meth c s₁ B hml hv
  obtain ⟨hav, hE, hsz, hP, hK, hD0, hN⟩ := hv
  have hx := B.exec
  have hb := B.bytes
  have hr := B.returns
  have hts := atoms_spec (ws := wsX8_readOne) B.pre
  have hown : s.vm.findClass RX8 = some m.cls := findClass_of_methodNamed B.named
  have hlocks := B.notSynchronized
  subst hsz
  have hA : ∀ q, s.heap.size ≤ q → va_A (ww_X8_readOne cs ad raN raR raO raT xR nT zD zD zD (fun _ => 0)) s.heap.size q := fun q h => Or.inr h
  have hD : va_D (va_A (ww_X8_readOne cs ad raN raR raO raT xR nT zD zD zD (fun _ => 0)) s.heap.size) (ww_X8_readOne cs ad raN raR raO raT xR nT N R O T) := hD0.weaken (fun k q h _ => cA_in (ws := (ww_X8_readOne cs ad raN raR raO raT xR nT N R O T)) (ws' := (ww_X8_readOne cs ad raN raR raO raT xR nT zD zD zD (fun _ => 0))) rfl h)
  have hS : va_S (va_A (ww_X8_readOne cs ad raN raR raO raT xR nT zD zD zD (fun _ => 0)) s.heap.size) s.heap s.heap [] := va_S.rf
  have hinX3 := (show ∀ w ∈ wsX30, w ∈ wsX8_readOne from fun w h => List.mem_cons_of_mem _ (List.mem_append_right _ h))
  have hinX4 := (show ∀ w ∈ wsX40, w ∈ wsX8_readOne from fun w h => List.mem_cons_of_mem _ (List.mem_append_left _ (List.mem_append_left _ (List.mem_append_right _ h))))
  have hinX8 := (show ∀ w ∈ wsX80, w ∈ wsX8_readOne from fun w h => List.mem_cons_of_mem _ (List.mem_append_left _ (List.mem_append_right _ h)))
  have k_fieldLink_RX8_31__KeyLetters_Sentence___ones___I_ := hts (.fieldLink RX8 31 "KeyLetters$Sentence" "ones" "I") (List.mem_of_getElem? (i := 1) rfl)
  have k_initialized_RX4 := hts (.initialized RX4) (List.mem_of_getElem? (i := 9) rfl)
  have k_instanceMethod_yX4_advance := hts (.instanceMethod yX4_advance) (List.mem_of_getElem? (i := 20) rfl)
  have k_instanceMethod_yX4_passSign := hts (.instanceMethod yX4_passSign) (List.mem_of_getElem? (i := 99) rfl)
  have k_instanceMethod_yX4_refuse := hts (.instanceMethod yX4_refuse) (List.mem_of_getElem? (i := 14) rfl)
  have k_instanceMethod_yX4_seesSign := hts (.instanceMethod yX4_seesSign) (List.mem_of_getElem? (i := 8) rfl)
  have k_selects_RX4_yX4_advance_yX4_advance := hts (.selects RX4 yX4_advance yX4_advance) (List.mem_of_getElem? (i := 21) rfl)
  have k_selects_RX4_yX4_passSign_yX4_passSign := hts (.selects RX4 yX4_passSign yX4_passSign) (List.mem_of_getElem? (i := 100) rfl)
  have k_selects_RX4_yX4_refuse_yX4_refuse := hts (.selects RX4 yX4_refuse yX4_refuse) (List.mem_of_getElem? (i := 15) rfl)
  have k_selects_RX4_yX4_seesSign_yX4_seesSign := hts (.selects RX4 yX4_seesSign yX4_seesSign) (List.mem_of_getElem? (i := 10) rfl)
  have kdLink_RX8_122__KeyLetters_Word___NUMBER___LKeyLetters_Word__ := hts (.fieldLink RX8 122 "KeyLetters$Word" "NUMBER" "LKeyLetters$Word;") (List.mem_of_getElem? (i := 7) rfl)
  have keldLink_RX8_107__KeyLetters_Word___OWES___LKeyLetters_Word__ := hts (.fieldLink RX8 107 "KeyLetters$Word" "OWES" "LKeyLetters$Word;") (List.mem_of_getElem? (i := 4) rfl)
  have kfieldLink_RX8_88__KeyLetters_Word___NOT___LKeyLetters_Word__ := hts (.fieldLink RX8 88 "KeyLetters$Word" "NOT" "LKeyLetters$Word;") (List.mem_of_getElem? (i := 2) rfl)
  have kieldLink_RX8_116__KeyLetters_Word___INK___LKeyLetters_Word__ := hts (.fieldLink RX8 116 "KeyLetters$Word" "INK" "LKeyLetters$Word;") (List.mem_of_getElem? (i := 5) rfl)
  have kieldLink_RX8_91__KeyLetters_Word___ABLE___LKeyLetters_Word__ := hts (.fieldLink RX8 91 "KeyLetters$Word" "ABLE" "LKeyLetters$Word;") (List.mem_of_getElem? (i := 3) rfl)
  have kldLink_RX8_119__KeyLetters_Word___WROTE___LKeyLetters_Word__ := hts (.fieldLink RX8 119 "KeyLetters$Word" "WROTE" "LKeyLetters$Word;") (List.mem_of_getElem? (i := 6) rfl)
  have hl := lv_entry ([.ref (raN 0), .ref (raR 0), .ref (raO 0), .int a2]) (n := 6) (Nat.le_of_ble_eq_true rfl)
  rw [show entryFrame m args 6 = entryFrame m ([.ref (raN 0), .ref (raR 0), .ref (raO 0), .int a2] : List Value).toArray 6 from by rw [hav], lg_entry_eq]
  generalize (lg_sl ([.ref (raN 0), .ref (raR 0), .ref (raO 0), .int a2]) ++ List.replicate (6 - (lg_sl ([.ref (raN 0), .ref (raR 0), .ref (raO 0), .int a2])).length) Slot.unset).toArray = ls at hl ⊢
  have hl : lv_has ls 6 [(0, .ref (raN 0)), (1, .ref (raR 0)), (2, .ref (raO 0)), (3, .int a2)] := hl
  unfold F_X8_readOne at hf
  have h_33 : ∀ (x3_33 : Int32) (x4_33 : Int32) (x5_33 : Int32) (N_33 : kD) (R_33 : kD) (ls : Array Slot) (H : Heap) (locs : List Loc), lv_has ls 6 [(0, .ref (raN 0)), (1, .ref (raR 0)), (2, .ref (raO 0)), (3, .int x3_33), (4, .int x4_33), (5, .ref (ad x5_33.toNatClampNeg))] → va_P (dC, dI) vwCl (ww_X8_readOne cs ad raN raR raO raT xR nT N_33 R_33 O T) H → va_D (va_A (ww_X8_readOne cs ad raN raR raO raT xR nT zD zD zD (fun _ => 0)) s.heap.size) (ww_X8_readOne cs ad raN raR raO raT xR nT N_33 R_33 O T) → va_S (va_A (ww_X8_readOne cs ad raN raR raO raT xR nT zD zD zD (fun _ => 0)) s.heap.size) s.heap H locs → g_X8_readOne_33 fC fO nT O T x3_33 x4_33 x5_33 N_33 R_33 = some r → W p l e (headSpec wsX8_readOne (rm_X8_readOne (nn + 1))).room s m args below meth c H locs 0 0 (MQ below (cQi dC dI cs (va_A (ww_X8_readOne cs ad raN raR raO raT xR nT zD zD zD (fun _ => 0)) s.heap.size) r.1 (ww_X8_readOne cs ad raN raR raO raT xR nT r.2.1 r.2.2 O T)) args s 0 0 (va_A (ww_X8_readOne cs ad raN raR raO raT xR nT zD zD zD (fun _ => 0)) s.heap.size)) (F0 m 33 ls []) := by
    intro x3_33 x4_33 x5_33 N_33 R_33 ls H locs hl hP hD hS hf
    unfold g_X8_readOne_33 at hf
    have h_48 : ∀ (N_48 : kD) (R_48 : kD) (ls : Array Slot) (H : Heap) (locs : List Loc), lv_has ls 6 [(1, .ref (raR 0))] → va_P (dC, dI) vwCl (ww_X8_readOne cs ad raN raR raO raT xR nT N_48 R_48 O T) H → va_D (va_A (ww_X8_readOne cs ad raN raR raO raT xR nT zD zD zD (fun _ => 0)) s.heap.size) (ww_X8_readOne cs ad raN raR raO raT xR nT N_48 R_48 O T) → va_S (va_A (ww_X8_readOne cs ad raN raR raO raT xR nT zD zD zD (fun _ => 0)) s.heap.size) s.heap H locs → g_X8_readOne_48 fC fO nT O T N_48 R_48 = some r → W p l e (headSpec wsX8_readOne (rm_X8_readOne (nn + 1))).room s m args below meth c H locs 0 0 (MQ below (cQi dC dI cs (va_A (ww_X8_readOne cs ad raN raR raO raT xR nT zD zD zD (fun _ => 0)) s.heap.size) r.1 (ww_X8_readOne cs ad raN raR raO raT xR nT r.2.1 r.2.2 O T)) args s 0 0 (va_A (ww_X8_readOne cs ad raN raR raO raT xR nT zD zD zD (fun _ => 0)) s.heap.size)) (F0 m 48 ls []) := by
      intro N_48 R_48 ls H locs hl hP hD hS hf
      unfold g_X8_readOne_48 at hf
      refine lv_aload_n hx hb dX8_readOne_48 rfl (lv_at hl 0 rfl) ?_
      refine lv_iconst (v := 4) hx hb dX8_readOne_49 (by decide) ?_
      obtain ⟨v2, Rv3, hq1, hf⟩ := bo2_e hf
      refine g_callw (isC := [5, 14]) (isR := [0, 1, 2, 3, 4, 6, 7, 8, 9, 10, 11, 12, 13]) (wc := (ww_X4_refuse cs ad raR raT xR nT R_48 T)) (wz := (ww_X4_refuse cs ad raR raT xR nT zD (fun _ => 0))) (w1 := (ww_X4_refuse cs ad raR raT xR nT Rv3 T)) (ws' := (ww_X8_readOne cs ad raN raR raO raT xR nT N_48 Rv3 O T)) (v := v2) (va_runVN (As := [.int (4 : Int32)]) (rest := []) ⟨hx, hb, hml, hown, hts⟩ (c_X4_refuse l dC dI cs ad raR raT xR nT _ R_48 T (4 : Int32) (v2, Rv3) hq1) ⟨va_cnB 1 hts gX8_readOne_X4_refuse_n82 rfl rfl rfl (hN _ (List.mem_of_getElem? (i := 135) rfl)) k_initialized_RX4 (by decide +kernel) ⟨(show 0 + 1 ≤ 12 + 3 * (nn + 1) by omega), (show 8 + (2 + 11) + 0 ≤ 400 + 600 * (nn + 1) by omega)⟩, k_instanceMethod_yX4_refuse, k_selects_RX4_yX4_refuse_yX4_refuse⟩ ⟨fun a U g mk q => ⟨q.1, (fun _ _ _ _ => cPw_bl) a U g mk q.2⟩, va_recv hK hP (ci := 5) (q0 := 5) rfl rfl, fun U hU hW => ⟨rfl, ⟨by rw [hU], by rw [hU]; exact (hP.sub (ws' := (ww_X4_refuse cs ad raR raT xR nT R_48 T)) [5, 14] rfl), va_K.moved hW.alike hK, (hD.sub (ws' := (ww_X4_refuse cs ad raR raT xR nT R_48 T)) [5, 14] (by decide) rfl).weaken (fun _ _ _ _ => trivial), kN_warm hW hN⟩⟩⟩ rfl rfl hl.1 rfl (lv_room (Nat.le_of_ble_eq_true rfl)) dX8_readOne_50 ⟨Nat.le_refl _, Nat.le_refl _⟩) hP hD hS hA rfl rfl (wr := ((wX8 cs ad raN N_48) ++ ((wX3 cs ad raO O)))) rfl rfl rfl (nw := 15) rfl (by decide +kernel) rfl (fun H locs hP hD hS => ?_)
      obtain ⟨hc4, hf⟩ := ck_e hf
      have hf := Option.some.inj hf
      subst hf
      exact c_zret (v := v2) hx hb hr (kt_z (Decidable.not_not.mp hc4)) hlocks hP hK hD hS dX8_readOne_53
    have h_210 : ∀ (x5_210 : Int32) (N_210 : kD) (R_210 : kD) (ls : Array Slot) (H : Heap) (locs : List Loc), lv_has ls 6 [(0, .ref (raN 0)), (1, .ref (raR 0)), (5, .ref (ad x5_210.toNatClampNeg))] → va_P (dC, dI) vwCl (ww_X8_readOne cs ad raN raR raO raT xR nT N_210 R_210 O T) H → va_D (va_A (ww_X8_readOne cs ad raN raR raO raT xR nT zD zD zD (fun _ => 0)) s.heap.size) (ww_X8_readOne cs ad raN raR raO raT xR nT N_210 R_210 O T) → va_S (va_A (ww_X8_readOne cs ad raN raR raO raT xR nT zD zD zD (fun _ => 0)) s.heap.size) s.heap H locs → g_X8_readOne_210 fC fO nT O T x5_210 N_210 R_210 = some r → W p l e (headSpec wsX8_readOne (rm_X8_readOne (nn + 1))).room s m args below meth c H locs 0 0 (MQ below (cQi dC dI cs (va_A (ww_X8_readOne cs ad raN raR raO raT xR nT zD zD zD (fun _ => 0)) s.heap.size) r.1 (ww_X8_readOne cs ad raN raR raO raT xR nT r.2.1 r.2.2 O T)) args s 0 0 (va_A (ww_X8_readOne cs ad raN raR raO raT xR nT zD zD zD (fun _ => 0)) s.heap.size)) (F0 m 210 ls []) := by
      intro x5_210 N_210 R_210 ls H locs hl hP hD hS hf
      unfold g_X8_readOne_210 at hf
      refine lv_aload_n hx hb dX8_readOne_210 rfl (lv_at hl 0 rfl) ?_
      refine lv_aload_n hx hb dX8_readOne_211 rfl (lv_at hl 1 rfl) ?_
      refine lv_aload hx hb dX8_readOne_212 (lv_at hl 2 rfl) ?_
      obtain ⟨v6, Nv7, Rv8, hq5, hf⟩ := bo3_e hf
      have hEc := cE_sub (A1 := va_A (ww_X8_readComparison cs ad raN raR raT xR nT zD zD (fun _ => 0)) _) hE hS (cA_free (isC := [0, 1, 2, 3, 4, 5, 14]) (wc := (ww_X8_readComparison cs ad raN raR raT xR nT N_210 R_210 T)) (wz := (ww_X8_readComparison cs ad raN raR raT xR nT zD zD (fun _ => 0))) rfl rfl hD hS hA)
      refine g_callw (isC := [0, 1, 2, 3, 4, 5, 14]) (isR := [6, 7, 8, 9, 10, 11, 12, 13]) (wc := (ww_X8_readComparison cs ad raN raR raT xR nT N_210 R_210 T)) (wz := (ww_X8_readComparison cs ad raN raR raT xR nT zD zD (fun _ => 0))) (w1 := (ww_X8_readComparison cs ad raN raR raT xR nT Nv7 Rv8 T)) (ws' := (ww_X8_readOne cs ad raN raR raO raT xR nT Nv7 Rv8 O T)) (v := v6) (va_runV (As := [.ref (raR 0), .ref (ad x5_210.toNatClampNeg)]) (rest := []) ⟨hx, hb, hml, hown, hts⟩ (c_X8_readComparison l dC dI cs ad raN raR raT xR nT _ N_210 R_210 T x5_210 (v6, Nv7, Rv8) hq5) (cwV 2 hts gX8_readOne_X8_readComparison rfl rfl rfl (by decide +kernel) ⟨(show 6 + 1 ≤ 12 + 3 * (nn + 1) by omega), (show 8 + (5 + 11) + 166 ≤ 400 + 600 * (nn + 1) by omega)⟩) ⟨fun a U g mk q => ⟨q.1, (fun _ _ _ _ => cPe_bl (fun h => cPw_bl h)) a U g mk q.2⟩, va_recv hK hP (ci := 9) (q0 := 0) rfl rfl, fun U hU hW => ⟨rfl, ⟨hEc U hU hW, ⟨by rw [hU], by rw [hU]; exact (hP.sub (ws' := (ww_X8_readComparison cs ad raN raR raT xR nT N_210 R_210 T)) [0, 1, 2, 3, 4, 5, 14] rfl), va_K.moved hW.alike hK, (hD.sub (ws' := (ww_X8_readComparison cs ad raN raR raT xR nT N_210 R_210 T)) [0, 1, 2, 3, 4, 5, 14] (by decide) rfl).weaken (fun _ _ _ _ => trivial), kN_warm hW hN⟩⟩⟩⟩ rfl rfl hl.1 rfl (lv_room (Nat.le_of_ble_eq_true rfl)) dX8_readOne_214 ⟨Nat.le_refl _, Nat.le_refl _⟩) hP hD hS hA rfl rfl (wr := ((wX3 cs ad raO O))) rfl rfl rfl (nw := 15) rfl (by decide +kernel) rfl (fun H locs hP hD hS => ?_)
      obtain ⟨hc9, hf⟩ := ck_e hf
      have hf := Option.some.inj hf
      subst hf
      exact c_zret (v := v6) hx hb hr (kt_z (Decidable.not_not.mp hc9)) hlocks hP hK hD hS dX8_readOne_217
    refine lv_aload_n hx hb dX8_readOne_33 rfl (lv_at hl 0 rfl) ?_
    refine va_get (D := (dC, dI)) (ci := 9) (C := RX8) (T := TX8) (N := 6) hx hb hts hinX8 hown hK hP 0 rfl rfl 0 (by decide) (v := .int (N_33.1 0 0)) k_fieldLink_RX8_31__KeyLetters_Sentence___ones___I_ (fun _ h9 => h9) rfl dX8_readOne_34 ?_
    refine lv_bipush (v := 20) hx hb dX8_readOne_37 (by decide) ?_
    refine lv_icmp_ge (tgt := 48) hx hb dX8_readOne_39 (by decide) (fun hb54 => ?_) (fun hb54 => ?_)
    · have hf := (if_pos hb54).symm.trans hf
      exact h_48 N_33 R_33 ls _ _ (lv_sub hl [1] rfl) hP hD hS hf
    · have hf := (if_neg hb54).symm.trans hf
      refine lv_iload_n hx hb dX8_readOne_42 rfl (lv_at hl 3 rfl) ?_
      refine lv_bipush (v := 8) hx hb dX8_readOne_43 (by decide) ?_
      refine lv_icmp_le (tgt := 54) hx hb dX8_readOne_45 (by decide) (fun hb53 => ?_) (fun hb53 => ?_)
      · have hf := (if_pos hb53).symm.trans hf
        refine lv_aload_n hx hb dX8_readOne_54 rfl (lv_at hl 0 rfl) ?_
        refine lv_dup hx hb dX8_readOne_55 rfl ?_
        refine va_get (D := (dC, dI)) (ci := 9) (C := RX8) (T := TX8) (N := 6) hx hb hts hinX8 hown hK hP 0 rfl rfl 0 (by decide) (v := .int (N_33.1 0 0)) k_fieldLink_RX8_31__KeyLetters_Sentence___ones___I_ (fun _ h9 => h9) rfl dX8_readOne_56 ?_
        refine lv_iconst (v := 1) hx hb dX8_readOne_59 (by decide) ?_
        refine lv_iadd hx hb dX8_readOne_60 ?_
        obtain ⟨Nv10, eNv10, hf⟩ := bd1_e hf
        refine g_put (D := (dC, dI)) (ci := 9) (C := RX8) (T := TX8) (N := 6) hx hb hts hinX8 tyX8 tyX8_ok nmX8 hown hK hP hD hS 0 rfl rfl 0 (by decide) k_fieldLink_RX8_31__KeyLetters_Sentence___ones___I_ (fun _ h9 => h9) rfl (ty := .int) (v := .int ((N_33.1 0 0) + (1 : Int32))) (by decide +kernel) rfl rfl (Nat.le_of_ble_eq_true rfl) (ws' := (ww_X8_readOne cs ad raN raR raO raT xR nT Nv10 R_33 O T)) (by rw [eNv10]; rfl) dX8_readOne_61 (fun H locs hP hD hS => ?_)
        refine lv_aload_n hx hb dX8_readOne_64 rfl (lv_at hl 1 rfl) ?_
        obtain ⟨Rv12, hq11, hf⟩ := bo_e hf
        have hEc := cE_sub (A1 := va_A (ww_X4_advance cs ad raR raT xR nT zD (fun _ => 0)) _) hE hS (cA_free (isC := [5, 14]) (wc := (ww_X4_advance cs ad raR raT xR nT R_33 T)) (wz := (ww_X4_advance cs ad raR raT xR nT zD (fun _ => 0))) rfl rfl hD hS hA)
        refine g_callv (isC := [5, 14]) (isR := [0, 1, 2, 3, 4, 6, 7, 8, 9, 10, 11, 12, 13]) (wc := (ww_X4_advance cs ad raR raT xR nT R_33 T)) (wz := (ww_X4_advance cs ad raR raT xR nT zD (fun _ => 0))) (w1 := (ww_X4_advance cs ad raR raT xR nT Rv12 T)) (ws' := (ww_X8_readOne cs ad raN raR raO raT xR nT Nv10 Rv12 O T)) (va_runVN (As := []) (rest := []) ⟨hx, hb, hml, hown, hts⟩ (c_X4_advance l dC dI cs ad raR raT xR nT _ R_33 T Rv12 hq11) ⟨va_cnB 0 hts gX8_readOne_X4_advance_n58 rfl rfl rfl (hN _ (List.mem_of_getElem? (i := 136) rfl)) k_initialized_RX4 (by decide +kernel) ⟨(show 5 + 1 ≤ 12 + 3 * (nn + 1) by omega), (show 8 + (2 + 11) + 145 ≤ 400 + 600 * (nn + 1) by omega)⟩, k_instanceMethod_yX4_advance, k_selects_RX4_yX4_advance_yX4_advance⟩ ⟨fun a U g mk q => ⟨q.1, (fun _ _ _ _ => cPe_bl (fun h => cPw_bl h)) a U g mk q.2⟩, va_recv hK hP (ci := 5) (q0 := 5) rfl rfl, fun U hU hW => ⟨rfl, ⟨hEc U hU hW, ⟨by rw [hU], by rw [hU]; exact (hP.sub (ws' := (ww_X4_advance cs ad raR raT xR nT R_33 T)) [5, 14] rfl), va_K.moved hW.alike hK, (hD.sub (ws' := (ww_X4_advance cs ad raR raT xR nT R_33 T)) [5, 14] (by decide) rfl).weaken (fun _ _ _ _ => trivial), kN_warm hW hN⟩⟩⟩⟩ rfl rfl hl.1 rfl (lv_room (Nat.le_of_ble_eq_true rfl)) dX8_readOne_65 ⟨Nat.le_refl _, Nat.le_refl _⟩) hP hD hS hA rfl rfl (wr := ((wX8 cs ad raN Nv10) ++ ((wX3 cs ad raO O)))) rfl rfl rfl (nw := 15) rfl (by decide +kernel) rfl (fun H locs hP hD hS => ?_)
        refine lv_iload hx hb dX8_readOne_68 (lv_at hl 4 rfl) ?_
        refine lv_if_eq (tgt := 100) hx hb dX8_readOne_70 (by decide) (fun hb52 => ?_) (fun hb52 => ?_)
        · have hf := (if_pos hb52).symm.trans hf
          refine lv_aload hx hb dX8_readOne_100 (lv_at hl 5 rfl) ?_
          refine va_gets hx hb (show va_Z "KeyLetters$Word" "NOT" "LKeyLetters$Word;" (.ref (ad 13)) _ s s.heap from (hE.1.1 13 (by decide)).1) hS hown kfieldLink_RX8_88__KeyLetters_Word___NOT___LKeyLetters_Word__ (fun _ h9 => h9) dX8_readOne_102 ?_
          obtain ⟨hc13, hf⟩ := ck_e hf
          refine ke_acmp_ne (x := x5_33) (y := (13 : Int32)) hE hc13 (by decide +kernel) (tgt := 138) hx hb dX8_readOne_105 (by decide) (fun hb42 => ?_) (fun hb42 => ?_)
          · have hf := (if_neg hb42).symm.trans hf
            refine lv_aload hx hb dX8_readOne_138 (lv_at hl 5 rfl) ?_
            refine va_gets hx hb (show va_Z "KeyLetters$Word" "ABLE" "LKeyLetters$Word;" (.ref (ad 17)) _ s s.heap from (hE.1.1 17 (by decide)).1) hS hown kieldLink_RX8_91__KeyLetters_Word___ABLE___LKeyLetters_Word__ (fun _ h9 => h9) dX8_readOne_140 ?_
            refine ke_acmp_ne (x := x5_33) (y := (17 : Int32)) hE hc13 (by decide +kernel) (tgt := 162) hx hb dX8_readOne_143 (by decide) (fun hb32 => ?_) (fun hb32 => ?_)
            · have hf := (if_neg hb32).symm.trans hf
              refine lv_aload hx hb dX8_readOne_162 (lv_at hl 5 rfl) ?_
              refine va_gets hx hb (show va_Z "KeyLetters$Word" "OWES" "LKeyLetters$Word;" (.ref (ad 18)) _ s s.heap from (hE.1.1 18 (by decide)).1) hS hown keldLink_RX8_107__KeyLetters_Word___OWES___LKeyLetters_Word__ (fun _ h9 => h9) dX8_readOne_164 ?_
              refine ke_acmp_ne (x := x5_33) (y := (18 : Int32)) hE hc13 (by decide +kernel) (tgt := 186) hx hb dX8_readOne_167 (by decide) (fun hb26 => ?_) (fun hb26 => ?_)
              · have hf := (if_neg hb26).symm.trans hf
                refine lv_aload hx hb dX8_readOne_186 (lv_at hl 5 rfl) ?_
                refine va_gets hx hb (show va_Z "KeyLetters$Word" "INK" "LKeyLetters$Word;" (.ref (ad 19)) _ s s.heap from (hE.1.1 19 (by decide)).1) hS hown kieldLink_RX8_116__KeyLetters_Word___INK___LKeyLetters_Word__ (fun _ h9 => h9) dX8_readOne_188 ?_
                refine ke_acmp_eq (x := x5_33) (y := (19 : Int32)) hE hc13 (by decide +kernel) (tgt := 210) hx hb dX8_readOne_191 (by decide) (fun hb20 => ?_) (fun hb20 => ?_)
                · have hf := (if_pos hb20).symm.trans hf
                  exact h_210 x5_33 Nv10 Rv12 ls _ _ (lv_sub hl [0, 1, 5] rfl) hP hD hS hf
                · have hf := (if_neg hb20).symm.trans hf
                  refine lv_aload hx hb dX8_readOne_194 (lv_at hl 5 rfl) ?_
                  refine va_gets hx hb (show va_Z "KeyLetters$Word" "WROTE" "LKeyLetters$Word;" (.ref (ad 20)) _ s s.heap from (hE.1.1 20 (by decide)).1) hS hown kldLink_RX8_119__KeyLetters_Word___WROTE___LKeyLetters_Word__ (fun _ h9 => h9) dX8_readOne_196 ?_
                  refine ke_acmp_eq (x := x5_33) (y := (20 : Int32)) hE hc13 (by decide +kernel) (tgt := 210) hx hb dX8_readOne_199 (by decide) (fun hb19 => ?_) (fun hb19 => ?_)
                  · have hf := (if_pos hb19).symm.trans hf
                    exact h_210 x5_33 Nv10 Rv12 ls _ _ (lv_sub hl [0, 1, 5] rfl) hP hD hS hf
                  · have hf := (if_neg hb19).symm.trans hf
                    refine lv_aload hx hb dX8_readOne_202 (lv_at hl 5 rfl) ?_
                    refine va_gets hx hb (show va_Z "KeyLetters$Word" "NUMBER" "LKeyLetters$Word;" (.ref (ad 21)) _ s s.heap from (hE.1.1 21 (by decide)).1) hS hown kdLink_RX8_122__KeyLetters_Word___NUMBER___LKeyLetters_Word__ (fun _ h9 => h9) dX8_readOne_204 ?_
                    refine ke_acmp_ne (x := x5_33) (y := (21 : Int32)) hE hc13 (by decide +kernel) (tgt := 218) hx hb dX8_readOne_207 (by decide) (fun hb18 => ?_) (fun hb18 => ?_)
                    · have hf := (if_neg hb18).symm.trans hf
                      refine lv_aload_n hx hb dX8_readOne_218 rfl (lv_at hl 0 rfl) ?_
                      refine lv_aload hx hb dX8_readOne_219 (lv_at hl 5 rfl) ?_
                      refine lv_iconst (v := 0) hx hb dX8_readOne_221 (by decide) ?_
                      refine lv_iconst (v := 0) hx hb dX8_readOne_222 (by decide) ?_
                      obtain ⟨v15, Nv16, hq14, hf⟩ := bo2_e hf
                      have hEc := cE_sub (A1 := va_A (ww_X8_keepWord cs ad raN zD) _) hE hS (cA_free (isC := [0, 1, 2, 3, 4]) (wc := (ww_X8_keepWord cs ad raN Nv10)) (wz := (ww_X8_keepWord cs ad raN zD)) rfl rfl hD hS hA)
                      refine g_callw (isC := [0, 1, 2, 3, 4]) (isR := [5, 6, 7, 8, 9, 10, 11, 12, 13, 14]) (wc := (ww_X8_keepWord cs ad raN Nv10)) (wz := (ww_X8_keepWord cs ad raN zD)) (w1 := (ww_X8_keepWord cs ad raN Nv16)) (ws' := (ww_X8_readOne cs ad raN raR raO raT xR nT Nv16 Rv12 O T)) (v := v15) (va_runV (As := [.ref (ad x5_33.toNatClampNeg), .int (0 : Int32), .int (0 : Int32)]) (rest := []) ⟨hx, hb, hml, hown, hts⟩ (c_X8_keepWord l dC dI cs ad raN _ Nv10 x5_33 (0 : Int32) (0 : Int32) (v15, Nv16) hq14) (cwV 3 hts gX8_readOne_X8_keepWord rfl rfl rfl (by decide +kernel) ⟨(show 0 + 1 ≤ 12 + 3 * (nn + 1) by omega), (show 8 + (4 + 11) + 0 ≤ 400 + 600 * (nn + 1) by omega)⟩) ⟨fun a U g mk q => ⟨q.1, (fun _ _ _ _ => cPe_bl (fun h => cPw_bl h)) a U g mk q.2⟩, va_recv hK hP (ci := 9) (q0 := 0) rfl rfl, fun U hU hW => ⟨rfl, ⟨hEc U hU hW, ⟨by rw [hU], by rw [hU]; exact (hP.sub (ws' := (ww_X8_keepWord cs ad raN Nv10)) [0, 1, 2, 3, 4] rfl), va_K.moved hW.alike hK, (hD.sub (ws' := (ww_X8_keepWord cs ad raN Nv10)) [0, 1, 2, 3, 4] (by decide) rfl).weaken (fun _ _ _ _ => trivial), kN_warm hW hN⟩⟩⟩⟩ rfl rfl hl.1 rfl (lv_room (Nat.le_of_ble_eq_true rfl)) dX8_readOne_223 ⟨Nat.le_refl _, Nat.le_refl _⟩) hP hD hS hA rfl rfl (wr := ((wX4 cs ad raR xR raT Rv12) ++ ((wX3 cs ad raO O) ++ (([(raT, .inl (cs 1, nT, .inl T))]))))) rfl rfl rfl (nw := 15) rfl (by decide +kernel) rfl (fun H locs hP hD hS => ?_)
                      obtain ⟨hc17, hf⟩ := ck_e hf
                      have hf := Option.some.inj hf
                      subst hf
                      exact c_zret (v := v15) hx hb hr (kt_z (Decidable.not_not.mp hc17)) hlocks hP hK hD hS dX8_readOne_226
                    · have hf := (if_pos hb18).symm.trans hf
                      exact h_210 x5_33 Nv10 Rv12 ls _ _ (lv_sub hl [0, 1, 5] rfl) hP hD hS hf
              · have hf := (if_pos hb26).symm.trans hf
                refine lv_aload_n hx hb dX8_readOne_170 rfl (lv_at hl 0 rfl) ?_
                refine lv_aload_n hx hb dX8_readOne_171 rfl (lv_at hl 1 rfl) ?_
                refine lv_aload hx hb dX8_readOne_172 (lv_at hl 5 rfl) ?_
                refine lv_aload_n hx hb dX8_readOne_174 rfl (lv_at hl 2 rfl) ?_
                refine va_getN (D := (dC, dI)) (ci := 4) (C := RX3) (T := TX3) (N := 11) hx hb hts hinX3 hown hK hP 6 rfl rfl 4 (by decide) (v := .ref (raO 4)) (va_Nw.use rfl (hN _ (List.mem_of_getElem? (i := 21) rfl))) (fun _ h9 => h9) rfl dX8_readOne_175 ?_
                refine lv_aload_n hx hb dX8_readOne_178 rfl (lv_at hl 2 rfl) ?_
                refine va_getN (D := (dC, dI)) (ci := 4) (C := RX3) (T := TX3) (N := 11) hx hb hts hinX3 hown hK hP 6 rfl rfl 1 (by decide) (v := .int (O.1 0 1)) (va_Nw.use rfl (hN _ (List.mem_of_getElem? (i := 12) rfl))) (fun _ h9 => h9) rfl dX8_readOne_179 ?_
                obtain ⟨v22, Nv23, Rv24, hq21, hf⟩ := bo3_e hf
                have hEc := cE_sub (A1 := va_A (ww_X8_readNamed cs ad raN raR (raO 4) raT xR 6 nT zD zD (fun _ => 0) (fun _ => 0)) _) hE hS (cA_free (isC := [0, 1, 2, 3, 4, 5, 7, 14]) (wc := (ww_X8_readNamed cs ad raN raR (raO 4) raT xR 6 nT Nv10 Rv12 (O.2 4) T)) (wz := (ww_X8_readNamed cs ad raN raR (raO 4) raT xR 6 nT zD zD (fun _ => 0) (fun _ => 0))) rfl rfl hD hS hA)
                refine g_callw (isC := [0, 1, 2, 3, 4, 5, 7, 14]) (isR := [6, 8, 9, 10, 11, 12, 13]) (wc := (ww_X8_readNamed cs ad raN raR (raO 4) raT xR 6 nT Nv10 Rv12 (O.2 4) T)) (wz := (ww_X8_readNamed cs ad raN raR (raO 4) raT xR 6 nT zD zD (fun _ => 0) (fun _ => 0))) (w1 := (ww_X8_readNamed cs ad raN raR (raO 4) raT xR 6 nT Nv23 Rv24 (O.2 4) T)) (ws' := (ww_X8_readOne cs ad raN raR raO raT xR nT Nv23 Rv24 O T)) (v := v22) (va_runV (As := [.ref (raR 0), .ref (ad x5_33.toNatClampNeg), .ref (raO 4), .int (O.1 0 1)]) (rest := []) ⟨hx, hb, hml, hown, hts⟩ (c_X8_readNamed l dC dI cs ad raN raR (raO 4) raT xR 6 nT _ Nv10 Rv12 (O.2 4) T x5_33 (O.1 0 1) (v22, Nv23, Rv24) hq21) (cwV 4 hts gX8_readOne_X8_readNamed rfl rfl rfl (by decide +kernel) ⟨(show 6 + 1 ≤ 12 + 3 * (nn + 1) by omega), (show 8 + (6 + 11) + 166 ≤ 400 + 600 * (nn + 1) by omega)⟩) ⟨fun a U g mk q => ⟨q.1, (fun _ _ _ _ => cPe_bl (fun h => cPw_bl h)) a U g mk q.2⟩, va_recv hK hP (ci := 9) (q0 := 0) rfl rfl, fun U hU hW => ⟨rfl, ⟨hEc U hU hW, ⟨by rw [hU], by rw [hU]; exact (hP.sub (ws' := (ww_X8_readNamed cs ad raN raR (raO 4) raT xR 6 nT Nv10 Rv12 (O.2 4) T)) [0, 1, 2, 3, 4, 5, 7, 14] rfl), va_K.moved hW.alike hK, (hD.sub (ws' := (ww_X8_readNamed cs ad raN raR (raO 4) raT xR 6 nT Nv10 Rv12 (O.2 4) T)) [0, 1, 2, 3, 4, 5, 7, 14] (by decide) rfl).weaken (fun _ _ _ _ => trivial), kN_warm hW hN⟩⟩⟩⟩ rfl rfl hl.1 rfl (lv_room (Nat.le_of_ble_eq_true rfl)) dX8_readOne_182 ⟨Nat.le_refl _, Nat.le_refl _⟩) hP hD hS hA rfl rfl (wr := ([(raO 0, .inr (4, fX3 ad raO O)), (raO 5, .inl (cs 1, 6, .inl (O.1 5))), (raO 6, .inl (cs 1, 6, .inl (O.1 6))), (raO 7, .inl (cs 2, 8, .inr (.inl (O.2 7)))), (raO 8, .inl (cs 1, 8, .inl (O.1 8))), (raO 9, .inl (cs 1, 8, .inl (O.1 9))), (raO 10, .inl (cs 1, 8, .inl (O.1 10)))])) rfl rfl rfl (nw := 15) rfl (by decide +kernel) rfl (fun H locs hP hD hS => ?_)
                obtain ⟨hc25, hf⟩ := ck_e hf
                have hf := Option.some.inj hf
                subst hf
                exact c_zret (v := v22) hx hb hr (kt_z (Decidable.not_not.mp hc25)) hlocks hP hK hD hS dX8_readOne_185
            · have hf := (if_pos hb32).symm.trans hf
              refine lv_aload_n hx hb dX8_readOne_146 rfl (lv_at hl 0 rfl) ?_
              refine lv_aload_n hx hb dX8_readOne_147 rfl (lv_at hl 1 rfl) ?_
              refine lv_aload hx hb dX8_readOne_148 (lv_at hl 5 rfl) ?_
              refine lv_aload_n hx hb dX8_readOne_150 rfl (lv_at hl 2 rfl) ?_
              refine va_getN (D := (dC, dI)) (ci := 4) (C := RX3) (T := TX3) (N := 11) hx hb hts hinX3 hown hK hP 6 rfl rfl 7 (by decide) (v := .ref (raO 7)) (va_Nw.use rfl (hN _ (List.mem_of_getElem? (i := 26) rfl))) (fun _ h9 => h9) rfl dX8_readOne_151 ?_
              refine lv_aload_n hx hb dX8_readOne_154 rfl (lv_at hl 2 rfl) ?_
              refine va_getN (D := (dC, dI)) (ci := 4) (C := RX3) (T := TX3) (N := 11) hx hb hts hinX3 hown hK hP 6 rfl rfl 2 (by decide) (v := .int (O.1 0 2)) (va_Nw.use rfl (hN _ (List.mem_of_getElem? (i := 16) rfl))) (fun _ h9 => h9) rfl dX8_readOne_155 ?_
              obtain ⟨v28, Nv29, Rv30, hq27, hf⟩ := bo3_e hf
              have hEc := cE_sub (A1 := va_A (ww_X8_readNamed cs ad raN raR (raO 7) raT xR 8 nT zD zD (fun _ => 0) (fun _ => 0)) _) hE hS (cA_free (isC := [0, 1, 2, 3, 4, 5, 10, 14]) (wc := (ww_X8_readNamed cs ad raN raR (raO 7) raT xR 8 nT Nv10 Rv12 (O.2 7) T)) (wz := (ww_X8_readNamed cs ad raN raR (raO 7) raT xR 8 nT zD zD (fun _ => 0) (fun _ => 0))) rfl rfl hD hS hA)
              refine g_callw (isC := [0, 1, 2, 3, 4, 5, 10, 14]) (isR := [6, 7, 8, 9, 11, 12, 13]) (wc := (ww_X8_readNamed cs ad raN raR (raO 7) raT xR 8 nT Nv10 Rv12 (O.2 7) T)) (wz := (ww_X8_readNamed cs ad raN raR (raO 7) raT xR 8 nT zD zD (fun _ => 0) (fun _ => 0))) (w1 := (ww_X8_readNamed cs ad raN raR (raO 7) raT xR 8 nT Nv29 Rv30 (O.2 7) T)) (ws' := (ww_X8_readOne cs ad raN raR raO raT xR nT Nv29 Rv30 O T)) (v := v28) (va_runV (As := [.ref (raR 0), .ref (ad x5_33.toNatClampNeg), .ref (raO 7), .int (O.1 0 2)]) (rest := []) ⟨hx, hb, hml, hown, hts⟩ (c_X8_readNamed l dC dI cs ad raN raR (raO 7) raT xR 8 nT _ Nv10 Rv12 (O.2 7) T x5_33 (O.1 0 2) (v28, Nv29, Rv30) hq27) (cwV 4 hts gX8_readOne_X8_readNamed rfl rfl rfl (by decide +kernel) ⟨(show 6 + 1 ≤ 12 + 3 * (nn + 1) by omega), (show 8 + (6 + 11) + 166 ≤ 400 + 600 * (nn + 1) by omega)⟩) ⟨fun a U g mk q => ⟨q.1, (fun _ _ _ _ => cPe_bl (fun h => cPw_bl h)) a U g mk q.2⟩, va_recv hK hP (ci := 9) (q0 := 0) rfl rfl, fun U hU hW => ⟨rfl, ⟨hEc U hU hW, ⟨by rw [hU], by rw [hU]; exact (hP.sub (ws' := (ww_X8_readNamed cs ad raN raR (raO 7) raT xR 8 nT Nv10 Rv12 (O.2 7) T)) [0, 1, 2, 3, 4, 5, 10, 14] rfl), va_K.moved hW.alike hK, (hD.sub (ws' := (ww_X8_readNamed cs ad raN raR (raO 7) raT xR 8 nT Nv10 Rv12 (O.2 7) T)) [0, 1, 2, 3, 4, 5, 10, 14] (by decide) rfl).weaken (fun _ _ _ _ => trivial), kN_warm hW hN⟩⟩⟩⟩ rfl rfl hl.1 rfl (lv_room (Nat.le_of_ble_eq_true rfl)) dX8_readOne_158 ⟨Nat.le_refl _, Nat.le_refl _⟩) hP hD hS hA rfl rfl (wr := ([(raO 0, .inr (4, fX3 ad raO O)), (raO 4, .inl (cs 2, 6, .inr (.inl (O.2 4)))), (raO 5, .inl (cs 1, 6, .inl (O.1 5))), (raO 6, .inl (cs 1, 6, .inl (O.1 6))), (raO 8, .inl (cs 1, 8, .inl (O.1 8))), (raO 9, .inl (cs 1, 8, .inl (O.1 9))), (raO 10, .inl (cs 1, 8, .inl (O.1 10)))])) rfl rfl rfl (nw := 15) rfl (by decide +kernel) rfl (fun H locs hP hD hS => ?_)
              obtain ⟨hc31, hf⟩ := ck_e hf
              have hf := Option.some.inj hf
              subst hf
              exact c_zret (v := v28) hx hb hr (kt_z (Decidable.not_not.mp hc31)) hlocks hP hK hD hS dX8_readOne_161
          · have hf := (if_pos hb42).symm.trans hf
            refine lv_aload_n hx hb dX8_readOne_108 rfl (lv_at hl 0 rfl) ?_
            refine lv_aload_n hx hb dX8_readOne_109 rfl (lv_at hl 1 rfl) ?_
            refine lv_aload_n hx hb dX8_readOne_110 rfl (lv_at hl 2 rfl) ?_
            refine lv_iload_n hx hb dX8_readOne_111 rfl (lv_at hl 3 rfl) ?_
            refine lv_iconst (v := 1) hx hb dX8_readOne_112 (by decide) ?_
            refine lv_iadd hx hb dX8_readOne_113 ?_
            obtain ⟨v34, Nv35, Rv36, hq33, hf⟩ := bo3_e hf
            have hEc := cE_sub (A1 := va_A (ww_X8_readOne cs ad raN raR raO raT xR nT zD zD zD (fun _ => 0)) _) hE hS (cA_free (isC := [0, 1, 2, 3, 4, 5, 6, 7, 8, 9, 10, 11, 12, 13, 14]) (wc := (ww_X8_readOne cs ad raN raR raO raT xR nT Nv10 Rv12 O T)) (wz := (ww_X8_readOne cs ad raN raR raO raT xR nT zD zD zD (fun _ => 0))) rfl rfl hD hS hA)
            refine g_callw (isC := [0, 1, 2, 3, 4, 5, 6, 7, 8, 9, 10, 11, 12, 13, 14]) (isR := []) (wc := (ww_X8_readOne cs ad raN raR raO raT xR nT Nv10 Rv12 O T)) (wz := (ww_X8_readOne cs ad raN raR raO raT xR nT zD zD zD (fun _ => 0))) (w1 := (ww_X8_readOne cs ad raN raR raO raT xR nT Nv35 Rv36 O T)) (ws' := (ww_X8_readOne cs ad raN raR raO raT xR nT Nv35 Rv36 O T)) (v := v34) (va_runV (As := [.ref (raR 0), .ref (raO 0), .int (x3_33 + (1 : Int32))]) (rest := []) ⟨hx, hb, hml, hown, hts⟩ (hfO raN raR raO raT xR nT _ Nv10 Rv12 O T (x3_33 + (1 : Int32)) (v34, Nv35, Rv36) hq33) (cwV 3 hts gX8_readOne_X8_readOne rfl rfl rfl (by decide +kernel) ⟨(show (12 + 3 * nn) + 1 ≤ 12 + 3 * (nn + 1) by omega), (show 8 + (6 + 11) + (400 + 600 * nn) ≤ 400 + 600 * (nn + 1) by omega)⟩) ⟨fun a U g mk q => ⟨q.1, (fun _ _ _ _ => cPe_bl (fun h => cPw_bl h)) a U g mk q.2⟩, va_recv hK hP (ci := 9) (q0 := 0) rfl rfl, fun U hU hW => ⟨rfl, ⟨hEc U hU hW, ⟨by rw [hU], by rw [hU]; exact (hP.sub (ws' := (ww_X8_readOne cs ad raN raR raO raT xR nT Nv10 Rv12 O T)) [0, 1, 2, 3, 4, 5, 6, 7, 8, 9, 10, 11, 12, 13, 14] rfl), va_K.moved hW.alike hK, (hD.sub (ws' := (ww_X8_readOne cs ad raN raR raO raT xR nT Nv10 Rv12 O T)) [0, 1, 2, 3, 4, 5, 6, 7, 8, 9, 10, 11, 12, 13, 14] (by decide) rfl).weaken (fun _ _ _ _ => trivial), kN_warm hW hN⟩⟩⟩⟩ rfl rfl hl.1 rfl (lv_room (Nat.le_of_ble_eq_true rfl)) dX8_readOne_114 ⟨Nat.le_refl _, Nat.le_refl _⟩) hP hD hS hA rfl rfl (wr := ([] : va_W)) rfl rfl rfl (nw := 15) rfl (by decide +kernel) rfl (fun H locs hP hD hS => ?_)
            refine lv_if_eq (tgt := 136) hx hb dX8_readOne_117 (by decide) (fun hb41 => ?_) (fun hb41 => ?_)
            · have hf := (if_pos hb41).symm.trans hf
              refine lv_iconst (v := 0) hx hb dX8_readOne_136 (by decide) ?_
              have hf := Option.some.inj hf
              subst hf
              exact c_zret (v := (0 : Int32)) hx hb hr rfl hlocks hP hK hD hS dX8_readOne_137
            · have hf := (if_neg hb41).symm.trans hf
              refine lv_aload_n hx hb dX8_readOne_120 rfl (lv_at hl 0 rfl) ?_
              refine va_gets hx hb (show va_Z "KeyLetters$Word" "NOT" "LKeyLetters$Word;" (.ref (ad 13)) _ s s.heap from (hE.1.1 13 (by decide)).1) hS hown kfieldLink_RX8_88__KeyLetters_Word___NOT___LKeyLetters_Word__ (fun _ h9 => h9) dX8_readOne_121 ?_
              refine lv_iconst (v := 0) hx hb dX8_readOne_124 (by decide) ?_
              refine lv_iconst (v := 0) hx hb dX8_readOne_125 (by decide) ?_
              obtain ⟨v38, Nv39, hq37, hf⟩ := bo2_e hf
              have hEc := cE_sub (A1 := va_A (ww_X8_keepWord cs ad raN zD) _) hE hS (cA_free (isC := [0, 1, 2, 3, 4]) (wc := (ww_X8_keepWord cs ad raN Nv35)) (wz := (ww_X8_keepWord cs ad raN zD)) rfl rfl hD hS hA)
              refine g_callw (isC := [0, 1, 2, 3, 4]) (isR := [5, 6, 7, 8, 9, 10, 11, 12, 13, 14]) (wc := (ww_X8_keepWord cs ad raN Nv35)) (wz := (ww_X8_keepWord cs ad raN zD)) (w1 := (ww_X8_keepWord cs ad raN Nv39)) (ws' := (ww_X8_readOne cs ad raN raR raO raT xR nT Nv39 Rv36 O T)) (v := v38) (va_runV (As := [.ref (ad (13 : Int32).toNatClampNeg), .int (0 : Int32), .int (0 : Int32)]) (rest := []) ⟨hx, hb, hml, hown, hts⟩ (c_X8_keepWord l dC dI cs ad raN _ Nv35 (13 : Int32) (0 : Int32) (0 : Int32) (v38, Nv39) hq37) (cwV 3 hts gX8_readOne_X8_keepWord rfl rfl rfl (by decide +kernel) ⟨(show 0 + 1 ≤ 12 + 3 * (nn + 1) by omega), (show 8 + (4 + 11) + 0 ≤ 400 + 600 * (nn + 1) by omega)⟩) ⟨fun a U g mk q => ⟨q.1, (fun _ _ _ _ => cPe_bl (fun h => cPw_bl h)) a U g mk q.2⟩, va_recv hK hP (ci := 9) (q0 := 0) rfl rfl, fun U hU hW => ⟨rfl, ⟨hEc U hU hW, ⟨by rw [hU], by rw [hU]; exact (hP.sub (ws' := (ww_X8_keepWord cs ad raN Nv35)) [0, 1, 2, 3, 4] rfl), va_K.moved hW.alike hK, (hD.sub (ws' := (ww_X8_keepWord cs ad raN Nv35)) [0, 1, 2, 3, 4] (by decide) rfl).weaken (fun _ _ _ _ => trivial), kN_warm hW hN⟩⟩⟩⟩ rfl rfl hl.1 rfl (lv_room (Nat.le_of_ble_eq_true rfl)) dX8_readOne_126 ⟨Nat.le_refl _, Nat.le_refl _⟩) hP hD hS hA rfl rfl (wr := ((wX4 cs ad raR xR raT Rv36) ++ ((wX3 cs ad raO O) ++ (([(raT, .inl (cs 1, nT, .inl T))]))))) rfl rfl rfl (nw := 15) rfl (by decide +kernel) rfl (fun H locs hP hD hS => ?_)
              refine lv_if_eq (tgt := 136) hx hb dX8_readOne_129 (by decide) (fun hb40 => ?_) (fun hb40 => ?_)
              · have hf := (if_pos hb40).symm.trans hf
                refine lv_iconst (v := 0) hx hb dX8_readOne_136 (by decide) ?_
                have hf := Option.some.inj hf
                subst hf
                exact c_zret (v := (0 : Int32)) hx hb hr rfl hlocks hP hK hD hS dX8_readOne_137
              · have hf := (if_neg hb40).symm.trans hf
                refine lv_iconst (v := 1) hx hb dX8_readOne_132 (by decide) ?_
                refine lv_goto (tgt := 137) hx hb dX8_readOne_133 (by decide) ?_
                have hf := Option.some.inj hf
                subst hf
                exact c_zret (v := (1 : Int32)) hx hb hr rfl hlocks hP hK hD hS dX8_readOne_137
        · have hf := (if_neg hb52).symm.trans hf
          refine lv_aload_n hx hb dX8_readOne_73 rfl (lv_at hl 0 rfl) ?_
          refine lv_aload_n hx hb dX8_readOne_74 rfl (lv_at hl 1 rfl) ?_
          refine lv_aload_n hx hb dX8_readOne_75 rfl (lv_at hl 2 rfl) ?_
          refine lv_iload_n hx hb dX8_readOne_76 rfl (lv_at hl 3 rfl) ?_
          refine lv_iconst (v := 1) hx hb dX8_readOne_77 (by decide) ?_
          refine lv_iadd hx hb dX8_readOne_78 ?_
          obtain ⟨v44, Nv45, Rv46, hq43, hf⟩ := bo3_e hf
          have hEc := cE_sub (A1 := va_A (ww_X8_readCond cs ad raN raR raO raT xR nT zD zD zD (fun _ => 0)) _) hE hS (cA_free (isC := [0, 1, 2, 3, 4, 5, 6, 7, 8, 9, 10, 11, 12, 13, 14]) (wc := (ww_X8_readCond cs ad raN raR raO raT xR nT Nv10 Rv12 O T)) (wz := (ww_X8_readCond cs ad raN raR raO raT xR nT zD zD zD (fun _ => 0))) rfl rfl hD hS hA)
          refine g_callw (isC := [0, 1, 2, 3, 4, 5, 6, 7, 8, 9, 10, 11, 12, 13, 14]) (isR := []) (wc := (ww_X8_readCond cs ad raN raR raO raT xR nT Nv10 Rv12 O T)) (wz := (ww_X8_readCond cs ad raN raR raO raT xR nT zD zD zD (fun _ => 0))) (w1 := (ww_X8_readCond cs ad raN raR raO raT xR nT Nv45 Rv46 O T)) (ws' := (ww_X8_readOne cs ad raN raR raO raT xR nT Nv45 Rv46 O T)) (v := v44) (va_runV (As := [.ref (raR 0), .ref (raO 0), .int (x3_33 + (1 : Int32))]) (rest := []) ⟨hx, hb, hml, hown, hts⟩ (hfC raN raR raO raT xR nT _ Nv10 Rv12 O T (x3_33 + (1 : Int32)) (v44, Nv45, Rv46) hq43) (cwV 3 hts gX8_readOne_X8_readCond rfl rfl rfl (by decide +kernel) ⟨(show (14 + 3 * nn) + 1 ≤ 12 + 3 * (nn + 1) by omega), (show 8 + (5 + 11) + (800 + 600 * nn) ≤ 400 + 600 * (nn + 1) by omega)⟩) ⟨fun a U g mk q => ⟨q.1, (fun _ _ _ _ => cPe_bl (fun h => cPw_bl h)) a U g mk q.2⟩, va_recv hK hP (ci := 9) (q0 := 0) rfl rfl, fun U hU hW => ⟨rfl, ⟨hEc U hU hW, ⟨by rw [hU], by rw [hU]; exact (hP.sub (ws' := (ww_X8_readCond cs ad raN raR raO raT xR nT Nv10 Rv12 O T)) [0, 1, 2, 3, 4, 5, 6, 7, 8, 9, 10, 11, 12, 13, 14] rfl), va_K.moved hW.alike hK, (hD.sub (ws' := (ww_X8_readCond cs ad raN raR raO raT xR nT Nv10 Rv12 O T)) [0, 1, 2, 3, 4, 5, 6, 7, 8, 9, 10, 11, 12, 13, 14] (by decide) rfl).weaken (fun _ _ _ _ => trivial), kN_warm hW hN⟩⟩⟩⟩ rfl rfl hl.1 rfl (lv_room (Nat.le_of_ble_eq_true rfl)) dX8_readOne_79 ⟨Nat.le_refl _, Nat.le_refl _⟩) hP hD hS hA rfl rfl (wr := ([] : va_W)) rfl rfl rfl (nw := 15) rfl (by decide +kernel) rfl (fun H locs hP hD hS => ?_)
          refine lv_if_eq (tgt := 98) hx hb dX8_readOne_82 (by decide) (fun hb51 => ?_) (fun hb51 => ?_)
          · have hf := (if_pos hb51).symm.trans hf
            refine lv_iconst (v := 0) hx hb dX8_readOne_98 (by decide) ?_
            have hf := Option.some.inj hf
            subst hf
            exact c_zret (v := (0 : Int32)) hx hb hr rfl hlocks hP hK hD hS dX8_readOne_99
          · have hf := (if_neg hb51).symm.trans hf
            refine lv_aload_n hx hb dX8_readOne_85 rfl (lv_at hl 1 rfl) ?_
            refine lv_bipush (v := 41) hx hb dX8_readOne_86 (by decide) ?_
            obtain ⟨v48, Rv49, hq47, hf⟩ := bo2_e hf
            have hEc := cE_sub (A1 := va_A (ww_X4_passSign cs ad raR raT xR nT zD (fun _ => 0)) _) hE hS (cA_free (isC := [5, 14]) (wc := (ww_X4_passSign cs ad raR raT xR nT Rv46 T)) (wz := (ww_X4_passSign cs ad raR raT xR nT zD (fun _ => 0))) rfl rfl hD hS hA)
            refine g_callw (isC := [5, 14]) (isR := [0, 1, 2, 3, 4, 6, 7, 8, 9, 10, 11, 12, 13]) (wc := (ww_X4_passSign cs ad raR raT xR nT Rv46 T)) (wz := (ww_X4_passSign cs ad raR raT xR nT zD (fun _ => 0))) (w1 := (ww_X4_passSign cs ad raR raT xR nT Rv49 T)) (ws' := (ww_X8_readOne cs ad raN raR raO raT xR nT Nv45 Rv49 O T)) (v := v48) (va_runVN (As := [.int (41 : Int32)]) (rest := []) ⟨hx, hb, hml, hown, hts⟩ (c_X4_passSign l dC dI cs ad raR raT xR nT _ Rv46 T (41 : Int32) (v48, Rv49) hq47) ⟨va_cnB 1 hts gX8_readOne_X4_passSign_n85 rfl rfl rfl (hN _ (List.mem_of_getElem? (i := 137) rfl)) k_initialized_RX4 (by decide +kernel) ⟨(show 6 + 1 ≤ 12 + 3 * (nn + 1) by omega), (show 8 + (2 + 11) + 166 ≤ 400 + 600 * (nn + 1) by omega)⟩, k_instanceMethod_yX4_passSign, k_selects_RX4_yX4_passSign_yX4_passSign⟩ ⟨fun a U g mk q => ⟨q.1, (fun _ _ _ _ => cPe_bl (fun h => cPw_bl h)) a U g mk q.2⟩, va_recv hK hP (ci := 5) (q0 := 5) rfl rfl, fun U hU hW => ⟨rfl, ⟨hEc U hU hW, ⟨by rw [hU], by rw [hU]; exact (hP.sub (ws' := (ww_X4_passSign cs ad raR raT xR nT Rv46 T)) [5, 14] rfl), va_K.moved hW.alike hK, (hD.sub (ws' := (ww_X4_passSign cs ad raR raT xR nT Rv46 T)) [5, 14] (by decide) rfl).weaken (fun _ _ _ _ => trivial), kN_warm hW hN⟩⟩⟩⟩ rfl rfl hl.1 rfl (lv_room (Nat.le_of_ble_eq_true rfl)) dX8_readOne_88 ⟨Nat.le_refl _, Nat.le_refl _⟩) hP hD hS hA rfl rfl (wr := ((wX8 cs ad raN Nv45) ++ ((wX3 cs ad raO O)))) rfl rfl rfl (nw := 15) rfl (by decide +kernel) rfl (fun H locs hP hD hS => ?_)
            refine lv_if_eq (tgt := 98) hx hb dX8_readOne_91 (by decide) (fun hb50 => ?_) (fun hb50 => ?_)
            · have hf := (if_pos hb50).symm.trans hf
              refine lv_iconst (v := 0) hx hb dX8_readOne_98 (by decide) ?_
              have hf := Option.some.inj hf
              subst hf
              exact c_zret (v := (0 : Int32)) hx hb hr rfl hlocks hP hK hD hS dX8_readOne_99
            · have hf := (if_neg hb50).symm.trans hf
              refine lv_iconst (v := 1) hx hb dX8_readOne_94 (by decide) ?_
              refine lv_goto (tgt := 99) hx hb dX8_readOne_95 (by decide) ?_
              have hf := Option.some.inj hf
              subst hf
              exact c_zret (v := (1 : Int32)) hx hb hr rfl hlocks hP hK hD hS dX8_readOne_99
      · have hf := (if_neg hb53).symm.trans hf
        exact h_48 N_33 R_33 ls _ _ (lv_sub hl [1] rfl) hP hD hS hf
  refine lv_aload_n hx hb dX8_readOne_0 rfl (lv_at hl 1 rfl) ?_
  refine lv_bipush (v := 40) hx hb dX8_readOne_1 (by decide) ?_
  refine ko_call (v := some (.int (f_X4_seesSign (40 : Int32) nT R T))) (va_runVN (As := [.int (40 : Int32)]) (rest := []) ⟨hx, hb, hml, hown, hts⟩ (c_X4_seesSign l dC dI cs ad raR raT xR nT R T (40 : Int32) _ rfl) ⟨va_cnB 1 hts gX8_readOne_X4_seesSign_n71 rfl rfl rfl (hN _ (List.mem_of_getElem? (i := 134) rfl)) k_initialized_RX4 (by decide +kernel) ⟨(show 0 + 1 ≤ 12 + 3 * (nn + 1) by omega), (show 8 + (2 + 11) + 0 ≤ 400 + 600 * (nn + 1) by omega)⟩, k_instanceMethod_yX4_seesSign, k_selects_RX4_yX4_seesSign_yX4_seesSign⟩ ⟨fun a U g mk q => ⟨q.1, (fun _ _ _ _ => cPr_bl) a U g mk q.2⟩, va_recv hK hP (ci := 5) (q0 := 5) rfl rfl, fun U hU hW => ⟨rfl, ⟨by rw [hU]; exact (hP.sub (ws' := (ww_X4_seesSign cs ad raR raT xR nT R T)) [5, 14] rfl), va_K.moved hW.alike hK, kN_warm hW hN⟩⟩⟩ rfl rfl hl.1 rfl (lv_room (Nat.le_of_ble_eq_true rfl)) dX8_readOne_3 ⟨Nat.le_refl _, Nat.le_refl _⟩) ?_
  obtain ⟨v55, ev55, hf⟩ := bd1_e hf
  refine kt_i ev55 ?_
  refine lv_istore (nL := 6) (lv' := [(4, .int v55), (0, .ref (raN 0)), (1, .ref (raR 0)), (2, .ref (raO 0)), (3, .int a2)]) hx hb dX8_readOne_6 hl (by decide) rfl (fun ls hl => ?_)
  refine lv_aload_n hx hb dX8_readOne_8 rfl (lv_at hl 2 rfl) ?_
  refine va_getN (D := (dC, dI)) (ci := 5) (C := RX4) (T := TX4) (N := 11) hx hb hts hinX4 hown hK hP 5 rfl rfl 6 (by decide) (v := va_rf (kW ad (R.1 0 6))) (va_Nw.use rfl (hN _ (List.mem_of_getElem? (i := 1) rfl))) (fun _ h9 => h9) rfl dX8_readOne_9 ?_
  obtain ⟨hc56, hf⟩ := ck_e hf
  rw [kW_in ad hc56]
  refine lv_astore (nL := 6) (lv' := [(5, .ref (ad (R.1 0 6).toNatClampNeg)), (4, .int v55), (0, .ref (raN 0)), (1, .ref (raR 0)), (2, .ref (raO 0)), (3, .int a2)]) hx hb dX8_readOne_12 hl (by decide) rfl (fun ls hl => ?_)
  refine lv_iload hx hb dX8_readOne_14 (lv_at hl 1 rfl) ?_
  refine lv_if_ne (tgt := 33) hx hb dX8_readOne_16 (by decide) (fun hb62 => ?_) (fun hb62 => ?_)
  · have hf := (if_neg hb62).symm.trans hf
    exact h_33 a2 v55 (R.1 0 6) N R ls _ _ (lv_sub hl [2, 3, 4, 5, 1, 0] rfl) hP hD hS hf
  · have hf := (if_pos hb62).symm.trans hf
    refine lv_aload hx hb dX8_readOne_19 (lv_at hl 0 rfl) ?_
    refine ke_beg (x := (R.1 0 6)) hE hc56 hS hown (va_Nw.use rfl (hN _ (List.mem_of_getElem? (i := 157) rfl))) hx hb dX8_readOne_21 ?_
    refine lv_if_ne (tgt := 33) hx hb dX8_readOne_24 (by decide) (fun hb61 => ?_) (fun hb61 => ?_)
    · have hf := (if_neg hb61).symm.trans hf
      exact h_33 a2 v55 (R.1 0 6) N R ls _ _ (lv_sub hl [2, 3, 4, 5, 1, 0] rfl) hP hD hS hf
    · have hf := (if_pos hb61).symm.trans hf
      refine lv_aload_n hx hb dX8_readOne_27 rfl (lv_at hl 3 rfl) ?_
      refine lv_iconst (v := 1) hx hb dX8_readOne_28 (by decide) ?_
      obtain ⟨v58, Rv59, hq57, hf⟩ := bo2_e hf
      refine g_callw (isC := [5, 14]) (isR := [0, 1, 2, 3, 4, 6, 7, 8, 9, 10, 11, 12, 13]) (wc := (ww_X4_refuse cs ad raR raT xR nT R T)) (wz := (ww_X4_refuse cs ad raR raT xR nT zD (fun _ => 0))) (w1 := (ww_X4_refuse cs ad raR raT xR nT Rv59 T)) (ws' := (ww_X8_readOne cs ad raN raR raO raT xR nT N Rv59 O T)) (v := v58) (va_runVN (As := [.int (1 : Int32)]) (rest := []) ⟨hx, hb, hml, hown, hts⟩ (c_X4_refuse l dC dI cs ad raR raT xR nT _ R T (1 : Int32) (v58, Rv59) hq57) ⟨va_cnB 1 hts gX8_readOne_X4_refuse_n82 rfl rfl rfl (hN _ (List.mem_of_getElem? (i := 135) rfl)) k_initialized_RX4 (by decide +kernel) ⟨(show 0 + 1 ≤ 12 + 3 * (nn + 1) by omega), (show 8 + (2 + 11) + 0 ≤ 400 + 600 * (nn + 1) by omega)⟩, k_instanceMethod_yX4_refuse, k_selects_RX4_yX4_refuse_yX4_refuse⟩ ⟨fun a U g mk q => ⟨q.1, (fun _ _ _ _ => cPw_bl) a U g mk q.2⟩, va_recv hK hP (ci := 5) (q0 := 5) rfl rfl, fun U hU hW => ⟨rfl, ⟨by rw [hU], by rw [hU]; exact (hP.sub (ws' := (ww_X4_refuse cs ad raR raT xR nT R T)) [5, 14] rfl), va_K.moved hW.alike hK, (hD.sub (ws' := (ww_X4_refuse cs ad raR raT xR nT R T)) [5, 14] (by decide) rfl).weaken (fun _ _ _ _ => trivial), kN_warm hW hN⟩⟩⟩ rfl rfl hl.1 rfl (lv_room (Nat.le_of_ble_eq_true rfl)) dX8_readOne_29 ⟨Nat.le_refl _, Nat.le_refl _⟩) hP hD hS hA rfl rfl (wr := ((wX8 cs ad raN N) ++ ((wX3 cs ad raO O)))) rfl rfl rfl (nw := 15) rfl (by decide +kernel) rfl (fun H locs hP hD hS => ?_)
      obtain ⟨hc60, hf⟩ := ck_e hf
      have hf := Option.some.inj hf
      subst hf
      exact c_zret (v := v58) hx hb hr (kt_z (Decidable.not_not.mp hc60)) hlocks hP hK hD hS dX8_readOne_32
set_option maxHeartbeats 4000000 in
set_option maxRecDepth 100000 in
theorem c_X8_rO (l : Launch) (dC : Nat → ClassId) (dI : Nat → Nat → Nat) (cs : Nat → ClassId) (ad : Nat → Nat) : ∀ nn : Nat, ∀ (raN : Nat → Nat) (raR : Nat → Nat) (raO : Nat → Nat) (raT : Nat) (xR : Nat) (nT : Nat) (sz : Nat) (N : kD) (R : kD) (O : kD) (T : Nat → Int32) (a2 : Int32) (r : Int32 × kD × kD) (hf : f_X8_rO nn a2 nT N R O T = some r), Met l yX8_readOne wsX8_readOne (rm_X8_readOne nn) (va_Pc [.ref (raN 0), .ref (raR 0), .ref (raO 0), .int a2] (cPe ad (va_A (ww_X8_readOne cs ad raN raR raO raT xR nT zD zD zD (fun _ => 0)) sz) (cPw dC dI cs sz (ww_X8_readOne cs ad raN raR raO raT xR nT N R O T)))) (cQi dC dI cs (va_A (ww_X8_readOne cs ad raN raR raO raT xR nT zD zD zD (fun _ => 0)) sz) r.1 (ww_X8_readOne cs ad raN raR raO raT xR nT r.2.1 r.2.2 O T)) 0 0 (va_A (ww_X8_readOne cs ad raN raR raO raT xR nT zD zD zD (fun _ => 0)) sz) := by
  intro nn
  induction nn with
  | zero =>
    intros
    rename_i hf
    cases hf
  | succ nn ih =>
    exact c_X8_readOne_open l dC dI cs ad nn (F_X8_readCond (F_X8_readAll (f_X8_rO nn))) (f_X8_rO nn) (c_X8_readCond_open l dC dI cs ad nn (F_X8_readAll (f_X8_rO nn)) (c_X8_readAll_open l dC dI cs ad nn (f_X8_rO nn) ih)) ih
set_option maxHeartbeats 4000000 in
set_option maxRecDepth 100000 in
theorem c_X8_readCond (l : Launch) (dC : Nat → ClassId) (dI : Nat → Nat → Nat) (cs : Nat → ClassId) (ad : Nat → Nat) : ∀ (raN : Nat → Nat) (raR : Nat → Nat) (raO : Nat → Nat) (raT : Nat) (xR : Nat) (nT : Nat) (sz : Nat) (N : kD) (R : kD) (O : kD) (T : Nat → Int32) (a2 : Int32) (r : Int32 × kD × kD) (hf : f_X8_readCond a2 nT N R O T = some r), Met l yX8_readCond wsX8_readCond (rm_X8_readCond 12) (va_Pc [.ref (raN 0), .ref (raR 0), .ref (raO 0), .int a2] (cPe ad (va_A (ww_X8_readCond cs ad raN raR raO raT xR nT zD zD zD (fun _ => 0)) sz) (cPw dC dI cs sz (ww_X8_readCond cs ad raN raR raO raT xR nT N R O T)))) (cQi dC dI cs (va_A (ww_X8_readCond cs ad raN raR raO raT xR nT zD zD zD (fun _ => 0)) sz) r.1 (ww_X8_readCond cs ad raN raR raO raT xR nT r.2.1 r.2.2 O T)) 0 0 (va_A (ww_X8_readCond cs ad raN raR raO raT xR nT zD zD zD (fun _ => 0)) sz) := c_X8_readCond_open l dC dI cs ad 12 (F_X8_readAll (f_X8_rO 12)) (c_X8_readAll_open l dC dI cs ad 12 (f_X8_rO 12) (c_X8_rO l dC dI cs ad 12))

