abbrev rm_X12_faint : Room := { frames := 3, cells := 0, slots := 0, locals := 73 }
set_option maxHeartbeats 4000000 in
set_option maxRecDepth 100000 in
theorem c_X12_faint (l : Launch) (dC : Nat → ClassId) (dI : Nat → Nat → Nat) (cB cI cJ cZ : ClassId) (ra : Nat → Nat) (sz : Nat) (M : kD)  (r : (Int32 × kD)) (hf : f_X12_faint  M = some r) : Met l yX12_faint wsX12_faint rm_X12_faint (va_Pc [.ref (ra 0)] (mPw dC dI cB cI cJ cZ ra sz M)) (mQi dC dI cB cI cJ cZ ra sz r) 0 0 (mA ra sz) := by
  refine Met.ofW (cc := cX12_faint) (maxL := 3) (ret := (some .int)) (by decide) rfl ?_
  intro p e s m args below meth c s₁ B hml hv
  obtain ⟨hav, hsz, hP, hK, hD0⟩ := hv
  have hx := B.exec
  have hb := B.bytes
  have hr := B.returns
  have hts := atoms_spec (ws := wsX12_faint) B.pre
  have hown : s.vm.findClass RX12 = some m.cls := findClass_of_methodNamed B.named
  have hlocks := B.notSynchronized
  subst hsz
  have hA : ∀ q, s.heap.size ≤ q → mA ra s.heap.size q := fun q h => Or.inr h
  have hD : va_D (mA ra s.heap.size) (mw cB cI cJ cZ ra M) := hD0.weaken (fun k q h _ => mA_in h)
  have hS : va_S (mA ra s.heap.size) s.heap s.heap [] := va_S.rf
  have hin : ∀ w ∈ wsX120, w ∈ wsX12_faint := fun w h => List.mem_cons_of_mem _ (List.mem_append_right _ h)
  have k_fieldLink_RX12_18__KeyLettersModel___size___I_ := hts (.fieldLink RX12 18 "KeyLettersModel" "size" "I") (by decide +kernel)
  have k_fieldLink_RX12_1__KeyLettersModel___thrown___I_ := hts (.fieldLink RX12 1 "KeyLettersModel" "thrown" "I") (by decide +kernel)
  have k_fieldLink_RX12_33__KeyLettersModel___s____I_ := hts (.fieldLink RX12 33 "KeyLettersModel" "s" "[I") (by decide +kernel)
  have k_fieldLink_RX12_360__KeyLettersModel___hasFaint___Z_ := hts (.fieldLink RX12 360 "KeyLettersModel" "hasFaint" "Z") (by decide +kernel)
  have k_fieldLink_RX12_364__KeyLettersModel___lookPlace___I_ := hts (.fieldLink RX12 364 "KeyLettersModel" "lookPlace" "I") (by decide +kernel)
  have hl := lv_entry ([.ref (ra 0)]) (n := 3) (Nat.le_of_ble_eq_true rfl)
  rw [show entryFrame m args 3 = entryFrame m ([.ref (ra 0)] : List Value).toArray 3 from by rw [hav], lg_entry_eq]
  generalize (lg_sl ([.ref (ra 0)]) ++ List.replicate (3 - (lg_sl ([.ref (ra 0)])).length) Slot.unset).toArray = ls at hl ⊢
  have hl : lv_has ls 3 [(0, .ref (ra 0))] := hl
  unfold f_X12_faint at hf
  have h_70 : ∀ (M_70 : kD) (ls : Array Slot) (H : Heap) (locs : List Loc), lv_has ls 3 [(0, .ref (ra 0))] → va_P (dC, dI) vwCl (mw cB cI cJ cZ ra M_70) H → va_D (mA ra s.heap.size) (mw cB cI cJ cZ ra M_70) → va_S (mA ra s.heap.size) s.heap H locs → g_X12_faint_70  M_70 = some r → W p l e (headSpec wsX12_faint rm_X12_faint).room s m args below meth c H locs 0 0 (MQ below (mQi dC dI cB cI cJ cZ ra s.heap.size r) args s 0 0 (mA ra s.heap.size)) (F0 m 70 ls []) := by
    intro  M_70 ls H locs hl hP hD hS hf
    unfold g_X12_faint_70 at hf
    have h_108 : ∀ (x1_108 : Int32) (M_108 : kD) (ls : Array Slot) (H : Heap) (locs : List Loc), lv_has ls 3 [(0, .ref (ra 0)), (1, .int x1_108)] → va_P (dC, dI) vwCl (mw cB cI cJ cZ ra M_108) H → va_D (mA ra s.heap.size) (mw cB cI cJ cZ ra M_108) → va_S (mA ra s.heap.size) s.heap H locs → g_X12_faint_108 x1_108 M_108 = some r → W p l e (headSpec wsX12_faint rm_X12_faint).room s m args below meth c H locs 0 0 (MQ below (mQi dC dI cB cI cJ cZ ra s.heap.size r) args s 0 0 (mA ra s.heap.size)) (F0 m 108 ls []) := by
      intro x1_108 M_108 ls H locs hl hP hD hS hf
      unfold g_X12_faint_108 at hf
      have h_126 := lp_ind (z := (fun _ _ _ => none)) (b := (g_X12_faint_126)) (fun (rc_126 : Int32 → Int32 → kD → Option (Int32 × kD)) => ∀ (x1_126 : Int32) (x2_126 : Int32) (M_126 : kD) (ls : Array Slot) (H : Heap) (locs : List Loc), lv_has ls 3 [(0, .ref (ra 0)), (1, .int x1_126), (2, .int x2_126)] → va_P (dC, dI) vwCl (mw cB cI cJ cZ ra M_126) H → va_D (mA ra s.heap.size) (mw cB cI cJ cZ ra M_126) → va_S (mA ra s.heap.size) s.heap H locs → rc_126 x1_126 x2_126 M_126 = some r → W p l e (headSpec wsX12_faint rm_X12_faint).room s m args below meth c H locs 0 0 (MQ below (mQi dC dI cB cI cJ cZ ra s.heap.size r) args s 0 0 (mA ra s.heap.size)) (F0 m 126 ls [])) (by
          intro x1_126 x2_126 M_126 ls H locs hl hP hD hS hf
          cases hf) (by
          intro rc_126 ih_126 x1_126 x2_126 M_126 ls H locs hl hP hD hS hf
          unfold g_X12_faint_126 at hf
          have h_157 : ∀ (x1_157 : Int32) (x2_157 : Int32) (M_157 : kD) (ls : Array Slot) (H : Heap) (locs : List Loc), lv_has ls 3 [(0, .ref (ra 0)), (1, .int x1_157), (2, .int x2_157)] → va_P (dC, dI) vwCl (mw cB cI cJ cZ ra M_157) H → va_D (mA ra s.heap.size) (mw cB cI cJ cZ ra M_157) → va_S (mA ra s.heap.size) s.heap H locs → g_X12_faint_157 rc_126 x1_157 x2_157 M_157 = some r → W p l e (headSpec wsX12_faint rm_X12_faint).room s m args below meth c H locs 0 0 (MQ below (mQi dC dI cB cI cJ cZ ra s.heap.size r) args s 0 0 (mA ra s.heap.size)) (F0 m 157 ls []) := by
            intro x1_157 x2_157 M_157 ls H locs hl hP hD hS hf
            unfold g_X12_faint_157 at hf
            obtain ⟨v1, ev1, hf⟩ := bd1_e hf
            refine lv_iinc (k := 2) (x := x2_157) (v := v1) (nL := 3) (lv' := [(2, .int v1), (0, .ref (ra 0)), (1, .int x1_157)]) hx hb dX12_faint_157 hl rfl (kt_inc (w := 1) (by decide) ev1) (by decide) rfl (fun ls hl => ?_)
            refine lv_goto (tgt := 126) hx hb dX12_faint_160 (by decide) ?_
            exact ih_126 x1_157 v1 M_157 ls _ _ (lv_sub hl [1, 2, 0] rfl) hP hD hS hf
          refine lv_iload_n hx hb dX12_faint_126 rfl (lv_at hl 2 rfl) ?_
          refine lv_aload_n hx hb dX12_faint_127 rfl (lv_at hl 0 rfl) ?_
          refine km_get hx hb hts hin hown hK hP 3 (by decide) (v := .int (M_126.1 0 3)) k_fieldLink_RX12_18__KeyLettersModel___size___I_ rfl dX12_faint_128 ?_
          refine lv_icmp_ge (tgt := 163) hx hb dX12_faint_131 (by decide) (fun hb8 => ?_) (fun hb8 => ?_)
          · have hf := (if_pos hb8).symm.trans hf
            refine lv_iload_n hx hb dX12_faint_163 rfl (lv_at hl 1 rfl) ?_
            have hf := Option.some.inj hf
            subst hf
            exact m_iret hx hb hr hlocks hP hK hD hS dX12_faint_164
          · have hf := (if_neg hb8).symm.trans hf
            refine lv_aload_n hx hb dX12_faint_134 rfl (lv_at hl 0 rfl) ?_
            refine lv_iload_n hx hb dX12_faint_135 rfl (lv_at hl 1 rfl) ?_
            refine lv_iload_n hx hb dX12_faint_136 rfl (lv_at hl 2 rfl) ?_
            obtain ⟨v2, hq3, hf⟩ := bo_e hf
            refine ko_call (v := some (.int v2)) (km_run (As := [.int x1_126, .int x2_126]) (rest := []) ⟨hx, hb, hml, hown, hts⟩ (c_X12_leftBy l dC dI cB cI cJ cZ ra M_126 x1_126 x2_126 v2 hq3) (cwV 2 hts gX12_faint_X12_leftBy rfl rfl rfl (by decide +kernel) ⟨Nat.le_of_ble_eq_true rfl, Nat.le_of_ble_eq_true rfl⟩) hK hP (fun _ _ _ _ => mPr_bl) (fun U hU hW => ⟨by rw [hU]; exact hP, va_K.moved hW.alike hK⟩) rfl rfl hl.1 rfl (lv_room (Nat.le_of_ble_eq_true rfl)) dX12_faint_137 ⟨Nat.le_refl _, Nat.le_refl _⟩) ?_
            refine lv_aload_n hx hb dX12_faint_140 rfl (lv_at hl 0 rfl) ?_
            refine lv_iload_n hx hb dX12_faint_141 rfl (lv_at hl 1 rfl) ?_
            refine lv_aload_n hx hb dX12_faint_142 rfl (lv_at hl 0 rfl) ?_
            refine km_get hx hb hts hin hown hK hP 31 (by decide) (v := .int (M_126.1 0 31)) k_fieldLink_RX12_364__KeyLettersModel___lookPlace___I_ rfl dX12_faint_143 ?_
            obtain ⟨v4, hq5, hf⟩ := bo_e hf
            refine ko_call (v := some (.int v4)) (km_run (As := [.int x1_126, .int (M_126.1 0 31)]) (rest := [.int v2]) ⟨hx, hb, hml, hown, hts⟩ (c_X12_leftBy l dC dI cB cI cJ cZ ra M_126 x1_126 (M_126.1 0 31) v4 hq5) (cwV 2 hts gX12_faint_X12_leftBy rfl rfl rfl (by decide +kernel) ⟨Nat.le_of_ble_eq_true rfl, Nat.le_of_ble_eq_true rfl⟩) hK hP (fun _ _ _ _ => mPr_bl) (fun U hU hW => ⟨by rw [hU]; exact hP, va_K.moved hW.alike hK⟩) rfl rfl hl.1 rfl (lv_room (Nat.le_of_ble_eq_true rfl)) dX12_faint_146 ⟨Nat.le_refl _, Nat.le_refl _⟩) ?_
            refine lv_icmp_ge (tgt := 157) hx hb dX12_faint_149 (by decide) (fun hb7 => ?_) (fun hb7 => ?_)
            · have hf := (if_pos hb7).symm.trans hf
              exact h_157 x1_126 x2_126 M_126 ls _ _ hl hP hD hS hf
            · have hf := (if_neg hb7).symm.trans hf
              refine lv_aload_n hx hb dX12_faint_152 rfl (lv_at hl 0 rfl) ?_
              refine lv_iload_n hx hb dX12_faint_153 rfl (lv_at hl 2 rfl) ?_
              obtain ⟨M6, eM6, hf⟩ := bd1_e hf
              refine km_put hx hb hts hin hown hK hP hD hS 31 (by decide) k_fieldLink_RX12_364__KeyLettersModel___lookPlace___I_ rfl (ty := .int) (v := .int x2_126) (by decide +kernel) rfl rfl (M1 := M6) (by rw [eM6]; exact mo_31 cB cI cJ cZ ra M_126 x2_126) dX12_faint_154 (fun H locs hP hD hS => ?_)
              exact h_157 x1_126 x2_126 M6 ls _ _ hl hP hD hS hf) 2000
      refine lv_iload_n hx hb dX12_faint_108 rfl (lv_at hl 1 rfl) ?_
      refine lv_if_ne (tgt := 114) hx hb dX12_faint_109 (by decide) (fun hb11 => ?_) (fun hb11 => ?_)
      · have hf := (if_neg hb11).symm.trans hf
        refine lv_aload_n hx hb dX12_faint_114 rfl (lv_at hl 0 rfl) ?_
        refine lv_iconst (v := 1) hx hb dX12_faint_115 (by decide) ?_
        obtain ⟨M9, eM9, hf⟩ := bd1_e hf
        refine km_put hx hb hts hin hown hK hP hD hS 32 (by decide) k_fieldLink_RX12_360__KeyLettersModel___hasFaint___Z_ rfl (ty := .boolean) (v := .int (1 : Int32)) (by decide +kernel) rfl rfl (M1 := M9) (by rw [eM9]; exact mo_32 cB cI cJ cZ ra M_108 (1 : Int32)) dX12_faint_116 (fun H locs hP hD hS => ?_)
        refine lv_aload_n hx hb dX12_faint_119 rfl (lv_at hl 0 rfl) ?_
        refine lv_iconst (v := 0) hx hb dX12_faint_120 (by decide) ?_
        obtain ⟨M10, eM10, hf⟩ := bd1_e hf
        refine km_put hx hb hts hin hown hK hP hD hS 31 (by decide) k_fieldLink_RX12_364__KeyLettersModel___lookPlace___I_ rfl (ty := .int) (v := .int (0 : Int32)) (by decide +kernel) rfl rfl (M1 := M10) (by rw [eM10]; exact mo_31 cB cI cJ cZ ra M9 (0 : Int32)) dX12_faint_121 (fun H locs hP hD hS => ?_)
        refine lv_iconst (v := 1) hx hb dX12_faint_124 (by decide) ?_
        refine lv_istore_n (nL := 3) (lv' := [(2, .int (1 : Int32)), (0, .ref (ra 0)), (1, .int x1_108)]) hx hb dX12_faint_125 rfl hl (by decide) rfl (fun ls hl => ?_)
        exact h_126 x1_108 (1 : Int32) M10 ls _ _ (lv_sub hl [1, 2, 0] rfl) hP hD hS hf
      · have hf := (if_pos hb11).symm.trans hf
        refine lv_iconst (v := 0) hx hb dX12_faint_112 (by decide) ?_
        have hf := Option.some.inj hf
        subst hf
        exact m_iret hx hb hr hlocks hP hK hD hS dX12_faint_113
    have h_74 := lp_ind (z := (fun _ _ _ => none)) (b := (g_X12_faint_74)) (fun (rc_74 : Int32 → Int32 → kD → Option (Int32 × kD)) => ∀ (x1_74 : Int32) (x2_74 : Int32) (M_74 : kD) (ls : Array Slot) (H : Heap) (locs : List Loc), lv_has ls 3 [(0, .ref (ra 0)), (1, .int x1_74), (2, .int x2_74)] → va_P (dC, dI) vwCl (mw cB cI cJ cZ ra M_74) H → va_D (mA ra s.heap.size) (mw cB cI cJ cZ ra M_74) → va_S (mA ra s.heap.size) s.heap H locs → rc_74 x1_74 x2_74 M_74 = some r → W p l e (headSpec wsX12_faint rm_X12_faint).room s m args below meth c H locs 0 0 (MQ below (mQi dC dI cB cI cJ cZ ra s.heap.size r) args s 0 0 (mA ra s.heap.size)) (F0 m 74 ls [])) (by
        intro x1_74 x2_74 M_74 ls H locs hl hP hD hS hf
        cases hf) (by
        intro rc_74 ih_74 x1_74 x2_74 M_74 ls H locs hl hP hD hS hf
        unfold g_X12_faint_74 at hf
        have h_100 : ∀ (x2_100 : Int32) (t0_100 : Int32) (t1_100 : Int32) (M_100 : kD) (ls : Array Slot) (H : Heap) (locs : List Loc), lv_has ls 3 [(0, .ref (ra 0)), (2, .int x2_100)] → va_P (dC, dI) vwCl (mw cB cI cJ cZ ra M_100) H → va_D (mA ra s.heap.size) (mw cB cI cJ cZ ra M_100) → va_S (mA ra s.heap.size) s.heap H locs → g_X12_faint_100 rc_74 x2_100 t0_100 t1_100 M_100 = some r → W p l e (headSpec wsX12_faint rm_X12_faint).room s m args below meth c H locs 0 0 (MQ below (mQi dC dI cB cI cJ cZ ra s.heap.size r) args s 0 0 (mA ra s.heap.size)) (F0 m 100 ls [.int t1_100, .int t0_100]) := by
          intro x2_100 t0_100 t1_100 M_100 ls H locs hl hP hD hS hf
          unfold g_X12_faint_100 at hf
          refine lv_ior hx hb dX12_faint_100 ?_
          obtain ⟨v12, ev12, hf⟩ := bd1_e hf
          refine kt_i ev12 ?_
          refine lv_istore_n (nL := 3) (lv' := [(1, .int v12), (0, .ref (ra 0)), (2, .int x2_100)]) hx hb dX12_faint_101 rfl hl (by decide) rfl (fun ls hl => ?_)
          obtain ⟨v13, ev13, hf⟩ := bd1_e hf
          refine lv_iinc (k := 2) (x := x2_100) (v := v13) (nL := 3) (lv' := [(2, .int v13), (1, .int v12), (0, .ref (ra 0))]) hx hb dX12_faint_102 hl rfl (kt_inc (w := 1) (by decide) ev13) (by decide) rfl (fun ls hl => ?_)
          refine lv_goto (tgt := 74) hx hb dX12_faint_105 (by decide) ?_
          exact ih_74 v12 v13 M_100 ls _ _ (lv_sub hl [2, 1, 0] rfl) hP hD hS hf
        refine lv_iload_n hx hb dX12_faint_74 rfl (lv_at hl 2 rfl) ?_
        refine lv_aload_n hx hb dX12_faint_75 rfl (lv_at hl 0 rfl) ?_
        refine km_get hx hb hts hin hown hK hP 6 (by decide) (v := .ref (ra 6)) k_fieldLink_RX12_33__KeyLettersModel___s____I_ rfl dX12_faint_76 ?_
        refine lv_iconst (v := 1) hx hb dX12_faint_79 (by decide) ?_
        refine va_iald hx hb hK hP 2 1 rfl rfl (show ¬ ((1 : Int32) < 0 ∨ 279 ≤ (1 : Int32).toNatClampNeg) by decide +kernel) dX12_faint_80 ?_
        refine lv_icmp_ge (tgt := 108) hx hb dX12_faint_81 (by decide) (fun hb17 => ?_) (fun hb17 => ?_)
        · have hf := (if_pos hb17).symm.trans hf
          exact h_108 x1_74 M_74 ls _ _ (lv_sub hl [0, 1] rfl) hP hD hS hf
        · have hf := (if_neg hb17).symm.trans hf
          refine lv_iload_n hx hb dX12_faint_84 rfl (lv_at hl 1 rfl) ?_
          refine lv_aload_n hx hb dX12_faint_85 rfl (lv_at hl 0 rfl) ?_
          refine lv_iload_n hx hb dX12_faint_86 rfl (lv_at hl 2 rfl) ?_
          obtain ⟨v14, hq15, hf⟩ := bo_e hf
          refine ko_call (v := some (.int v14)) (km_run (As := [.int x2_74]) (rest := [.int x1_74]) ⟨hx, hb, hml, hown, hts⟩ (c_X12_isFaint l dC dI cB cI cJ cZ ra M_74 x2_74 v14 hq15) (cwV 1 hts gX12_faint_X12_isFaint rfl rfl rfl (by decide +kernel) ⟨Nat.le_of_ble_eq_true rfl, Nat.le_of_ble_eq_true rfl⟩) hK hP (fun _ _ _ _ => mPr_bl) (fun U hU hW => ⟨by rw [hU]; exact hP, va_K.moved hW.alike hK⟩) rfl rfl hl.1 rfl (lv_room (Nat.le_of_ble_eq_true rfl)) dX12_faint_87 ⟨Nat.le_refl _, Nat.le_refl _⟩) ?_
          refine lv_if_eq (tgt := 99) hx hb dX12_faint_90 (by decide) (fun hb16 => ?_) (fun hb16 => ?_)
          · have hf := (if_pos hb16).symm.trans hf
            refine lv_iconst (v := 0) hx hb dX12_faint_99 (by decide) ?_
            exact h_100 x2_74 x1_74 (0 : Int32) M_74 ls _ _ (lv_sub hl [0, 2] rfl) hP hD hS hf
          · have hf := (if_neg hb16).symm.trans hf
            refine lv_iconst (v := 1) hx hb dX12_faint_93 (by decide) ?_
            refine lv_iload_n hx hb dX12_faint_94 rfl (lv_at hl 2 rfl) ?_
            refine lv_ishl hx hb dX12_faint_95 ?_
            refine lv_goto (tgt := 100) hx hb dX12_faint_96 (by decide) ?_
            exact h_100 x2_74 x1_74 ((1 : Int32) <<< (x2_74 &&& 31)) M_74 ls _ _ (lv_sub hl [0, 2] rfl) hP hD hS hf) 2000
    refine lv_iconst (v := 0) hx hb dX12_faint_70 (by decide) ?_
    refine lv_istore_n (nL := 3) (lv' := [(1, .int (0 : Int32)), (0, .ref (ra 0))]) hx hb dX12_faint_71 rfl hl (by decide) rfl (fun ls hl => ?_)
    refine lv_iconst (v := 0) hx hb dX12_faint_72 (by decide) ?_
    refine lv_istore_n (nL := 3) (lv' := [(2, .int (0 : Int32)), (1, .int (0 : Int32)), (0, .ref (ra 0))]) hx hb dX12_faint_73 rfl hl (by decide) rfl (fun ls hl => ?_)
    exact h_74 (0 : Int32) (0 : Int32) M_70 ls _ _ (lv_sub hl [2, 1, 0] rfl) hP hD hS hf
  have h_29 := lp_ind (z := (fun _ _ => none)) (b := (g_X12_faint_29)) (fun (rc_29 : Int32 → kD → Option (Int32 × kD)) => ∀ (x1_29 : Int32) (M_29 : kD) (ls : Array Slot) (H : Heap) (locs : List Loc), lv_has ls 3 [(0, .ref (ra 0)), (1, .int x1_29)] → va_P (dC, dI) vwCl (mw cB cI cJ cZ ra M_29) H → va_D (mA ra s.heap.size) (mw cB cI cJ cZ ra M_29) → va_S (mA ra s.heap.size) s.heap H locs → rc_29 x1_29 M_29 = some r → W p l e (headSpec wsX12_faint rm_X12_faint).room s m args below meth c H locs 0 0 (MQ below (mQi dC dI cB cI cJ cZ ra s.heap.size r) args s 0 0 (mA ra s.heap.size)) (F0 m 29 ls [])) (by
      intro x1_29 M_29 ls H locs hl hP hD hS hf
      cases hf) (by
      intro rc_29 ih_29 x1_29 M_29 ls H locs hl hP hD hS hf
      unfold g_X12_faint_29 at hf
      have h_64 : ∀ (x1_64 : Int32) (M_64 : kD) (ls : Array Slot) (H : Heap) (locs : List Loc), lv_has ls 3 [(0, .ref (ra 0)), (1, .int x1_64)] → va_P (dC, dI) vwCl (mw cB cI cJ cZ ra M_64) H → va_D (mA ra s.heap.size) (mw cB cI cJ cZ ra M_64) → va_S (mA ra s.heap.size) s.heap H locs → g_X12_faint_64 rc_29 x1_64 M_64 = some r → W p l e (headSpec wsX12_faint rm_X12_faint).room s m args below meth c H locs 0 0 (MQ below (mQi dC dI cB cI cJ cZ ra s.heap.size r) args s 0 0 (mA ra s.heap.size)) (F0 m 64 ls []) := by
        intro x1_64 M_64 ls H locs hl hP hD hS hf
        unfold g_X12_faint_64 at hf
        obtain ⟨v18, ev18, hf⟩ := bd1_e hf
        refine lv_iinc (k := 1) (x := x1_64) (v := v18) (nL := 3) (lv' := [(1, .int v18), (0, .ref (ra 0))]) hx hb dX12_faint_64 hl rfl (kt_inc (w := 1) (by decide) ev18) (by decide) rfl (fun ls hl => ?_)
        refine lv_goto (tgt := 29) hx hb dX12_faint_67 (by decide) ?_
        exact ih_29 v18 M_64 ls _ _ (lv_sub hl [1, 0] rfl) hP hD hS hf
      refine lv_iload_n hx hb dX12_faint_29 rfl (lv_at hl 1 rfl) ?_
      refine lv_aload_n hx hb dX12_faint_30 rfl (lv_at hl 0 rfl) ?_
      refine km_get hx hb hts hin hown hK hP 3 (by decide) (v := .int (M_29.1 0 3)) k_fieldLink_RX12_18__KeyLettersModel___size___I_ rfl dX12_faint_31 ?_
      refine lv_icmp_ge (tgt := 70) hx hb dX12_faint_34 (by decide) (fun hb25 => ?_) (fun hb25 => ?_)
      · have hf := (if_pos hb25).symm.trans hf
        exact h_70  M_29 ls _ _ (lv_sub hl [0] rfl) hP hD hS hf
      · have hf := (if_neg hb25).symm.trans hf
        refine lv_aload_n hx hb dX12_faint_37 rfl (lv_at hl 0 rfl) ?_
        refine lv_iload_n hx hb dX12_faint_38 rfl (lv_at hl 1 rfl) ?_
        obtain ⟨v19, hq20, hf⟩ := bo_e hf
        refine ko_call (v := some (.int v19)) (km_run (As := [.int x1_29]) (rest := []) ⟨hx, hb, hml, hown, hts⟩ (c_X12_octet l dC dI cB cI cJ cZ ra M_29 x1_29 v19 hq20) (cwV 1 hts gX12_faint_X12_octet rfl rfl rfl (by decide +kernel) ⟨Nat.le_of_ble_eq_true rfl, Nat.le_of_ble_eq_true rfl⟩) hK hP (fun _ _ _ _ => mPr_bl) (fun U hU hW => ⟨by rw [hU]; exact hP, va_K.moved hW.alike hK⟩) rfl rfl hl.1 rfl (lv_room (Nat.le_of_ble_eq_true rfl)) dX12_faint_39 ⟨Nat.le_refl _, Nat.le_refl _⟩) ?_
        refine lv_bipush (v := 63) hx hb dX12_faint_42 (by decide) ?_
        refine lv_icmp_eq (tgt := 64) hx hb dX12_faint_44 (by decide) (fun hb24 => ?_) (fun hb24 => ?_)
        · have hf := (if_pos hb24).symm.trans hf
          exact h_64 x1_29 M_29 ls _ _ hl hP hD hS hf
        · have hf := (if_neg hb24).symm.trans hf
          refine lv_aload_n hx hb dX12_faint_47 rfl (lv_at hl 0 rfl) ?_
          refine lv_iload_n hx hb dX12_faint_48 rfl (lv_at hl 1 rfl) ?_
          obtain ⟨v21, hq22, hf⟩ := bo_e hf
          refine ko_call (v := some (.int v21)) (km_run (As := [.int x1_29]) (rest := []) ⟨hx, hb, hml, hown, hts⟩ (c_X12_octet l dC dI cB cI cJ cZ ra M_29 x1_29 v21 hq22) (cwV 1 hts gX12_faint_X12_octet rfl rfl rfl (by decide +kernel) ⟨Nat.le_of_ble_eq_true rfl, Nat.le_of_ble_eq_true rfl⟩) hK hP (fun _ _ _ _ => mPr_bl) (fun U hU hW => ⟨by rw [hU]; exact hP, va_K.moved hW.alike hK⟩) rfl rfl hl.1 rfl (lv_room (Nat.le_of_ble_eq_true rfl)) dX12_faint_49 ⟨Nat.le_refl _, Nat.le_refl _⟩) ?_
          refine lv_bipush (v := 97) hx hb dX12_faint_52 (by decide) ?_
          refine lv_bipush (v := 122) hx hb dX12_faint_54 (by decide) ?_
          refine ko_call (v := some (.int (f_X12_isIn v21 (97 : Int32) (122 : Int32)))) (va_runS (As := [.int v21, .int (97 : Int32), .int (122 : Int32)]) (rest := []) ⟨hx, hb, hml, hown, hts⟩ (c_X12_isIn l v21 (97 : Int32) (122 : Int32) _ rfl) (va_cwS 3 hts gX12_faint_X12_isIn rfl rfl rfl (by decide +kernel) ⟨Nat.le_of_ble_eq_true rfl, Nat.le_of_ble_eq_true rfl⟩) ⟨fun a U g mk q => q, fun U hU hW => ⟨rfl, trivial⟩⟩ rfl rfl hl.1 rfl (lv_room (Nat.le_of_ble_eq_true rfl)) dX12_faint_56 ⟨Nat.le_refl _, Nat.le_refl _⟩) ?_
          refine lv_if_ne (tgt := 64) hx hb dX12_faint_59 (by decide) (fun hb23 => ?_) (fun hb23 => ?_)
          · have hf := (if_neg hb23).symm.trans hf
            exact h_64 x1_29 M_29 ls _ _ hl hP hD hS hf
          · have hf := (if_pos hb23).symm.trans hf
            refine lv_iconst (v := -1) hx hb dX12_faint_62 (by decide) ?_
            have hf := Option.some.inj hf
            subst hf
            exact m_iret hx hb hr hlocks hP hK hD hS dX12_faint_63) 2000
  refine lv_aload_n hx hb dX12_faint_0 rfl (lv_at hl 0 rfl) ?_
  refine lv_iconst (v := 0) hx hb dX12_faint_1 (by decide) ?_
  obtain ⟨M26, eM26, hf⟩ := bd1_e hf
  refine km_put hx hb hts hin hown hK hP hD hS 0 (by decide) k_fieldLink_RX12_1__KeyLettersModel___thrown___I_ rfl (ty := .int) (v := .int (0 : Int32)) (by decide +kernel) rfl rfl (M1 := M26) (by rw [eM26]; exact mo_0 cB cI cJ cZ ra M (0 : Int32)) dX12_faint_2 (fun H locs hP hD hS => ?_)
  refine lv_aload_n hx hb dX12_faint_5 rfl (lv_at hl 0 rfl) ?_
  refine lv_sipush (v := 940) hx hb dX12_faint_6 (by decide) ?_
  obtain ⟨M27, hq28, hf⟩ := bo_e hf
  refine km_callwv (M1 := M27) (km_run (As := [.int (940 : Int32)]) (rest := []) ⟨hx, hb, hml, hown, hts⟩ (c_X12_taken l dC dI cB cI cJ cZ ra _ M26 (940 : Int32) M27 hq28) (cwV 1 hts gX12_faint_X12_taken rfl rfl rfl (by decide +kernel) ⟨Nat.le_of_ble_eq_true rfl, Nat.le_of_ble_eq_true rfl⟩) hK hP (fun _ _ _ _ => mPw_bl) (fun U hU hW => ⟨by rw [hU], by rw [hU]; exact hP, va_K.moved hW.alike hK, hD.weaken (fun _ _ _ _ => trivial)⟩) rfl rfl hl.1 rfl (lv_room (Nat.le_of_ble_eq_true rfl)) dX12_faint_9 ⟨Nat.le_refl _, Nat.le_refl _⟩) hD hS hA (fun H locs hP hD hS => ?_)
  refine lv_aload_n hx hb dX12_faint_12 rfl (lv_at hl 0 rfl) ?_
  refine km_get hx hb hts hin hown hK hP 3 (by decide) (v := .int (M27.1 0 3)) k_fieldLink_RX12_18__KeyLettersModel___size___I_ rfl dX12_faint_13 ?_
  refine lv_iconst (v := 1) hx hb dX12_faint_16 (by decide) ?_
  refine lv_bipush (v := 7) hx hb dX12_faint_17 (by decide) ?_
  refine ko_call (v := some (.int (f_X12_isIn (M27.1 0 3) (1 : Int32) (7 : Int32)))) (va_runS (As := [.int (M27.1 0 3), .int (1 : Int32), .int (7 : Int32)]) (rest := []) ⟨hx, hb, hml, hown, hts⟩ (c_X12_isIn l (M27.1 0 3) (1 : Int32) (7 : Int32) _ rfl) (va_cwS 3 hts gX12_faint_X12_isIn rfl rfl rfl (by decide +kernel) ⟨Nat.le_of_ble_eq_true rfl, Nat.le_of_ble_eq_true rfl⟩) ⟨fun a U g mk q => q, fun U hU hW => ⟨rfl, trivial⟩⟩ rfl rfl hl.1 rfl (lv_room (Nat.le_of_ble_eq_true rfl)) dX12_faint_19 ⟨Nat.le_refl _, Nat.le_refl _⟩) ?_
  refine lv_if_ne (tgt := 27) hx hb dX12_faint_22 (by decide) (fun hb29 => ?_) (fun hb29 => ?_)
  · have hf := (if_neg hb29).symm.trans hf
    refine lv_iconst (v := 0) hx hb dX12_faint_27 (by decide) ?_
    refine lv_istore_n (nL := 3) (lv' := [(1, .int (0 : Int32)), (0, .ref (ra 0))]) hx hb dX12_faint_28 rfl hl (by decide) rfl (fun ls hl => ?_)
    exact h_29 (0 : Int32) M27 ls _ _ (lv_sub hl [1, 0] rfl) hP hD hS hf
  · have hf := (if_pos hb29).symm.trans hf
    refine lv_iconst (v := -1) hx hb dX12_faint_25 (by decide) ?_
    have hf := Option.some.inj hf
    subst hf
    exact m_iret hx hb hr hlocks hP hK hD hS dX12_faint_26

abbrev rm_X12_look : Room := { frames := 0, cells := 0, slots := 0, locals := 0 }
set_option maxHeartbeats 4000000 in
set_option maxRecDepth 100000 in
theorem c_X12_look (l : Launch) (dC : Nat → ClassId) (dI : Nat → Nat → Nat) (cB cI cJ cZ : ClassId) (ra : Nat → Nat) (sz : Nat) (M : kD)  (r : (Int32 × kD)) (hf : f_X12_look  M = some r) : Met l yX12_look wsX12_look rm_X12_look (va_Pc [.ref (ra 0)] (mPw dC dI cB cI cJ cZ ra sz M)) (mQi dC dI cB cI cJ cZ ra sz r) 0 0 (mA ra sz) := by
  refine Met.ofW (cc := cX12_look) (maxL := 1) (ret := (some .int)) (by decide) rfl ?_
  intro p e s m args below meth c s₁ B hml hv
  obtain ⟨hav, hsz, hP, hK, hD0⟩ := hv
  have hx := B.exec
  have hb := B.bytes
  have hr := B.returns
  have hts := atoms_spec (ws := wsX12_look) B.pre
  have hown : s.vm.findClass RX12 = some m.cls := findClass_of_methodNamed B.named
  have hlocks := B.notSynchronized
  subst hsz
  have hA : ∀ q, s.heap.size ≤ q → mA ra s.heap.size q := fun q h => Or.inr h
  have hD : va_D (mA ra s.heap.size) (mw cB cI cJ cZ ra M) := hD0.weaken (fun k q h _ => mA_in h)
  have hS : va_S (mA ra s.heap.size) s.heap s.heap [] := va_S.rf
  have hin : ∀ w ∈ wsX120, w ∈ wsX12_look := fun w h => List.mem_cons_of_mem _ (List.mem_append_right _ h)
  have k_fieldLink_RX12_1__KeyLettersModel___thrown___I_ := hts (.fieldLink RX12 1 "KeyLettersModel" "thrown" "I") (by decide +kernel)
  have k_fieldLink_RX12_360__KeyLettersModel___hasFaint___Z_ := hts (.fieldLink RX12 360 "KeyLettersModel" "hasFaint" "Z") (by decide +kernel)
  have k_fieldLink_RX12_364__KeyLettersModel___lookPlace___I_ := hts (.fieldLink RX12 364 "KeyLettersModel" "lookPlace" "I") (by decide +kernel)
  have hl := lv_entry ([.ref (ra 0)]) (n := 1) (Nat.le_of_ble_eq_true rfl)
  rw [show entryFrame m args 1 = entryFrame m ([.ref (ra 0)] : List Value).toArray 1 from by rw [hav], lg_entry_eq]
  generalize (lg_sl ([.ref (ra 0)]) ++ List.replicate (1 - (lg_sl ([.ref (ra 0)])).length) Slot.unset).toArray = ls at hl ⊢
  have hl : lv_has ls 1 [(0, .ref (ra 0))] := hl
  unfold f_X12_look at hf
  refine lv_aload_n hx hb dX12_look_0 rfl (lv_at hl 0 rfl) ?_
  refine lv_iconst (v := 0) hx hb dX12_look_1 (by decide) ?_
  obtain ⟨M1, eM1, hf⟩ := bd1_e hf
  refine km_put hx hb hts hin hown hK hP hD hS 0 (by decide) k_fieldLink_RX12_1__KeyLettersModel___thrown___I_ rfl (ty := .int) (v := .int (0 : Int32)) (by decide +kernel) rfl rfl (M1 := M1) (by rw [eM1]; exact mo_0 cB cI cJ cZ ra M (0 : Int32)) dX12_look_2 (fun H locs hP hD hS => ?_)
  refine lv_aload_n hx hb dX12_look_5 rfl (lv_at hl 0 rfl) ?_
  refine km_get hx hb hts hin hown hK hP 32 (by decide) (v := .int (M1.1 0 32)) k_fieldLink_RX12_360__KeyLettersModel___hasFaint___Z_ rfl dX12_look_6 ?_
  refine lv_if_eq (tgt := 19) hx hb dX12_look_9 (by decide) (fun hb2 => ?_) (fun hb2 => ?_)
  · have hf := (if_pos hb2).symm.trans hf
    refine lv_iconst (v := -1) hx hb dX12_look_19 (by decide) ?_
    have hf := Option.some.inj hf
    subst hf
    exact m_iret hx hb hr hlocks hP hK hD hS dX12_look_20
  · have hf := (if_neg hb2).symm.trans hf
    refine lv_aload_n hx hb dX12_look_12 rfl (lv_at hl 0 rfl) ?_
    refine km_get hx hb hts hin hown hK hP 31 (by decide) (v := .int (M1.1 0 31)) k_fieldLink_RX12_364__KeyLettersModel___lookPlace___I_ rfl dX12_look_13 ?_
    refine lv_goto (tgt := 20) hx hb dX12_look_16 (by decide) ?_
    have hf := Option.some.inj hf
    subst hf
    exact m_iret hx hb hr hlocks hP hK hD hS dX12_look_20

abbrev rm_X12_common : Room := { frames := 0, cells := 0, slots := 0, locals := 0 }
set_option maxHeartbeats 4000000 in
set_option maxRecDepth 100000 in
theorem c_X12_common (l : Launch) (a0 : Int32) (a1 : Int32) (r : Int32) (hf : f_X12_common a0 a1 = some r) : Met l yX12_common wsX12_common rm_X12_common (va_Pc [.int a0, .int a1] (fun _ => True)) (kQ (some (.int r))) 0 0 (kF) := by
  refine Met.ofW (cc := cX12_common) (maxL := 5) (ret := (some .int)) (by decide) rfl ?_
  intro p e s m args below meth c s₁ B hml hv
  obtain ⟨hav, -⟩ := hv
  have hx := B.exec
  have hb := B.bytes
  have hr := B.returns
  have hts := atoms_spec (ws := wsX12_common) B.pre
  have hown : s.vm.findClass RX12 = some m.cls := findClass_of_methodNamed B.named
  have hlocks := B.notSynchronized
  have hl := lv_entry ([.int a0, .int a1]) (n := 5) (Nat.le_of_ble_eq_true rfl)
  rw [show entryFrame m args 5 = entryFrame m ([.int a0, .int a1] : List Value).toArray 5 from by rw [hav], lg_entry_eq]
  generalize (lg_sl ([.int a0, .int a1]) ++ List.replicate (5 - (lg_sl ([.int a0, .int a1])).length) Slot.unset).toArray = ls at hl ⊢
  have hl : lv_has ls 5 [(0, .int a0), (1, .int a1)] := hl
  unfold f_X12_common at hf
  have h_4 := lp_ind (z := (fun _ _ => none)) (b := (g_X12_common_4)) (fun (rc_4 : Int32 → Int32 → Option Int32) => ∀ (x2_4 : Int32) (x3_4 : Int32) (ls : Array Slot), lv_has ls 5 [(2, .int x2_4), (3, .int x3_4)] → rc_4 x2_4 x3_4 = some r → W p l e (headSpec wsX12_common rm_X12_common).room s m args below meth c s.heap [] 0 0 (MQ below (kQ (some (.int r))) args s 0 0 (kF)) (F0 m 4 ls [])) (by
      intro x2_4 x3_4 ls hl hf
      cases hf) (by
      intro rc_4 ih_4 x2_4 x3_4 ls hl hf
      unfold g_X12_common_4 at hf
      refine lv_iload_n hx hb dX12_common_4 rfl (lv_at hl 1 rfl) ?_
      refine lv_if_eq (tgt := 21) hx hb dX12_common_5 (by decide) (fun hb3 => ?_) (fun hb3 => ?_)
      · have hf := (if_pos hb3).symm.trans hf
        refine lv_iload_n hx hb dX12_common_21 rfl (lv_at hl 0 rfl) ?_
        have hf := Option.some.inj hf
        subst hf
        exact W.iret (v := x2_4) hx hb hr (fun t ht hW => ⟨rfl, ht⟩) (fun _ h => nomatch h) dX12_common_22
      · have hf := (if_neg hb3).symm.trans hf
        refine lv_iload_n hx hb dX12_common_8 rfl (lv_at hl 0 rfl) ?_
        refine lv_iload_n hx hb dX12_common_9 rfl (lv_at hl 1 rfl) ?_
        obtain ⟨hc1, hf⟩ := ck_e hf
        refine lv_irem hx hb dX12_common_10 hc1 ?_
        obtain ⟨v2, ev2, hf⟩ := bd1_e hf
        refine kt_i ev2 ?_
        refine lv_istore (nL := 5) (lv' := [(4, .int v2), (2, .int x2_4), (3, .int x3_4)]) hx hb dX12_common_11 hl (by decide) rfl (fun ls hl => ?_)
        refine lv_iload_n hx hb dX12_common_13 rfl (lv_at hl 2 rfl) ?_
        refine lv_istore_n (nL := 5) (lv' := [(2, .int x3_4), (4, .int v2), (3, .int x3_4)]) hx hb dX12_common_14 rfl hl (by decide) rfl (fun ls hl => ?_)
        refine lv_iload hx hb dX12_common_15 (lv_at hl 1 rfl) ?_
        refine lv_istore_n (nL := 5) (lv' := [(3, .int v2), (2, .int x3_4), (4, .int v2)]) hx hb dX12_common_17 rfl hl (by decide) rfl (fun ls hl => ?_)
        refine lv_goto (tgt := 4) hx hb dX12_common_18 (by decide) ?_
        exact ih_4 x3_4 v2 ls (lv_sub hl [1, 0] rfl) hf) 2000
  refine lv_iload_n hx hb dX12_common_0 rfl (lv_at hl 0 rfl) ?_
  refine lv_istore_n (nL := 5) (lv' := [(2, .int a0), (0, .int a0), (1, .int a1)]) hx hb dX12_common_1 rfl hl (by decide) rfl (fun ls hl => ?_)
  refine lv_iload_n hx hb dX12_common_2 rfl (lv_at hl 2 rfl) ?_
  refine lv_istore_n (nL := 5) (lv' := [(3, .int a1), (2, .int a0), (0, .int a0), (1, .int a1)]) hx hb dX12_common_3 rfl hl (by decide) rfl (fun ls hl => ?_)
  exact h_4 a0 a1 ls (lv_sub hl [1, 0] rfl) hf

abbrev rm_X12_ship : Room := { frames := 1, cells := 0, slots := 0, locals := 24 }
set_option maxHeartbeats 4000000 in
set_option maxRecDepth 100000 in
theorem c_X12_ship (l : Launch) (dC : Nat → ClassId) (dI : Nat → Nat → Nat) (cB cI cJ cZ : ClassId) (ra : Nat → Nat) (sz : Nat) (M : kD)  (r : (Int32 × kD)) (hf : f_X12_ship  M = some r) : Met l yX12_ship wsX12_ship rm_X12_ship (va_Pc [.ref (ra 0)] (mPw dC dI cB cI cJ cZ ra sz M)) (mQi dC dI cB cI cJ cZ ra sz r) 0 0 (mA ra sz) := by
  refine Met.ofW (cc := cX12_ship) (maxL := 4) (ret := (some .int)) (by decide) rfl ?_
  intro p e s m args below meth c s₁ B hml hv
  obtain ⟨hav, hsz, hP, hK, hD0⟩ := hv
  have hx := B.exec
  have hb := B.bytes
  have hr := B.returns
  have hts := atoms_spec (ws := wsX12_ship) B.pre
  have hown : s.vm.findClass RX12 = some m.cls := findClass_of_methodNamed B.named
  have hlocks := B.notSynchronized
  subst hsz
  have hA : ∀ q, s.heap.size ≤ q → mA ra s.heap.size q := fun q h => Or.inr h
  have hD : va_D (mA ra s.heap.size) (mw cB cI cJ cZ ra M) := hD0.weaken (fun k q h _ => mA_in h)
  have hS : va_S (mA ra s.heap.size) s.heap s.heap [] := va_S.rf
  have hin : ∀ w ∈ wsX120, w ∈ wsX12_ship := fun w h => List.mem_cons_of_mem _ (List.mem_append_right _ h)
  have k_constant_RX12_370_99999999 := hts (.constant RX12 370 99999999) (by decide +kernel)
  have k_constant_RX12_374_100000000 := hts (.constant RX12 374 100000000) (by decide +kernel)
  have k_fieldLink_RX12_18__KeyLettersModel___size___I_ := hts (.fieldLink RX12 18 "KeyLettersModel" "size" "I") (by decide +kernel)
  have k_fieldLink_RX12_1__KeyLettersModel___thrown___I_ := hts (.fieldLink RX12 1 "KeyLettersModel" "thrown" "I") (by decide +kernel)
  have hl := lv_entry ([.ref (ra 0)]) (n := 4) (Nat.le_of_ble_eq_true rfl)
  rw [show entryFrame m args 4 = entryFrame m ([.ref (ra 0)] : List Value).toArray 4 from by rw [hav], lg_entry_eq]
  generalize (lg_sl ([.ref (ra 0)]) ++ List.replicate (4 - (lg_sl ([.ref (ra 0)])).length) Slot.unset).toArray = ls at hl ⊢
  have hl : lv_has ls 4 [(0, .ref (ra 0))] := hl
  unfold f_X12_ship at hf
  have h_59 : ∀ (M_59 : kD) (ls : Array Slot) (H : Heap) (locs : List Loc), lv_has ls 4 [(0, .ref (ra 0))] → va_P (dC, dI) vwCl (mw cB cI cJ cZ ra M_59) H → va_D (mA ra s.heap.size) (mw cB cI cJ cZ ra M_59) → va_S (mA ra s.heap.size) s.heap H locs → g_X12_ship_59  M_59 = some r → W p l e (headSpec wsX12_ship rm_X12_ship).room s m args below meth c H locs 0 0 (MQ below (mQi dC dI cB cI cJ cZ ra s.heap.size r) args s 0 0 (mA ra s.heap.size)) (F0 m 59 ls []) := by
    intro  M_59 ls H locs hl hP hD hS hf
    unfold g_X12_ship_59 at hf
    have h_119 : ∀ (x1_119 : Int32) (M_119 : kD) (ls : Array Slot) (H : Heap) (locs : List Loc), lv_has ls 4 [(1, .int x1_119)] → va_P (dC, dI) vwCl (mw cB cI cJ cZ ra M_119) H → va_D (mA ra s.heap.size) (mw cB cI cJ cZ ra M_119) → va_S (mA ra s.heap.size) s.heap H locs → g_X12_ship_119 x1_119 M_119 = some r → W p l e (headSpec wsX12_ship rm_X12_ship).room s m args below meth c H locs 0 0 (MQ below (mQi dC dI cB cI cJ cZ ra s.heap.size r) args s 0 0 (mA ra s.heap.size)) (F0 m 119 ls []) := by
      intro x1_119 M_119 ls H locs hl hP hD hS hf
      unfold g_X12_ship_119 at hf
      refine lv_iload_n hx hb dX12_ship_119 rfl (lv_at hl 0 rfl) ?_
      refine lv_ldcw (v := 99999999) hx hb hown k_constant_RX12_370_99999999 dX12_ship_120 ?_
      refine lv_icmp_le (tgt := 130) hx hb dX12_ship_123 (by decide) (fun hb1 => ?_) (fun hb1 => ?_)
      · have hf := (if_pos hb1).symm.trans hf
        refine lv_iload_n hx hb dX12_ship_130 rfl (lv_at hl 0 rfl) ?_
        have hf := Option.some.inj hf
        subst hf
        exact m_iret hx hb hr hlocks hP hK hD hS dX12_ship_131
      · have hf := (if_neg hb1).symm.trans hf
        refine lv_iconst (v := -1) hx hb dX12_ship_126 (by decide) ?_
        refine lv_goto (tgt := 131) hx hb dX12_ship_127 (by decide) ?_
        have hf := Option.some.inj hf
        subst hf
        exact m_iret hx hb hr hlocks hP hK hD hS dX12_ship_131
    have h_63 := lp_ind (z := (fun _ _ _ => none)) (b := (g_X12_ship_63)) (fun (rc_63 : Int32 → Int32 → kD → Option (Int32 × kD)) => ∀ (x1_63 : Int32) (x2_63 : Int32) (M_63 : kD) (ls : Array Slot) (H : Heap) (locs : List Loc), lv_has ls 4 [(0, .ref (ra 0)), (1, .int x1_63), (2, .int x2_63)] → va_P (dC, dI) vwCl (mw cB cI cJ cZ ra M_63) H → va_D (mA ra s.heap.size) (mw cB cI cJ cZ ra M_63) → va_S (mA ra s.heap.size) s.heap H locs → rc_63 x1_63 x2_63 M_63 = some r → W p l e (headSpec wsX12_ship rm_X12_ship).room s m args below meth c H locs 0 0 (MQ below (mQi dC dI cB cI cJ cZ ra s.heap.size r) args s 0 0 (mA ra s.heap.size)) (F0 m 63 ls [])) (by
        intro x1_63 x2_63 M_63 ls H locs hl hP hD hS hf
        cases hf) (by
        intro rc_63 ih_63 x1_63 x2_63 M_63 ls H locs hl hP hD hS hf
        unfold g_X12_ship_63 at hf
        have h_112 : ∀ (x2_112 : Int32) (t0_112 : Int32) (M_112 : kD) (ls : Array Slot) (H : Heap) (locs : List Loc), lv_has ls 4 [(0, .ref (ra 0)), (2, .int x2_112)] → va_P (dC, dI) vwCl (mw cB cI cJ cZ ra M_112) H → va_D (mA ra s.heap.size) (mw cB cI cJ cZ ra M_112) → va_S (mA ra s.heap.size) s.heap H locs → g_X12_ship_112 rc_63 x2_112 t0_112 M_112 = some r → W p l e (headSpec wsX12_ship rm_X12_ship).room s m args below meth c H locs 0 0 (MQ below (mQi dC dI cB cI cJ cZ ra s.heap.size r) args s 0 0 (mA ra s.heap.size)) (F0 m 112 ls [.int t0_112]) := by
          intro x2_112 t0_112 M_112 ls H locs hl hP hD hS hf
          unfold g_X12_ship_112 at hf
          refine lv_istore_n (nL := 4) (lv' := [(1, .int t0_112), (0, .ref (ra 0)), (2, .int x2_112)]) hx hb dX12_ship_112 rfl hl (by decide) rfl (fun ls hl => ?_)
          obtain ⟨v2, ev2, hf⟩ := bd1_e hf
          refine lv_iinc (k := 2) (x := x2_112) (v := v2) (nL := 4) (lv' := [(2, .int v2), (1, .int t0_112), (0, .ref (ra 0))]) hx hb dX12_ship_113 hl rfl (kt_inc (w := 1) (by decide) ev2) (by decide) rfl (fun ls hl => ?_)
          refine lv_goto (tgt := 63) hx hb dX12_ship_116 (by decide) ?_
          exact ih_63 t0_112 v2 M_112 ls _ _ (lv_sub hl [2, 1, 0] rfl) hP hD hS hf
        refine lv_iload_n hx hb dX12_ship_63 rfl (lv_at hl 2 rfl) ?_
        refine lv_aload_n hx hb dX12_ship_64 rfl (lv_at hl 0 rfl) ?_
        refine km_get hx hb hts hin hown hK hP 3 (by decide) (v := .int (M_63.1 0 3)) k_fieldLink_RX12_18__KeyLettersModel___size___I_ rfl dX12_ship_65 ?_
        refine lv_icmp_ge (tgt := 119) hx hb dX12_ship_68 (by decide) (fun hb14 => ?_) (fun hb14 => ?_)
        · have hf := (if_pos hb14).symm.trans hf
          exact h_119 x1_63 M_63 ls _ _ (lv_sub hl [1] rfl) hP hD hS hf
        · have hf := (if_neg hb14).symm.trans hf
          refine lv_iload_n hx hb dX12_ship_71 rfl (lv_at hl 1 rfl) ?_
          refine lv_ldcw (v := 99999999) hx hb hown k_constant_RX12_370_99999999 dX12_ship_72 ?_
          refine lv_icmp_gt (tgt := 119) hx hb dX12_ship_75 (by decide) (fun hb13 => ?_) (fun hb13 => ?_)
          · have hf := (if_pos hb13).symm.trans hf
            exact h_119 x1_63 M_63 ls _ _ (lv_sub hl [1] rfl) hP hD hS hf
          · have hf := (if_neg hb13).symm.trans hf
            refine lv_aload_n hx hb dX12_ship_78 rfl (lv_at hl 0 rfl) ?_
            refine lv_iload_n hx hb dX12_ship_79 rfl (lv_at hl 2 rfl) ?_
            obtain ⟨v3, hq4, hf⟩ := bo_e hf
            refine ko_call (v := some (.int v3)) (km_run (As := [.int x2_63]) (rest := []) ⟨hx, hb, hml, hown, hts⟩ (c_X12_octet l dC dI cB cI cJ cZ ra M_63 x2_63 v3 hq4) (cwV 1 hts gX12_ship_X12_octet rfl rfl rfl (by decide +kernel) ⟨Nat.le_of_ble_eq_true rfl, Nat.le_of_ble_eq_true rfl⟩) hK hP (fun _ _ _ _ => mPr_bl) (fun U hU hW => ⟨by rw [hU]; exact hP, va_K.moved hW.alike hK⟩) rfl rfl hl.1 rfl (lv_room (Nat.le_of_ble_eq_true rfl)) dX12_ship_80 ⟨Nat.le_refl _, Nat.le_refl _⟩) ?_
            refine lv_aload_n hx hb dX12_ship_83 rfl (lv_at hl 0 rfl) ?_
            refine lv_iload_n hx hb dX12_ship_84 rfl (lv_at hl 2 rfl) ?_
            obtain ⟨v5, hq6, hf⟩ := bo_e hf
            refine ko_call (v := some (.int v5)) (km_run (As := [.int x2_63]) (rest := [.int v3]) ⟨hx, hb, hml, hown, hts⟩ (c_X12_octet l dC dI cB cI cJ cZ ra M_63 x2_63 v5 hq6) (cwV 1 hts gX12_ship_X12_octet rfl rfl rfl (by decide +kernel) ⟨Nat.le_of_ble_eq_true rfl, Nat.le_of_ble_eq_true rfl⟩) hK hP (fun _ _ _ _ => mPr_bl) (fun U hU hW => ⟨by rw [hU]; exact hP, va_K.moved hW.alike hK⟩) rfl rfl hl.1 rfl (lv_room (Nat.le_of_ble_eq_true rfl)) dX12_ship_85 ⟨Nat.le_refl _, Nat.le_refl _⟩) ?_
            refine lv_iload_n hx hb dX12_ship_88 rfl (lv_at hl 1 rfl) ?_
            obtain ⟨v7, hq8, hf⟩ := bo_e hf
            refine ko_call (v := some (.int v7)) (va_runS (As := [.int v5, .int x1_63]) (rest := [.int v3]) ⟨hx, hb, hml, hown, hts⟩ (c_X12_common l v5 x1_63 v7 hq8) (va_cwS 2 hts gX12_ship_X12_common rfl rfl rfl (by decide +kernel) ⟨Nat.le_of_ble_eq_true rfl, Nat.le_of_ble_eq_true rfl⟩) ⟨fun a U g mk q => q, fun U hU hW => ⟨rfl, trivial⟩⟩ rfl rfl hl.1 rfl (lv_room (Nat.le_of_ble_eq_true rfl)) dX12_ship_89 ⟨Nat.le_refl _, Nat.le_refl _⟩) ?_
            obtain ⟨hc9, hf⟩ := ck_e hf
            refine lv_idiv hx hb dX12_ship_92 hc9 ?_
            obtain ⟨v10, ev10, hf⟩ := bd1_e hf
            refine kt_i ev10 ?_
            refine lv_istore_n (nL := 4) (lv' := [(3, .int v10), (0, .ref (ra 0)), (1, .int x1_63), (2, .int x2_63)]) hx hb dX12_ship_93 rfl hl (by decide) rfl (fun ls hl => ?_)
            refine lv_iload_n hx hb dX12_ship_94 rfl (lv_at hl 2 rfl) ?_
            refine lv_ldcw (v := 99999999) hx hb hown k_constant_RX12_370_99999999 dX12_ship_95 ?_
            refine lv_iload_n hx hb dX12_ship_98 rfl (lv_at hl 0 rfl) ?_
            obtain ⟨hc11, hf⟩ := ck_e hf
            refine lv_idiv hx hb dX12_ship_99 hc11 ?_
            refine lv_icmp_le (tgt := 109) hx hb dX12_ship_100 (by decide) (fun hb12 => ?_) (fun hb12 => ?_)
            · have hf := (if_pos hb12).symm.trans hf
              refine lv_iload_n hx hb dX12_ship_109 rfl (lv_at hl 2 rfl) ?_
              refine lv_iload_n hx hb dX12_ship_110 rfl (lv_at hl 0 rfl) ?_
              refine lv_imul hx hb dX12_ship_111 ?_
              exact h_112 x2_63 (x1_63 * v10) M_63 ls _ _ (lv_sub hl [1, 3] rfl) hP hD hS hf
            · have hf := (if_neg hb12).symm.trans hf
              refine lv_ldcw (v := 100000000) hx hb hown k_constant_RX12_374_100000000 dX12_ship_103 ?_
              refine lv_goto (tgt := 112) hx hb dX12_ship_106 (by decide) ?_
              exact h_112 x2_63 (100000000 : Int32) M_63 ls _ _ (lv_sub hl [1, 3] rfl) hP hD hS hf) 2000
    refine lv_iconst (v := 1) hx hb dX12_ship_59 (by decide) ?_
    refine lv_istore_n (nL := 4) (lv' := [(1, .int (1 : Int32)), (0, .ref (ra 0))]) hx hb dX12_ship_60 rfl hl (by decide) rfl (fun ls hl => ?_)
    refine lv_iconst (v := 0) hx hb dX12_ship_61 (by decide) ?_
    refine lv_istore_n (nL := 4) (lv' := [(2, .int (0 : Int32)), (1, .int (1 : Int32)), (0, .ref (ra 0))]) hx hb dX12_ship_62 rfl hl (by decide) rfl (fun ls hl => ?_)
    exact h_63 (1 : Int32) (0 : Int32) M_59 ls _ _ (lv_sub hl [2, 1, 0] rfl) hP hD hS hf
  have h_29 := lp_ind (z := (fun _ _ => none)) (b := (g_X12_ship_29)) (fun (rc_29 : Int32 → kD → Option (Int32 × kD)) => ∀ (x1_29 : Int32) (M_29 : kD) (ls : Array Slot) (H : Heap) (locs : List Loc), lv_has ls 4 [(0, .ref (ra 0)), (1, .int x1_29)] → va_P (dC, dI) vwCl (mw cB cI cJ cZ ra M_29) H → va_D (mA ra s.heap.size) (mw cB cI cJ cZ ra M_29) → va_S (mA ra s.heap.size) s.heap H locs → rc_29 x1_29 M_29 = some r → W p l e (headSpec wsX12_ship rm_X12_ship).room s m args below meth c H locs 0 0 (MQ below (mQi dC dI cB cI cJ cZ ra s.heap.size r) args s 0 0 (mA ra s.heap.size)) (F0 m 29 ls [])) (by
      intro x1_29 M_29 ls H locs hl hP hD hS hf
      cases hf) (by
      intro rc_29 ih_29 x1_29 M_29 ls H locs hl hP hD hS hf
      unfold g_X12_ship_29 at hf
      refine lv_iload_n hx hb dX12_ship_29 rfl (lv_at hl 1 rfl) ?_
      refine lv_aload_n hx hb dX12_ship_30 rfl (lv_at hl 0 rfl) ?_
      refine km_get hx hb hts hin hown hK hP 3 (by decide) (v := .int (M_29.1 0 3)) k_fieldLink_RX12_18__KeyLettersModel___size___I_ rfl dX12_ship_31 ?_
      refine lv_icmp_ge (tgt := 59) hx hb dX12_ship_34 (by decide) (fun hb19 => ?_) (fun hb19 => ?_)
      · have hf := (if_pos hb19).symm.trans hf
        exact h_59  M_29 ls _ _ (lv_sub hl [0] rfl) hP hD hS hf
      · have hf := (if_neg hb19).symm.trans hf
        refine lv_aload_n hx hb dX12_ship_37 rfl (lv_at hl 0 rfl) ?_
        refine lv_iload_n hx hb dX12_ship_38 rfl (lv_at hl 1 rfl) ?_
        obtain ⟨v15, hq16, hf⟩ := bo_e hf
        refine ko_call (v := some (.int v15)) (km_run (As := [.int x1_29]) (rest := []) ⟨hx, hb, hml, hown, hts⟩ (c_X12_octet l dC dI cB cI cJ cZ ra M_29 x1_29 v15 hq16) (cwV 1 hts gX12_ship_X12_octet rfl rfl rfl (by decide +kernel) ⟨Nat.le_of_ble_eq_true rfl, Nat.le_of_ble_eq_true rfl⟩) hK hP (fun _ _ _ _ => mPr_bl) (fun U hU hW => ⟨by rw [hU]; exact hP, va_K.moved hW.alike hK⟩) rfl rfl hl.1 rfl (lv_room (Nat.le_of_ble_eq_true rfl)) dX12_ship_39 ⟨Nat.le_refl _, Nat.le_refl _⟩) ?_
        refine lv_iconst (v := 1) hx hb dX12_ship_42 (by decide) ?_
        refine lv_bipush (v := 60) hx hb dX12_ship_43 (by decide) ?_
        refine ko_call (v := some (.int (f_X12_isIn v15 (1 : Int32) (60 : Int32)))) (va_runS (As := [.int v15, .int (1 : Int32), .int (60 : Int32)]) (rest := []) ⟨hx, hb, hml, hown, hts⟩ (c_X12_isIn l v15 (1 : Int32) (60 : Int32) _ rfl) (va_cwS 3 hts gX12_ship_X12_isIn rfl rfl rfl (by decide +kernel) ⟨Nat.le_of_ble_eq_true rfl, Nat.le_of_ble_eq_true rfl⟩) ⟨fun a U g mk q => q, fun U hU hW => ⟨rfl, trivial⟩⟩ rfl rfl hl.1 rfl (lv_room (Nat.le_of_ble_eq_true rfl)) dX12_ship_45 ⟨Nat.le_refl _, Nat.le_refl _⟩) ?_
        refine lv_if_ne (tgt := 53) hx hb dX12_ship_48 (by decide) (fun hb18 => ?_) (fun hb18 => ?_)
        · have hf := (if_neg hb18).symm.trans hf
          obtain ⟨v17, ev17, hf⟩ := bd1_e hf
          refine lv_iinc (k := 1) (x := x1_29) (v := v17) (nL := 4) (lv' := [(1, .int v17), (0, .ref (ra 0))]) hx hb dX12_ship_53 hl rfl (kt_inc (w := 1) (by decide) ev17) (by decide) rfl (fun ls hl => ?_)
          refine lv_goto (tgt := 29) hx hb dX12_ship_56 (by decide) ?_
          exact ih_29 v17 M_29 ls _ _ (lv_sub hl [1, 0] rfl) hP hD hS hf
        · have hf := (if_pos hb18).symm.trans hf
          refine lv_iconst (v := -1) hx hb dX12_ship_51 (by decide) ?_
          have hf := Option.some.inj hf
          subst hf
          exact m_iret hx hb hr hlocks hP hK hD hS dX12_ship_52) 2000
  refine lv_aload_n hx hb dX12_ship_0 rfl (lv_at hl 0 rfl) ?_
  refine lv_iconst (v := 0) hx hb dX12_ship_1 (by decide) ?_
  obtain ⟨M20, eM20, hf⟩ := bd1_e hf
  refine km_put hx hb hts hin hown hK hP hD hS 0 (by decide) k_fieldLink_RX12_1__KeyLettersModel___thrown___I_ rfl (ty := .int) (v := .int (0 : Int32)) (by decide +kernel) rfl rfl (M1 := M20) (by rw [eM20]; exact mo_0 cB cI cJ cZ ra M (0 : Int32)) dX12_ship_2 (fun H locs hP hD hS => ?_)
  refine lv_aload_n hx hb dX12_ship_5 rfl (lv_at hl 0 rfl) ?_
  refine lv_sipush (v := 940) hx hb dX12_ship_6 (by decide) ?_
  obtain ⟨M21, hq22, hf⟩ := bo_e hf
  refine km_callwv (M1 := M21) (km_run (As := [.int (940 : Int32)]) (rest := []) ⟨hx, hb, hml, hown, hts⟩ (c_X12_taken l dC dI cB cI cJ cZ ra _ M20 (940 : Int32) M21 hq22) (cwV 1 hts gX12_ship_X12_taken rfl rfl rfl (by decide +kernel) ⟨Nat.le_of_ble_eq_true rfl, Nat.le_of_ble_eq_true rfl⟩) hK hP (fun _ _ _ _ => mPw_bl) (fun U hU hW => ⟨by rw [hU], by rw [hU]; exact hP, va_K.moved hW.alike hK, hD.weaken (fun _ _ _ _ => trivial)⟩) rfl rfl hl.1 rfl (lv_room (Nat.le_of_ble_eq_true rfl)) dX12_ship_9 ⟨Nat.le_refl _, Nat.le_refl _⟩) hD hS hA (fun H locs hP hD hS => ?_)
  refine lv_aload_n hx hb dX12_ship_12 rfl (lv_at hl 0 rfl) ?_
  refine km_get hx hb hts hin hown hK hP 3 (by decide) (v := .int (M21.1 0 3)) k_fieldLink_RX12_18__KeyLettersModel___size___I_ rfl dX12_ship_13 ?_
  refine lv_iconst (v := 1) hx hb dX12_ship_16 (by decide) ?_
  refine lv_bipush (v := 6) hx hb dX12_ship_17 (by decide) ?_
  refine ko_call (v := some (.int (f_X12_isIn (M21.1 0 3) (1 : Int32) (6 : Int32)))) (va_runS (As := [.int (M21.1 0 3), .int (1 : Int32), .int (6 : Int32)]) (rest := []) ⟨hx, hb, hml, hown, hts⟩ (c_X12_isIn l (M21.1 0 3) (1 : Int32) (6 : Int32) _ rfl) (va_cwS 3 hts gX12_ship_X12_isIn rfl rfl rfl (by decide +kernel) ⟨Nat.le_of_ble_eq_true rfl, Nat.le_of_ble_eq_true rfl⟩) ⟨fun a U g mk q => q, fun U hU hW => ⟨rfl, trivial⟩⟩ rfl rfl hl.1 rfl (lv_room (Nat.le_of_ble_eq_true rfl)) dX12_ship_19 ⟨Nat.le_refl _, Nat.le_refl _⟩) ?_
  refine lv_if_ne (tgt := 27) hx hb dX12_ship_22 (by decide) (fun hb23 => ?_) (fun hb23 => ?_)
  · have hf := (if_neg hb23).symm.trans hf
    refine lv_iconst (v := 0) hx hb dX12_ship_27 (by decide) ?_
    refine lv_istore_n (nL := 4) (lv' := [(1, .int (0 : Int32)), (0, .ref (ra 0))]) hx hb dX12_ship_28 rfl hl (by decide) rfl (fun ls hl => ?_)
    exact h_29 (0 : Int32) M21 ls _ _ (lv_sub hl [1, 0] rfl) hP hD hS hf
  · have hf := (if_pos hb23).symm.trans hf
    refine lv_iconst (v := -1) hx hb dX12_ship_25 (by decide) ?_
    have hf := Option.some.inj hf
    subst hf
    exact m_iret hx hb hr hlocks hP hK hD hS dX12_ship_26

abbrev rm_X12_part : Room := { frames := 2, cells := 0, slots := 0, locals := 43 }
set_option maxHeartbeats 4000000 in
set_option maxRecDepth 100000 in
theorem c_X12_part (l : Launch) (dC : Nat → ClassId) (dI : Nat → Nat → Nat) (cB cI cJ cZ : ClassId) (ra : Nat → Nat) (sz : Nat) (M : kD) (a0 : Int32) (a1 : Int32) (r : (Int32 × kD)) (hf : f_X12_part a0 a1 M = some r) : Met l yX12_part wsX12_part rm_X12_part (va_Pc [.ref (ra 0), .int a0, .int a1] (mPw dC dI cB cI cJ cZ ra sz M)) (mQi dC dI cB cI cJ cZ ra sz r) 0 0 (mA ra sz) := by
  refine Met.ofW (cc := cX12_part) (maxL := 3) (ret := (some .int)) (by decide) rfl ?_
  intro p e s m args below meth c s₁ B hml hv
  obtain ⟨hav, hsz, hP, hK, hD0⟩ := hv
  have hx := B.exec
  have hb := B.bytes
  have hr := B.returns
  have hts := atoms_spec (ws := wsX12_part) B.pre
  have hown : s.vm.findClass RX12 = some m.cls := findClass_of_methodNamed B.named
  have hlocks := B.notSynchronized
  subst hsz
  have hA : ∀ q, s.heap.size ≤ q → mA ra s.heap.size q := fun q h => Or.inr h
  have hD : va_D (mA ra s.heap.size) (mw cB cI cJ cZ ra M) := hD0.weaken (fun k q h _ => mA_in h)
  have hS : va_S (mA ra s.heap.size) s.heap s.heap [] := va_S.rf
  have hin : ∀ w ∈ wsX120, w ∈ wsX12_part := fun w h => List.mem_cons_of_mem _ (List.mem_append_right _ h)
  have k_fieldLink_RX12_33__KeyLettersModel___s____I_ := hts (.fieldLink RX12 33 "KeyLettersModel" "s" "[I") (by decide +kernel)
  have hl := lv_entry ([.ref (ra 0), .int a0, .int a1]) (n := 3) (Nat.le_of_ble_eq_true rfl)
  rw [show entryFrame m args 3 = entryFrame m ([.ref (ra 0), .int a0, .int a1] : List Value).toArray 3 from by rw [hav], lg_entry_eq]
  generalize (lg_sl ([.ref (ra 0), .int a0, .int a1]) ++ List.replicate (3 - (lg_sl ([.ref (ra 0), .int a0, .int a1])).length) Slot.unset).toArray = ls at hl ⊢
  have hl : lv_has ls 3 [(0, .ref (ra 0)), (1, .int a0), (2, .int a1)] := hl
  unfold f_X12_part at hf
  have h_32 : ∀ (x1_32 : Int32) (x2_32 : Int32) (t1_32 : Int32) (M_32 : kD) (ls : Array Slot) (H : Heap) (locs : List Loc), lv_has ls 3 [(0, .ref (ra 0)), (1, .int x1_32), (2, .int x2_32)] → va_P (dC, dI) vwCl (mw cB cI cJ cZ ra M_32) H → va_D (mA ra s.heap.size) (mw cB cI cJ cZ ra M_32) → va_S (mA ra s.heap.size) s.heap H locs → g_X12_part_32 x1_32 x2_32 t1_32 M_32 = some r → W p l e (headSpec wsX12_part rm_X12_part).room s m args below meth c H locs 0 0 (MQ below (mQi dC dI cB cI cJ cZ ra s.heap.size r) args s 0 0 (mA ra s.heap.size)) (F0 m 32 ls [.int t1_32, .ref (ra 0)]) := by
    intro x1_32 x2_32 t1_32 M_32 ls H locs hl hP hD hS hf
    unfold g_X12_part_32 at hf
    have h_62 : ∀ (x1_62 : Int32) (t0_62 : Int32) (M_62 : kD) (ls : Array Slot) (H : Heap) (locs : List Loc), lv_has ls 3 [(0, .ref (ra 0)), (1, .int x1_62)] → va_P (dC, dI) vwCl (mw cB cI cJ cZ ra M_62) H → va_D (mA ra s.heap.size) (mw cB cI cJ cZ ra M_62) → va_S (mA ra s.heap.size) s.heap H locs → g_X12_part_62 x1_62 t0_62 M_62 = some r → W p l e (headSpec wsX12_part rm_X12_part).room s m args below meth c H locs 0 0 (MQ below (mQi dC dI cB cI cJ cZ ra s.heap.size r) args s 0 0 (mA ra s.heap.size)) (F0 m 62 ls [.int t0_62]) := by
      intro x1_62 t0_62 M_62 ls H locs hl hP hD hS hf
      unfold g_X12_part_62 at hf
      refine lv_aload_n hx hb dX12_part_62 rfl (lv_at hl 0 rfl) ?_
      refine lv_bipush (v := 56) hx hb dX12_part_63 (by decide) ?_
      obtain ⟨v1, hq2, hf⟩ := bo_e hf
      refine ko_call (v := some (.int v1)) (km_run (As := [.int (56 : Int32)]) (rest := [.int t0_62]) ⟨hx, hb, hml, hown, hts⟩ (c_X12_sumOf l dC dI cB cI cJ cZ ra M_62 (56 : Int32) v1 hq2) (cwV 1 hts gX12_part_X12_sumOf rfl rfl rfl (by decide +kernel) ⟨Nat.le_of_ble_eq_true rfl, Nat.le_of_ble_eq_true rfl⟩) hK hP (fun _ _ _ _ => mPr_bl) (fun U hU hW => ⟨by rw [hU]; exact hP, va_K.moved hW.alike hK⟩) rfl rfl hl.1 rfl (lv_room (Nat.le_of_ble_eq_true rfl)) dX12_part_65 ⟨Nat.le_refl _, Nat.le_refl _⟩) ?_
      refine lv_aload_n hx hb dX12_part_68 rfl (lv_at hl 0 rfl) ?_
      refine km_get hx hb hts hin hown hK hP 6 (by decide) (v := .ref (ra 6)) k_fieldLink_RX12_33__KeyLettersModel___s____I_ rfl dX12_part_69 ?_
      refine lv_bipush (v := 56) hx hb dX12_part_72 (by decide) ?_
      refine lv_iload_n hx hb dX12_part_74 rfl (lv_at hl 1 rfl) ?_
      refine lv_iadd hx hb dX12_part_75 ?_
      obtain ⟨v3, ev3, hf⟩ := bd1_e hf
      refine kt_i ev3 ?_
      obtain ⟨hc4, hf⟩ := ck_e hf
      refine va_iald hx hb hK hP 2 1 rfl rfl hc4 dX12_part_76 ?_
      obtain ⟨v5, hq6, hf⟩ := bo_e hf
      refine ko_call (v := some (.int v5)) (va_runS (As := [.int v1, .int (M_62.1 6 v3.toNatClampNeg)]) (rest := [.int t0_62]) ⟨hx, hb, hml, hown, hts⟩ (c_X12_common l v1 (M_62.1 6 v3.toNatClampNeg) v5 hq6) (va_cwS 2 hts gX12_part_X12_common rfl rfl rfl (by decide +kernel) ⟨Nat.le_of_ble_eq_true rfl, Nat.le_of_ble_eq_true rfl⟩) ⟨fun a U g mk q => q, fun U hU hW => ⟨rfl, trivial⟩⟩ rfl rfl hl.1 rfl (lv_room (Nat.le_of_ble_eq_true rfl)) dX12_part_77 ⟨Nat.le_refl _, Nat.le_refl _⟩) ?_
      obtain ⟨hc7, hf⟩ := ck_e hf
      refine lv_idiv hx hb dX12_part_80 hc7 ?_
      have hf := Option.some.inj hf
      subst hf
      exact m_iret hx hb hr hlocks hP hK hD hS dX12_part_81
    obtain ⟨v9, M8, hq10, hf⟩ := bo2_e hf
    refine km_callw (v := v9) (M1 := M8) rfl (km_run (As := [.int t1_32]) (rest := []) ⟨hx, hb, hml, hown, hts⟩ (c_X12_throwsIf l dC dI cB cI cJ cZ ra _ M_32 t1_32 (v9, M8) hq10) (cwV 1 hts gX12_part_X12_throwsIf rfl rfl rfl (by decide +kernel) ⟨Nat.le_of_ble_eq_true rfl, Nat.le_of_ble_eq_true rfl⟩) hK hP (fun _ _ _ _ => mPw_bl) (fun U hU hW => ⟨by rw [hU], by rw [hU]; exact hP, va_K.moved hW.alike hK, hD.weaken (fun _ _ _ _ => trivial)⟩) rfl rfl hl.1 rfl (lv_room (Nat.le_of_ble_eq_true rfl)) dX12_part_32 ⟨Nat.le_refl _, Nat.le_refl _⟩) hD hS hA (fun H locs hP hD hS => ?_)
    refine lv_if_eq (tgt := 40) hx hb dX12_part_35 (by decide) (fun hb16 => ?_) (fun hb16 => ?_)
    · have hf := (if_pos hb16).symm.trans hf
      refine lv_iload_n hx hb dX12_part_40 rfl (lv_at hl 2 rfl) ?_
      refine lv_if_ne (tgt := 56) hx hb dX12_part_41 (by decide) (fun hb15 => ?_) (fun hb15 => ?_)
      · have hf := (if_neg hb15).symm.trans hf
        refine lv_aload_n hx hb dX12_part_56 rfl (lv_at hl 0 rfl) ?_
        refine lv_bipush (v := 56) hx hb dX12_part_57 (by decide) ?_
        obtain ⟨v11, hq12, hf⟩ := bo_e hf
        refine ko_call (v := some (.int v11)) (km_run (As := [.int (56 : Int32)]) (rest := []) ⟨hx, hb, hml, hown, hts⟩ (c_X12_sumOf l dC dI cB cI cJ cZ ra M8 (56 : Int32) v11 hq12) (cwV 1 hts gX12_part_X12_sumOf rfl rfl rfl (by decide +kernel) ⟨Nat.le_of_ble_eq_true rfl, Nat.le_of_ble_eq_true rfl⟩) hK hP (fun _ _ _ _ => mPr_bl) (fun U hU hW => ⟨by rw [hU]; exact hP, va_K.moved hW.alike hK⟩) rfl rfl hl.1 rfl (lv_room (Nat.le_of_ble_eq_true rfl)) dX12_part_59 ⟨Nat.le_refl _, Nat.le_refl _⟩) ?_
        exact h_62 x1_32 v11 M8 ls _ _ (lv_sub hl [0, 1] rfl) hP hD hS hf
      · have hf := (if_pos hb15).symm.trans hf
        refine lv_aload_n hx hb dX12_part_44 rfl (lv_at hl 0 rfl) ?_
        refine km_get hx hb hts hin hown hK hP 6 (by decide) (v := .ref (ra 6)) k_fieldLink_RX12_33__KeyLettersModel___s____I_ rfl dX12_part_45 ?_
        refine lv_bipush (v := 56) hx hb dX12_part_48 (by decide) ?_
        refine lv_iload_n hx hb dX12_part_50 rfl (lv_at hl 1 rfl) ?_
        refine lv_iadd hx hb dX12_part_51 ?_
        obtain ⟨v13, ev13, hf⟩ := bd1_e hf
        refine kt_i ev13 ?_
        obtain ⟨hc14, hf⟩ := ck_e hf
        refine va_iald hx hb hK hP 2 1 rfl rfl hc14 dX12_part_52 ?_
        refine lv_goto (tgt := 62) hx hb dX12_part_53 (by decide) ?_
        exact h_62 x1_32 (M8.1 6 v13.toNatClampNeg) M8 ls _ _ (lv_sub hl [0, 1] rfl) hP hD hS hf
    · have hf := (if_neg hb16).symm.trans hf
      refine lv_iconst (v := 0) hx hb dX12_part_38 (by decide) ?_
      have hf := Option.some.inj hf
      subst hf
      exact m_iret hx hb hr hlocks hP hK hD hS dX12_part_39
  have h_27 : ∀ (x1_27 : Int32) (x2_27 : Int32) (M_27 : kD) (ls : Array Slot) (H : Heap) (locs : List Loc), lv_has ls 3 [(0, .ref (ra 0)), (1, .int x1_27), (2, .int x2_27)] → va_P (dC, dI) vwCl (mw cB cI cJ cZ ra M_27) H → va_D (mA ra s.heap.size) (mw cB cI cJ cZ ra M_27) → va_S (mA ra s.heap.size) s.heap H locs → g_X12_part_27 x1_27 x2_27 M_27 = some r → W p l e (headSpec wsX12_part rm_X12_part).room s m args below meth c H locs 0 0 (MQ below (mQi dC dI cB cI cJ cZ ra s.heap.size r) args s 0 0 (mA ra s.heap.size)) (F0 m 27 ls [.ref (ra 0)]) := by
    intro x1_27 x2_27 M_27 ls H locs hl hP hD hS hf
    unfold g_X12_part_27 at hf
    refine lv_iconst (v := 1) hx hb dX12_part_27 (by decide) ?_
    refine lv_goto (tgt := 32) hx hb dX12_part_28 (by decide) ?_
    exact h_32 x1_27 x2_27 (1 : Int32) M_27 ls _ _ hl hP hD hS hf
  refine lv_aload_n hx hb dX12_part_0 rfl (lv_at hl 0 rfl) ?_
  refine lv_aload_n hx hb dX12_part_1 rfl (lv_at hl 0 rfl) ?_
  refine lv_iload_n hx hb dX12_part_2 rfl (lv_at hl 1 rfl) ?_
  obtain ⟨v17, hq18, hf⟩ := bo_e hf
  refine ko_call (v := some (.int v17)) (km_run (As := [.int a0]) (rest := [.ref (ra 0)]) ⟨hx, hb, hml, hown, hts⟩ (c_X12_isMachine l dC dI cB cI cJ cZ ra M a0 v17 hq18) (cwV 1 hts gX12_part_X12_isMachine rfl rfl rfl (by decide +kernel) ⟨Nat.le_of_ble_eq_true rfl, Nat.le_of_ble_eq_true rfl⟩) hK hP (fun _ _ _ _ => mPr_bl) (fun U hU hW => ⟨by rw [hU]; exact hP, va_K.moved hW.alike hK⟩) rfl rfl hl.1 rfl (lv_room (Nat.le_of_ble_eq_true rfl)) dX12_part_3 ⟨Nat.le_refl _, Nat.le_refl _⟩) ?_
  refine lv_if_eq (tgt := 27) hx hb dX12_part_6 (by decide) (fun hb23 => ?_) (fun hb23 => ?_)
  · have hf := (if_pos hb23).symm.trans hf
    exact h_27 a0 a1 M ls _ _ hl hP hD hS hf
  · have hf := (if_neg hb23).symm.trans hf
    refine lv_iload_n hx hb dX12_part_9 rfl (lv_at hl 2 rfl) ?_
    refine lv_iconst (v := 0) hx hb dX12_part_10 (by decide) ?_
    refine lv_iconst (v := 1) hx hb dX12_part_11 (by decide) ?_
    refine ko_call (v := some (.int (f_X12_isIn a1 (0 : Int32) (1 : Int32)))) (va_runS (As := [.int a1, .int (0 : Int32), .int (1 : Int32)]) (rest := [.ref (ra 0)]) ⟨hx, hb, hml, hown, hts⟩ (c_X12_isIn l a1 (0 : Int32) (1 : Int32) _ rfl) (va_cwS 3 hts gX12_part_X12_isIn rfl rfl rfl (by decide +kernel) ⟨Nat.le_of_ble_eq_true rfl, Nat.le_of_ble_eq_true rfl⟩) ⟨fun a U g mk q => q, fun U hU hW => ⟨rfl, trivial⟩⟩ rfl rfl hl.1 rfl (lv_room (Nat.le_of_ble_eq_true rfl)) dX12_part_12 ⟨Nat.le_refl _, Nat.le_refl _⟩) ?_
    refine lv_if_eq (tgt := 27) hx hb dX12_part_15 (by decide) (fun hb22 => ?_) (fun hb22 => ?_)
    · have hf := (if_pos hb22).symm.trans hf
      exact h_27 a0 a1 M ls _ _ hl hP hD hS hf
    · have hf := (if_neg hb22).symm.trans hf
      refine lv_aload_n hx hb dX12_part_18 rfl (lv_at hl 0 rfl) ?_
      refine lv_bipush (v := 56) hx hb dX12_part_19 (by decide) ?_
      obtain ⟨v19, hq20, hf⟩ := bo_e hf
      refine ko_call (v := some (.int v19)) (km_run (As := [.int (56 : Int32)]) (rest := [.ref (ra 0)]) ⟨hx, hb, hml, hown, hts⟩ (c_X12_sumOf l dC dI cB cI cJ cZ ra M (56 : Int32) v19 hq20) (cwV 1 hts gX12_part_X12_sumOf rfl rfl rfl (by decide +kernel) ⟨Nat.le_of_ble_eq_true rfl, Nat.le_of_ble_eq_true rfl⟩) hK hP (fun _ _ _ _ => mPr_bl) (fun U hU hW => ⟨by rw [hU]; exact hP, va_K.moved hW.alike hK⟩) rfl rfl hl.1 rfl (lv_room (Nat.le_of_ble_eq_true rfl)) dX12_part_21 ⟨Nat.le_refl _, Nat.le_refl _⟩) ?_
      refine lv_if_ne (tgt := 31) hx hb dX12_part_24 (by decide) (fun hb21 => ?_) (fun hb21 => ?_)
      · have hf := (if_neg hb21).symm.trans hf
        refine lv_iconst (v := 0) hx hb dX12_part_31 (by decide) ?_
        exact h_32 a0 a1 (0 : Int32) M ls _ _ hl hP hD hS hf
      · have hf := (if_pos hb21).symm.trans hf
        exact h_27 a0 a1 M ls _ _ hl hP hD hS hf

abbrev rm_X12_lays : Room := { frames := 0, cells := 0, slots := 0, locals := 0 }
set_option maxHeartbeats 4000000 in
set_option maxRecDepth 100000 in
theorem c_X12_lays (l : Launch) (dC : Nat → ClassId) (dI : Nat → Nat → Nat) (cB cI cJ cZ : ClassId) (ra : Nat → Nat) (sz : Nat) (M : kD) (a0 : Int32) (r : kD) (hf : f_X12_lays a0 M = some r) : Met l yX12_lays wsX12_lays rm_X12_lays (va_Pc [.ref (ra 0), .int a0] (mPw dC dI cB cI cJ cZ ra sz M)) (mQv dC dI cB cI cJ cZ ra sz r) 0 0 (mA ra sz) := by
  refine Met.ofW (cc := cX12_lays) (maxL := 2) (ret := none) (by decide) rfl ?_
  intro p e s m args below meth c s₁ B hml hv
  obtain ⟨hav, hsz, hP, hK, hD0⟩ := hv
  have hx := B.exec
  have hb := B.bytes
  have hr := B.returns
  have hts := atoms_spec (ws := wsX12_lays) B.pre
  have hown : s.vm.findClass RX12 = some m.cls := findClass_of_methodNamed B.named
  have hlocks := B.notSynchronized
  subst hsz
  have hA : ∀ q, s.heap.size ≤ q → mA ra s.heap.size q := fun q h => Or.inr h
  have hD : va_D (mA ra s.heap.size) (mw cB cI cJ cZ ra M) := hD0.weaken (fun k q h _ => mA_in h)
  have hS : va_S (mA ra s.heap.size) s.heap s.heap [] := va_S.rf
  have hin : ∀ w ∈ wsX120, w ∈ wsX12_lays := fun w h => List.mem_cons_of_mem _ (List.mem_append_right _ h)
  have k_fieldLink_RX12_375__KeyLettersModel___textMany___I_ := hts (.fieldLink RX12 375 "KeyLettersModel" "textMany" "I") (by decide +kernel)
  have k_fieldLink_RX12_77__KeyLettersModel___text____B_ := hts (.fieldLink RX12 77 "KeyLettersModel" "text" "[B") (by decide +kernel)
  have hl := lv_entry ([.ref (ra 0), .int a0]) (n := 2) (Nat.le_of_ble_eq_true rfl)
  rw [show entryFrame m args 2 = entryFrame m ([.ref (ra 0), .int a0] : List Value).toArray 2 from by rw [hav], lg_entry_eq]
  generalize (lg_sl ([.ref (ra 0), .int a0]) ++ List.replicate (2 - (lg_sl ([.ref (ra 0), .int a0])).length) Slot.unset).toArray = ls at hl ⊢
  have hl : lv_has ls 2 [(0, .ref (ra 0)), (1, .int a0)] := hl
  unfold f_X12_lays at hf
  refine lv_aload_n hx hb dX12_lays_0 rfl (lv_at hl 0 rfl) ?_
  refine km_get hx hb hts hin hown hK hP 33 (by decide) (v := .ref (ra 33)) k_fieldLink_RX12_77__KeyLettersModel___text____B_ rfl dX12_lays_1 ?_
  refine lv_aload_n hx hb dX12_lays_4 rfl (lv_at hl 0 rfl) ?_
  refine km_get hx hb hts hin hown hK hP 34 (by decide) (v := .int (M.1 0 34)) k_fieldLink_RX12_375__KeyLettersModel___textMany___I_ rfl dX12_lays_5 ?_
  refine lv_iload_n hx hb dX12_lays_8 rfl (lv_at hl 1 rfl) ?_
  refine lv_i2b (v := (kI2b a0)) hx hb dX12_lays_9 rfl ?_
  obtain ⟨hc1, hf⟩ := ck_e hf
  obtain ⟨M2, eM2, hf⟩ := bd1_e hf
  refine va_bast hx hb hK hP hD hS 14 0 rfl rfl hc1 dX12_lays_10 (fun H locs hP hD hS => ?_)
  have hP : va_P (dC, dI) vwCl (mw cB cI cJ cZ ra M2) H := by rw [eM2, ← ma_33 cB cI cJ cZ ra M (M.1 0 34).toNatClampNeg (vp_nar .byte (kI2b a0))]; exact hP
  have hD : va_D (mA ra s.heap.size) (mw cB cI cJ cZ ra M2) := by rw [eM2, ← ma_33 cB cI cJ cZ ra M (M.1 0 34).toNatClampNeg (vp_nar .byte (kI2b a0))]; exact hD
  refine lv_aload_n hx hb dX12_lays_11 rfl (lv_at hl 0 rfl) ?_
  refine lv_dup hx hb dX12_lays_12 rfl ?_
  refine km_get hx hb hts hin hown hK hP 34 (by decide) (v := .int (M2.1 0 34)) k_fieldLink_RX12_375__KeyLettersModel___textMany___I_ rfl dX12_lays_13 ?_
  refine lv_iconst (v := 1) hx hb dX12_lays_16 (by decide) ?_
  refine lv_iadd hx hb dX12_lays_17 ?_
  obtain ⟨M3, eM3, hf⟩ := bd1_e hf
  refine km_put hx hb hts hin hown hK hP hD hS 34 (by decide) k_fieldLink_RX12_375__KeyLettersModel___textMany___I_ rfl (ty := .int) (v := .int ((M2.1 0 34) + (1 : Int32))) (by decide +kernel) rfl rfl (M1 := M3) (by rw [eM3]; exact mo_34 cB cI cJ cZ ra M2 ((M2.1 0 34) + (1 : Int32))) dX12_lays_18 (fun H locs hP hD hS => ?_)
  have hf := Option.some.inj hf
  subst hf
  exact m_vret hx hb hr hlocks hP hK hD hS dX12_lays_21

abbrev rm_X12_spells : Room := { frames := 1, cells := 0, slots := 0, locals := 21 }
set_option maxHeartbeats 4000000 in
set_option maxRecDepth 100000 in
theorem c_X12_spells (l : Launch) (dC : Nat → ClassId) (dI : Nat → Nat → Nat) (cB cI cJ cZ : ClassId) (ra : Nat → Nat) (sz : Nat) (M : kD) (a0 : Int64) (r : kD) (hf : f_X12_spells a0 M = some r) : Met l yX12_spells wsX12_spells rm_X12_spells (va_Pc [.ref (ra 0), .long a0] (mPw dC dI cB cI cJ cZ ra sz M)) (mQv dC dI cB cI cJ cZ ra sz r) 0 0 (mA ra sz) := by
  refine Met.ofW (cc := cX12_spells) (maxL := 4) (ret := none) (by decide) rfl ?_
  intro p e s m args below meth c s₁ B hml hv
  obtain ⟨hav, hsz, hP, hK, hD0⟩ := hv
  have hx := B.exec
  have hb := B.bytes
  have hr := B.returns
  have hts := atoms_spec (ws := wsX12_spells) B.pre
  have hown : s.vm.findClass RX12 = some m.cls := findClass_of_methodNamed B.named
  have hlocks := B.notSynchronized
  subst hsz
  have hA : ∀ q, s.heap.size ≤ q → mA ra s.heap.size q := fun q h => Or.inr h
  have hD : va_D (mA ra s.heap.size) (mw cB cI cJ cZ ra M) := hD0.weaken (fun k q h _ => mA_in h)
  have hS : va_S (mA ra s.heap.size) s.heap s.heap [] := va_S.rf
  have hin : ∀ w ∈ wsX120, w ∈ wsX12_spells := fun w h => List.mem_cons_of_mem _ (List.mem_append_right _ h)
  have k_constantLong_RX12_348_255 := hts (.constantLong RX12 348 255) (by decide +kernel)
  have hl := lv_entry ([.ref (ra 0), .long a0]) (n := 4) (Nat.le_of_ble_eq_true rfl)
  rw [show entryFrame m args 4 = entryFrame m ([.ref (ra 0), .long a0] : List Value).toArray 4 from by rw [hav], lg_entry_eq]
  generalize (lg_sl ([.ref (ra 0), .long a0]) ++ List.replicate (4 - (lg_sl ([.ref (ra 0), .long a0])).length) Slot.unset).toArray = ls at hl ⊢
  have hl : lv_has ls 4 [(0, .ref (ra 0)), (1, .long a0)] := hl
  unfold f_X12_spells at hf
  have h_3 := lp_ind (z := (fun _ _ _ => none)) (b := (g_X12_spells_3)) (fun (rc_3 : Int64 → Int32 → kD → Option kD) => ∀ (x1_3 : Int64) (x3_3 : Int32) (M_3 : kD) (ls : Array Slot) (H : Heap) (locs : List Loc), lv_has ls 4 [(0, .ref (ra 0)), (1, .long x1_3), (3, .int x3_3)] → va_P (dC, dI) vwCl (mw cB cI cJ cZ ra M_3) H → va_D (mA ra s.heap.size) (mw cB cI cJ cZ ra M_3) → va_S (mA ra s.heap.size) s.heap H locs → rc_3 x1_3 x3_3 M_3 = some r → W p l e (headSpec wsX12_spells rm_X12_spells).room s m args below meth c H locs 0 0 (MQ below (mQv dC dI cB cI cJ cZ ra s.heap.size r) args s 0 0 (mA ra s.heap.size)) (F0 m 3 ls [])) (by
      intro x1_3 x3_3 M_3 ls H locs hl hP hD hS hf
      cases hf) (by
      intro rc_3 ih_3 x1_3 x3_3 M_3 ls H locs hl hP hD hS hf
      unfold g_X12_spells_3 at hf
      have h_31 : ∀ (x1_31 : Int64) (x3_31 : Int32) (M_31 : kD) (ls : Array Slot) (H : Heap) (locs : List Loc), lv_has ls 4 [(0, .ref (ra 0)), (1, .long x1_31), (3, .int x3_31)] → va_P (dC, dI) vwCl (mw cB cI cJ cZ ra M_31) H → va_D (mA ra s.heap.size) (mw cB cI cJ cZ ra M_31) → va_S (mA ra s.heap.size) s.heap H locs → g_X12_spells_31 rc_3 x1_31 x3_31 M_31 = some r → W p l e (headSpec wsX12_spells rm_X12_spells).room s m args below meth c H locs 0 0 (MQ below (mQv dC dI cB cI cJ cZ ra s.heap.size r) args s 0 0 (mA ra s.heap.size)) (F0 m 31 ls []) := by
        intro x1_31 x3_31 M_31 ls H locs hl hP hD hS hf
        unfold g_X12_spells_31 at hf
        obtain ⟨v1, ev1, hf⟩ := bd1_e hf
        refine lv_iinc (k := 2) (x := x3_31) (v := v1) (nL := 4) (lv' := [(3, .int v1), (0, .ref (ra 0)), (1, .long x1_31)]) hx hb dX12_spells_31 hl rfl (kt_inc (w := (-8)) (by decide) ev1) (by decide) rfl (fun ls hl => ?_)
        refine lv_goto (tgt := 3) hx hb dX12_spells_34 (by decide) ?_
        exact ih_3 x1_31 v1 M_31 ls _ _ (lv_sub hl [1, 2, 0] rfl) hP hD hS hf
      refine lv_iload_n hx hb dX12_spells_3 rfl (lv_at hl 2 rfl) ?_
      refine lv_if_lt (tgt := 37) hx hb dX12_spells_4 (by decide) (fun hb5 => ?_) (fun hb5 => ?_)
      · have hf := (if_pos hb5).symm.trans hf
        have hf := Option.some.inj hf
        subst hf
        exact m_vret hx hb hr hlocks hP hK hD hS dX12_spells_37
      · have hf := (if_neg hb5).symm.trans hf
        refine lv_lload_n hx hb dX12_spells_7 rfl (lv_at hl 1 rfl) ?_
        refine lv_iload_n hx hb dX12_spells_8 rfl (lv_at hl 2 rfl) ?_
        refine lv_lshr (v := (x1_3 >>> (x3_3.toInt64 &&& 63))) hx hb dX12_spells_9 rfl ?_
        refine lv_ldc2 (v := 255) hx hb hown k_constantLong_RX12_348_255 dX12_spells_10 ?_
        refine lv_land hx hb dX12_spells_13 ?_
        refine lv_lconst (v := 0) hx hb dX12_spells_14 (by decide) ?_
        refine W.lcmp hx hb dX12_spells_15 ?_
        refine lv_if_eq (tgt := 31) hx hb dX12_spells_16 (by decide) (fun hb4 => ?_) (fun hb4 => ?_)
        · have hf := (if_pos hb4).symm.trans hf
          exact h_31 x1_3 x3_3 M_3 ls _ _ hl hP hD hS hf
        · have hf := (if_neg hb4).symm.trans hf
          refine lv_aload_n hx hb dX12_spells_19 rfl (lv_at hl 0 rfl) ?_
          refine lv_lload_n hx hb dX12_spells_20 rfl (lv_at hl 1 rfl) ?_
          refine lv_iload_n hx hb dX12_spells_21 rfl (lv_at hl 2 rfl) ?_
          refine lv_lshr (v := (x1_3 >>> (x3_3.toInt64 &&& 63))) hx hb dX12_spells_22 rfl ?_
          refine lv_ldc2 (v := 255) hx hb hown k_constantLong_RX12_348_255 dX12_spells_23 ?_
          refine lv_land hx hb dX12_spells_26 ?_
          refine lv_l2i (v := (((x1_3 >>> (x3_3.toInt64 &&& 63)) &&& (255 : Int64)).toInt32)) hx hb dX12_spells_27 rfl ?_
          obtain ⟨M2, hq3, hf⟩ := bo_e hf
          refine km_callwv (M1 := M2) (km_run (As := [.int (((x1_3 >>> (x3_3.toInt64 &&& 63)) &&& (255 : Int64)).toInt32)]) (rest := []) ⟨hx, hb, hml, hown, hts⟩ (c_X12_lays l dC dI cB cI cJ cZ ra _ M_3 (((x1_3 >>> (x3_3.toInt64 &&& 63)) &&& (255 : Int64)).toInt32) M2 hq3) (cwV 1 hts gX12_spells_X12_lays rfl rfl rfl (by decide +kernel) ⟨Nat.le_of_ble_eq_true rfl, Nat.le_of_ble_eq_true rfl⟩) hK hP (fun _ _ _ _ => mPw_bl) (fun U hU hW => ⟨by rw [hU], by rw [hU]; exact hP, va_K.moved hW.alike hK, hD.weaken (fun _ _ _ _ => trivial)⟩) rfl rfl hl.1 rfl (lv_room (Nat.le_of_ble_eq_true rfl)) dX12_spells_28 ⟨Nat.le_refl _, Nat.le_refl _⟩) hD hS hA (fun H locs hP hD hS => ?_)
          exact h_31 x1_3 x3_3 M2 ls _ _ hl hP hD hS hf) 2000
  refine lv_bipush (v := 56) hx hb dX12_spells_0 (by decide) ?_
  refine lv_istore_n (nL := 4) (lv' := [(3, .int (56 : Int32)), (0, .ref (ra 0)), (1, .long a0)]) hx hb dX12_spells_2 rfl hl (by decide) rfl (fun ls hl => ?_)
  exact h_3 a0 (56 : Int32) M ls _ _ (lv_sub hl [1, 2, 0] rfl) hP hD hS hf

abbrev rm_X12_says : Room := { frames := 2, cells := 0, slots := 0, locals := 44 }
set_option maxHeartbeats 4000000 in
set_option maxRecDepth 100000 in
theorem c_X12_says (l : Launch) (dC : Nat → ClassId) (dI : Nat → Nat → Nat) (cB cI cJ cZ : ClassId) (ra : Nat → Nat) (sz : Nat) (M : kD) (a0 : Int64) (r : kD) (hf : f_X12_says a0 M = some r) : Met l yX12_says wsX12_says rm_X12_says (va_Pc [.ref (ra 0), .long a0] (mPw dC dI cB cI cJ cZ ra sz M)) (mQv dC dI cB cI cJ cZ ra sz r) 0 0 (mA ra sz) := by
  refine Met.ofW (cc := cX12_says) (maxL := 3) (ret := none) (by decide) rfl ?_
  intro p e s m args below meth c s₁ B hml hv
  obtain ⟨hav, hsz, hP, hK, hD0⟩ := hv
  have hx := B.exec
  have hb := B.bytes
  have hr := B.returns
  have hts := atoms_spec (ws := wsX12_says) B.pre
  have hown : s.vm.findClass RX12 = some m.cls := findClass_of_methodNamed B.named
  have hlocks := B.notSynchronized
  subst hsz
  have hA : ∀ q, s.heap.size ≤ q → mA ra s.heap.size q := fun q h => Or.inr h
  have hD : va_D (mA ra s.heap.size) (mw cB cI cJ cZ ra M) := hD0.weaken (fun k q h _ => mA_in h)
  have hS : va_S (mA ra s.heap.size) s.heap s.heap [] := va_S.rf
  have hin : ∀ w ∈ wsX120, w ∈ wsX12_says := fun w h => List.mem_cons_of_mem _ (List.mem_append_right _ h)
  have hl := lv_entry ([.ref (ra 0), .long a0]) (n := 3) (Nat.le_of_ble_eq_true rfl)
  rw [show entryFrame m args 3 = entryFrame m ([.ref (ra 0), .long a0] : List Value).toArray 3 from by rw [hav], lg_entry_eq]
  generalize (lg_sl ([.ref (ra 0), .long a0]) ++ List.replicate (3 - (lg_sl ([.ref (ra 0), .long a0])).length) Slot.unset).toArray = ls at hl ⊢
  have hl : lv_has ls 3 [(0, .ref (ra 0)), (1, .long a0)] := hl
  unfold f_X12_says at hf
  refine lv_aload_n hx hb dX12_says_0 rfl (lv_at hl 0 rfl) ?_
  refine lv_bipush (v := 32) hx hb dX12_says_1 (by decide) ?_
  obtain ⟨M1, hq2, hf⟩ := bo_e hf
  refine km_callwv (M1 := M1) (km_run (As := [.int (32 : Int32)]) (rest := []) ⟨hx, hb, hml, hown, hts⟩ (c_X12_lays l dC dI cB cI cJ cZ ra _ M (32 : Int32) M1 hq2) (cwV 1 hts gX12_says_X12_lays rfl rfl rfl (by decide +kernel) ⟨Nat.le_of_ble_eq_true rfl, Nat.le_of_ble_eq_true rfl⟩) hK hP (fun _ _ _ _ => mPw_bl) (fun U hU hW => ⟨by rw [hU], by rw [hU]; exact hP, va_K.moved hW.alike hK, hD.weaken (fun _ _ _ _ => trivial)⟩) rfl rfl hl.1 rfl (lv_room (Nat.le_of_ble_eq_true rfl)) dX12_says_3 ⟨Nat.le_refl _, Nat.le_refl _⟩) hD hS hA (fun H locs hP hD hS => ?_)
  refine lv_aload_n hx hb dX12_says_6 rfl (lv_at hl 0 rfl) ?_
  refine lv_lload_n hx hb dX12_says_7 rfl (lv_at hl 1 rfl) ?_
  obtain ⟨M3, hq4, hf⟩ := bo_e hf
  refine km_callwv (M1 := M3) (km_run (As := [.long a0]) (rest := []) ⟨hx, hb, hml, hown, hts⟩ (c_X12_spells l dC dI cB cI cJ cZ ra _ M1 a0 M3 hq4) (cwV 1 hts gX12_says_X12_spells rfl rfl rfl (by decide +kernel) ⟨Nat.le_of_ble_eq_true rfl, Nat.le_of_ble_eq_true rfl⟩) hK hP (fun _ _ _ _ => mPw_bl) (fun U hU hW => ⟨by rw [hU], by rw [hU]; exact hP, va_K.moved hW.alike hK, hD.weaken (fun _ _ _ _ => trivial)⟩) rfl rfl hl.1 rfl (lv_room (Nat.le_of_ble_eq_true rfl)) dX12_says_8 ⟨Nat.le_refl _, Nat.le_refl _⟩) hD hS hA (fun H locs hP hD hS => ?_)
  have hf := Option.some.inj hf
  subst hf
  exact m_vret hx hb hr hlocks hP hK hD hS dX12_says_11

abbrev rm_X12_digits : Room := { frames := 1, cells := 0, slots := 0, locals := 21 }
set_option maxHeartbeats 4000000 in
set_option maxRecDepth 100000 in
theorem c_X12_digits (l : Launch) (dC : Nat → ClassId) (dI : Nat → Nat → Nat) (cB cI cJ cZ : ClassId) (ra : Nat → Nat) (sz : Nat) (M : kD) (a0 : Int32) (r : kD) (hf : f_X12_digits a0 M = some r) : Met l yX12_digits wsX12_digits rm_X12_digits (va_Pc [.ref (ra 0), .int a0] (mPw dC dI cB cI cJ cZ ra sz M)) (mQv dC dI cB cI cJ cZ ra sz r) 0 0 (mA ra sz) := by
  refine Met.ofW (cc := cX12_digits) (maxL := 3) (ret := none) (by decide) rfl ?_
  intro p e s m args below meth c s₁ B hml hv
  obtain ⟨hav, hsz, hP, hK, hD0⟩ := hv
  have hx := B.exec
  have hb := B.bytes
  have hr := B.returns
  have hts := atoms_spec (ws := wsX12_digits) B.pre
  have hown : s.vm.findClass RX12 = some m.cls := findClass_of_methodNamed B.named
  have hlocks := B.notSynchronized
  subst hsz
  have hA : ∀ q, s.heap.size ≤ q → mA ra s.heap.size q := fun q h => Or.inr h
  have hD : va_D (mA ra s.heap.size) (mw cB cI cJ cZ ra M) := hD0.weaken (fun k q h _ => mA_in h)
  have hS : va_S (mA ra s.heap.size) s.heap s.heap [] := va_S.rf
  have hin : ∀ w ∈ wsX120, w ∈ wsX12_digits := fun w h => List.mem_cons_of_mem _ (List.mem_append_right _ h)
  have hl := lv_entry ([.ref (ra 0), .int a0]) (n := 3) (Nat.le_of_ble_eq_true rfl)
  rw [show entryFrame m args 3 = entryFrame m ([.ref (ra 0), .int a0] : List Value).toArray 3 from by rw [hav], lg_entry_eq]
  generalize (lg_sl ([.ref (ra 0), .int a0]) ++ List.replicate (3 - (lg_sl ([.ref (ra 0), .int a0])).length) Slot.unset).toArray = ls at hl ⊢
  have hl : lv_has ls 3 [(0, .ref (ra 0)), (1, .int a0)] := hl
  unfold f_X12_digits at hf
  have h_24 := lp_ind (z := (fun _ _ _ => none)) (b := (g_X12_digits_24)) (fun (rc_24 : Int32 → Int32 → kD → Option kD) => ∀ (x1_24 : Int32) (x2_24 : Int32) (M_24 : kD) (ls : Array Slot) (H : Heap) (locs : List Loc), lv_has ls 3 [(0, .ref (ra 0)), (1, .int x1_24), (2, .int x2_24)] → va_P (dC, dI) vwCl (mw cB cI cJ cZ ra M_24) H → va_D (mA ra s.heap.size) (mw cB cI cJ cZ ra M_24) → va_S (mA ra s.heap.size) s.heap H locs → rc_24 x1_24 x2_24 M_24 = some r → W p l e (headSpec wsX12_digits rm_X12_digits).room s m args below meth c H locs 0 0 (MQ below (mQv dC dI cB cI cJ cZ ra s.heap.size r) args s 0 0 (mA ra s.heap.size)) (F0 m 24 ls [])) (by
      intro x1_24 x2_24 M_24 ls H locs hl hP hD hS hf
      cases hf) (by
      intro rc_24 ih_24 x1_24 x2_24 M_24 ls H locs hl hP hD hS hf
      unfold g_X12_digits_24 at hf
      refine lv_iload_n hx hb dX12_digits_24 rfl (lv_at hl 2 rfl) ?_
      refine lv_if_le (tgt := 49) hx hb dX12_digits_25 (by decide) (fun hb5 => ?_) (fun hb5 => ?_)
      · have hf := (if_pos hb5).symm.trans hf
        have hf := Option.some.inj hf
        subst hf
        exact m_vret hx hb hr hlocks hP hK hD hS dX12_digits_49
      · have hf := (if_neg hb5).symm.trans hf
        refine lv_aload_n hx hb dX12_digits_28 rfl (lv_at hl 0 rfl) ?_
        refine lv_bipush (v := 48) hx hb dX12_digits_29 (by decide) ?_
        refine lv_iload_n hx hb dX12_digits_31 rfl (lv_at hl 1 rfl) ?_
        refine lv_iload_n hx hb dX12_digits_32 rfl (lv_at hl 2 rfl) ?_
        obtain ⟨hc1, hf⟩ := ck_e hf
        refine lv_idiv hx hb dX12_digits_33 hc1 ?_
        refine lv_bipush (v := 10) hx hb dX12_digits_34 (by decide) ?_
        refine lv_irem hx hb dX12_digits_36 (by decide) ?_
        refine lv_iadd hx hb dX12_digits_37 ?_
        obtain ⟨M2, hq3, hf⟩ := bo_e hf
        refine km_callwv (M1 := M2) (km_run (As := [.int ((48 : Int32) + (kRem (x1_24 / x2_24) (10 : Int32)))]) (rest := []) ⟨hx, hb, hml, hown, hts⟩ (c_X12_lays l dC dI cB cI cJ cZ ra _ M_24 ((48 : Int32) + (kRem (x1_24 / x2_24) (10 : Int32))) M2 hq3) (cwV 1 hts gX12_digits_X12_lays rfl rfl rfl (by decide +kernel) ⟨Nat.le_of_ble_eq_true rfl, Nat.le_of_ble_eq_true rfl⟩) hK hP (fun _ _ _ _ => mPw_bl) (fun U hU hW => ⟨by rw [hU], by rw [hU]; exact hP, va_K.moved hW.alike hK, hD.weaken (fun _ _ _ _ => trivial)⟩) rfl rfl hl.1 rfl (lv_room (Nat.le_of_ble_eq_true rfl)) dX12_digits_38 ⟨Nat.le_refl _, Nat.le_refl _⟩) hD hS hA (fun H locs hP hD hS => ?_)
        refine lv_iload_n hx hb dX12_digits_41 rfl (lv_at hl 2 rfl) ?_
        refine lv_bipush (v := 10) hx hb dX12_digits_42 (by decide) ?_
        refine lv_idiv hx hb dX12_digits_44 (by decide) ?_
        obtain ⟨v4, ev4, hf⟩ := bd1_e hf
        refine kt_i ev4 ?_
        refine lv_istore_n (nL := 3) (lv' := [(2, .int v4), (0, .ref (ra 0)), (1, .int x1_24)]) hx hb dX12_digits_45 rfl hl (by decide) rfl (fun ls hl => ?_)
        refine lv_goto (tgt := 24) hx hb dX12_digits_46 (by decide) ?_
        exact ih_24 x1_24 v4 M2 ls _ _ (lv_sub hl [1, 2, 0] rfl) hP hD hS hf) 2000
  have h_8 := lp_ind (z := (fun _ _ _ => none)) (b := (g_X12_digits_8)) (fun (rc_8 : Int32 → Int32 → kD → Option kD) => ∀ (x1_8 : Int32) (x2_8 : Int32) (M_8 : kD) (ls : Array Slot) (H : Heap) (locs : List Loc), lv_has ls 3 [(0, .ref (ra 0)), (1, .int x1_8), (2, .int x2_8)] → va_P (dC, dI) vwCl (mw cB cI cJ cZ ra M_8) H → va_D (mA ra s.heap.size) (mw cB cI cJ cZ ra M_8) → va_S (mA ra s.heap.size) s.heap H locs → rc_8 x1_8 x2_8 M_8 = some r → W p l e (headSpec wsX12_digits rm_X12_digits).room s m args below meth c H locs 0 0 (MQ below (mQv dC dI cB cI cJ cZ ra s.heap.size r) args s 0 0 (mA ra s.heap.size)) (F0 m 8 ls [])) (by
      intro x1_8 x2_8 M_8 ls H locs hl hP hD hS hf
      cases hf) (by
      intro rc_8 ih_8 x1_8 x2_8 M_8 ls H locs hl hP hD hS hf
      unfold g_X12_digits_8 at hf
      refine lv_iload_n hx hb dX12_digits_8 rfl (lv_at hl 1 rfl) ?_
      refine lv_iload_n hx hb dX12_digits_9 rfl (lv_at hl 2 rfl) ?_
      obtain ⟨hc6, hf⟩ := ck_e hf
      refine lv_idiv hx hb dX12_digits_10 hc6 ?_
      refine lv_bipush (v := 9) hx hb dX12_digits_11 (by decide) ?_
      refine lv_icmp_le (tgt := 24) hx hb dX12_digits_13 (by decide) (fun hb8 => ?_) (fun hb8 => ?_)
      · have hf := (if_pos hb8).symm.trans hf
        exact h_24 x1_8 x2_8 M_8 ls _ _ hl hP hD hS hf
      · have hf := (if_neg hb8).symm.trans hf
        refine lv_iload_n hx hb dX12_digits_16 rfl (lv_at hl 2 rfl) ?_
        refine lv_bipush (v := 10) hx hb dX12_digits_17 (by decide) ?_
        refine lv_imul hx hb dX12_digits_19 ?_
        obtain ⟨v7, ev7, hf⟩ := bd1_e hf
        refine kt_i ev7 ?_
        refine lv_istore_n (nL := 3) (lv' := [(2, .int v7), (0, .ref (ra 0)), (1, .int x1_8)]) hx hb dX12_digits_20 rfl hl (by decide) rfl (fun ls hl => ?_)
        refine lv_goto (tgt := 8) hx hb dX12_digits_21 (by decide) ?_
        exact ih_8 x1_8 v7 M_8 ls _ _ (lv_sub hl [1, 2, 0] rfl) hP hD hS hf) 2000
  refine lv_aload_n hx hb dX12_digits_0 rfl (lv_at hl 0 rfl) ?_
  refine lv_bipush (v := 32) hx hb dX12_digits_1 (by decide) ?_
  obtain ⟨M9, hq10, hf⟩ := bo_e hf
  refine km_callwv (M1 := M9) (km_run (As := [.int (32 : Int32)]) (rest := []) ⟨hx, hb, hml, hown, hts⟩ (c_X12_lays l dC dI cB cI cJ cZ ra _ M (32 : Int32) M9 hq10) (cwV 1 hts gX12_digits_X12_lays rfl rfl rfl (by decide +kernel) ⟨Nat.le_of_ble_eq_true rfl, Nat.le_of_ble_eq_true rfl⟩) hK hP (fun _ _ _ _ => mPw_bl) (fun U hU hW => ⟨by rw [hU], by rw [hU]; exact hP, va_K.moved hW.alike hK, hD.weaken (fun _ _ _ _ => trivial)⟩) rfl rfl hl.1 rfl (lv_room (Nat.le_of_ble_eq_true rfl)) dX12_digits_3 ⟨Nat.le_refl _, Nat.le_refl _⟩) hD hS hA (fun H locs hP hD hS => ?_)
  refine lv_iconst (v := 1) hx hb dX12_digits_6 (by decide) ?_
  refine lv_istore_n (nL := 3) (lv' := [(2, .int (1 : Int32)), (0, .ref (ra 0)), (1, .int a0)]) hx hb dX12_digits_7 rfl hl (by decide) rfl (fun ls hl => ?_)
  exact h_8 a0 (1 : Int32) M9 ls _ _ (lv_sub hl [1, 2, 0] rfl) hP hD hS hf

abbrev rm_X12_line : Room := { frames := 3, cells := 0, slots := 0, locals := 66 }
set_option maxHeartbeats 4000000 in
set_option maxRecDepth 100000 in
theorem c_X12_line (l : Launch) (dC : Nat → ClassId) (dI : Nat → Nat → Nat) (cB cI cJ cZ : ClassId) (ra : Nat → Nat) (sz : Nat) (M : kD) (a0 : Int32) (r : (Int32 × kD)) (hf : f_X12_line a0 M = some r) : Met l yX12_line wsX12_line rm_X12_line (va_Pc [.ref (ra 0), .int a0] (mPw dC dI cB cI cJ cZ ra sz M)) (mQi dC dI cB cI cJ cZ ra sz r) 0 0 (mA ra sz) := by
  refine Met.ofW (cc := cX12_line) (maxL := 2) (ret := (some .int)) (by decide) rfl ?_
  intro p e s m args below meth c s₁ B hml hv
  obtain ⟨hav, hsz, hP, hK, hD0⟩ := hv
  have hx := B.exec
  have hb := B.bytes
  have hr := B.returns
  have hts := atoms_spec (ws := wsX12_line) B.pre
  have hown : s.vm.findClass RX12 = some m.cls := findClass_of_methodNamed B.named
  have hlocks := B.notSynchronized
  subst hsz
  have hA : ∀ q, s.heap.size ≤ q → mA ra s.heap.size q := fun q h => Or.inr h
  have hD : va_D (mA ra s.heap.size) (mw cB cI cJ cZ ra M) := hD0.weaken (fun k q h _ => mA_in h)
  have hS : va_S (mA ra s.heap.size) s.heap s.heap [] := va_S.rf
  have hin : ∀ w ∈ wsX120, w ∈ wsX12_line := fun w h => List.mem_cons_of_mem _ (List.mem_append_right _ h)
  have k_constantLong_RX12_125_1751477348 := hts (.constantLong RX12 125 1751477348) (by decide +kernel)
  have k_constantLong_RX12_135_6909547 := hts (.constantLong RX12 135 6909547) (by decide +kernel)
  have k_constantLong_RX12_137_513021015141 := hts (.constantLong RX12 137 513021015141) (by decide +kernel)
  have k_fieldLink_RX12_1__KeyLettersModel___thrown___I_ := hts (.fieldLink RX12 1 "KeyLettersModel" "thrown" "I") (by decide +kernel)
  have k_fieldLink_RX12_33__KeyLettersModel___s____I_ := hts (.fieldLink RX12 33 "KeyLettersModel" "s" "[I") (by decide +kernel)
  have k_fieldLink_RX12_375__KeyLettersModel___textMany___I_ := hts (.fieldLink RX12 375 "KeyLettersModel" "textMany" "I") (by decide +kernel)
  have k_fieldLink_RX12_43__KeyLettersModel___names____J_ := hts (.fieldLink RX12 43 "KeyLettersModel" "names" "[J") (by decide +kernel)
  have hl := lv_entry ([.ref (ra 0), .int a0]) (n := 2) (Nat.le_of_ble_eq_true rfl)
  rw [show entryFrame m args 2 = entryFrame m ([.ref (ra 0), .int a0] : List Value).toArray 2 from by rw [hav], lg_entry_eq]
  generalize (lg_sl ([.ref (ra 0), .int a0]) ++ List.replicate (2 - (lg_sl ([.ref (ra 0), .int a0])).length) Slot.unset).toArray = ls at hl ⊢
  have hl : lv_has ls 2 [(0, .ref (ra 0)), (1, .int a0)] := hl
  unfold f_X12_line at hf
  refine lv_aload_n hx hb dX12_line_0 rfl (lv_at hl 0 rfl) ?_
  refine lv_iconst (v := 0) hx hb dX12_line_1 (by decide) ?_
  obtain ⟨M1, eM1, hf⟩ := bd1_e hf
  refine km_put hx hb hts hin hown hK hP hD hS 0 (by decide) k_fieldLink_RX12_1__KeyLettersModel___thrown___I_ rfl (ty := .int) (v := .int (0 : Int32)) (by decide +kernel) rfl rfl (M1 := M1) (by rw [eM1]; exact mo_0 cB cI cJ cZ ra M (0 : Int32)) dX12_line_2 (fun H locs hP hD hS => ?_)
  refine lv_aload_n hx hb dX12_line_5 rfl (lv_at hl 0 rfl) ?_
  refine lv_iload_n hx hb dX12_line_6 rfl (lv_at hl 1 rfl) ?_
  obtain ⟨v2, hq3, hf⟩ := bo_e hf
  refine ko_call (v := some (.int v2)) (km_run (As := [.int a0]) (rest := []) ⟨hx, hb, hml, hown, hts⟩ (c_X12_isMachine l dC dI cB cI cJ cZ ra M1 a0 v2 hq3) (cwV 1 hts gX12_line_X12_isMachine rfl rfl rfl (by decide +kernel) ⟨Nat.le_of_ble_eq_true rfl, Nat.le_of_ble_eq_true rfl⟩) hK hP (fun _ _ _ _ => mPr_bl) (fun U hU hW => ⟨by rw [hU]; exact hP, va_K.moved hW.alike hK⟩) rfl rfl hl.1 rfl (lv_room (Nat.le_of_ble_eq_true rfl)) dX12_line_7 ⟨Nat.le_refl _, Nat.le_refl _⟩) ?_
  refine lv_if_ne (tgt := 15) hx hb dX12_line_10 (by decide) (fun hb25 => ?_) (fun hb25 => ?_)
  · have hf := (if_neg hb25).symm.trans hf
    refine lv_aload_n hx hb dX12_line_15 rfl (lv_at hl 0 rfl) ?_
    refine lv_iconst (v := 0) hx hb dX12_line_16 (by decide) ?_
    obtain ⟨M4, eM4, hf⟩ := bd1_e hf
    refine km_put hx hb hts hin hown hK hP hD hS 34 (by decide) k_fieldLink_RX12_375__KeyLettersModel___textMany___I_ rfl (ty := .int) (v := .int (0 : Int32)) (by decide +kernel) rfl rfl (M1 := M4) (by rw [eM4]; exact mo_34 cB cI cJ cZ ra M1 (0 : Int32)) dX12_line_17 (fun H locs hP hD hS => ?_)
    refine lv_aload_n hx hb dX12_line_20 rfl (lv_at hl 0 rfl) ?_
    refine lv_aload_n hx hb dX12_line_21 rfl (lv_at hl 0 rfl) ?_
    refine km_get hx hb hts hin hown hK hP 9 (by decide) (v := .ref (ra 9)) k_fieldLink_RX12_43__KeyLettersModel___names____J_ rfl dX12_line_22 ?_
    refine lv_iload_n hx hb dX12_line_25 rfl (lv_at hl 1 rfl) ?_
    obtain ⟨hc5, hf⟩ := ck_e hf
    refine va_lald hx hb hK hP 5 2 rfl rfl hc5 dX12_line_26 ?_
    obtain ⟨M6, hq7, hf⟩ := bo_e hf
    refine km_callwv (M1 := M6) (km_run (As := [.long (M4.2 9 a0.toNatClampNeg)]) (rest := []) ⟨hx, hb, hml, hown, hts⟩ (c_X12_spells l dC dI cB cI cJ cZ ra _ M4 (M4.2 9 a0.toNatClampNeg) M6 hq7) (cwV 1 hts gX12_line_X12_spells rfl rfl rfl (by decide +kernel) ⟨Nat.le_of_ble_eq_true rfl, Nat.le_of_ble_eq_true rfl⟩) hK hP (fun _ _ _ _ => mPw_bl) (fun U hU hW => ⟨by rw [hU], by rw [hU]; exact hP, va_K.moved hW.alike hK, hD.weaken (fun _ _ _ _ => trivial)⟩) rfl rfl hl.1 rfl (lv_room (Nat.le_of_ble_eq_true rfl)) dX12_line_27 ⟨Nat.le_refl _, Nat.le_refl _⟩) hD hS hA (fun H locs hP hD hS => ?_)
    refine lv_aload_n hx hb dX12_line_30 rfl (lv_at hl 0 rfl) ?_
    refine lv_ldc2 (v := 513021015141) hx hb hown k_constantLong_RX12_137_513021015141 dX12_line_31 ?_
    obtain ⟨M8, hq9, hf⟩ := bo_e hf
    refine km_callwv (M1 := M8) (km_run (As := [.long (513021015141 : Int64)]) (rest := []) ⟨hx, hb, hml, hown, hts⟩ (c_X12_says l dC dI cB cI cJ cZ ra _ M6 (513021015141 : Int64) M8 hq9) (cwV 1 hts gX12_line_X12_says rfl rfl rfl (by decide +kernel) ⟨Nat.le_of_ble_eq_true rfl, Nat.le_of_ble_eq_true rfl⟩) hK hP (fun _ _ _ _ => mPw_bl) (fun U hU hW => ⟨by rw [hU], by rw [hU]; exact hP, va_K.moved hW.alike hK, hD.weaken (fun _ _ _ _ => trivial)⟩) rfl rfl hl.1 rfl (lv_room (Nat.le_of_ble_eq_true rfl)) dX12_line_34 ⟨Nat.le_refl _, Nat.le_refl _⟩) hD hS hA (fun H locs hP hD hS => ?_)
    refine lv_aload_n hx hb dX12_line_37 rfl (lv_at hl 0 rfl) ?_
    refine lv_aload_n hx hb dX12_line_38 rfl (lv_at hl 0 rfl) ?_
    refine km_get hx hb hts hin hown hK hP 6 (by decide) (v := .ref (ra 6)) k_fieldLink_RX12_33__KeyLettersModel___s____I_ rfl dX12_line_39 ?_
    refine lv_bipush (v := 50) hx hb dX12_line_42 (by decide) ?_
    refine lv_iload_n hx hb dX12_line_44 rfl (lv_at hl 1 rfl) ?_
    refine lv_iadd hx hb dX12_line_45 ?_
    obtain ⟨v10, ev10, hf⟩ := bd1_e hf
    refine kt_i ev10 ?_
    obtain ⟨hc11, hf⟩ := ck_e hf
    refine va_iald hx hb hK hP 2 1 rfl rfl hc11 dX12_line_46 ?_
    obtain ⟨M12, hq13, hf⟩ := bo_e hf
    refine km_callwv (M1 := M12) (km_run (As := [.int (M8.1 6 v10.toNatClampNeg)]) (rest := []) ⟨hx, hb, hml, hown, hts⟩ (c_X12_digits l dC dI cB cI cJ cZ ra _ M8 (M8.1 6 v10.toNatClampNeg) M12 hq13) (cwV 1 hts gX12_line_X12_digits rfl rfl rfl (by decide +kernel) ⟨Nat.le_of_ble_eq_true rfl, Nat.le_of_ble_eq_true rfl⟩) hK hP (fun _ _ _ _ => mPw_bl) (fun U hU hW => ⟨by rw [hU], by rw [hU]; exact hP, va_K.moved hW.alike hK, hD.weaken (fun _ _ _ _ => trivial)⟩) rfl rfl hl.1 rfl (lv_room (Nat.le_of_ble_eq_true rfl)) dX12_line_47 ⟨Nat.le_refl _, Nat.le_refl _⟩) hD hS hA (fun H locs hP hD hS => ?_)
    refine lv_aload_n hx hb dX12_line_50 rfl (lv_at hl 0 rfl) ?_
    refine lv_ldc2 (v := 6909547) hx hb hown k_constantLong_RX12_135_6909547 dX12_line_51 ?_
    obtain ⟨M14, hq15, hf⟩ := bo_e hf
    refine km_callwv (M1 := M14) (km_run (As := [.long (6909547 : Int64)]) (rest := []) ⟨hx, hb, hml, hown, hts⟩ (c_X12_says l dC dI cB cI cJ cZ ra _ M12 (6909547 : Int64) M14 hq15) (cwV 1 hts gX12_line_X12_says rfl rfl rfl (by decide +kernel) ⟨Nat.le_of_ble_eq_true rfl, Nat.le_of_ble_eq_true rfl⟩) hK hP (fun _ _ _ _ => mPw_bl) (fun U hU hW => ⟨by rw [hU], by rw [hU]; exact hP, va_K.moved hW.alike hK, hD.weaken (fun _ _ _ _ => trivial)⟩) rfl rfl hl.1 rfl (lv_room (Nat.le_of_ble_eq_true rfl)) dX12_line_54 ⟨Nat.le_refl _, Nat.le_refl _⟩) hD hS hA (fun H locs hP hD hS => ?_)
    refine lv_aload_n hx hb dX12_line_57 rfl (lv_at hl 0 rfl) ?_
    refine lv_aload_n hx hb dX12_line_58 rfl (lv_at hl 0 rfl) ?_
    refine km_get hx hb hts hin hown hK hP 6 (by decide) (v := .ref (ra 6)) k_fieldLink_RX12_33__KeyLettersModel___s____I_ rfl dX12_line_59 ?_
    refine lv_bipush (v := 44) hx hb dX12_line_62 (by decide) ?_
    refine lv_iload_n hx hb dX12_line_64 rfl (lv_at hl 1 rfl) ?_
    refine lv_iadd hx hb dX12_line_65 ?_
    obtain ⟨v16, ev16, hf⟩ := bd1_e hf
    refine kt_i ev16 ?_
    obtain ⟨hc17, hf⟩ := ck_e hf
    refine va_iald hx hb hK hP 2 1 rfl rfl hc17 dX12_line_66 ?_
    obtain ⟨M18, hq19, hf⟩ := bo_e hf
    refine km_callwv (M1 := M18) (km_run (As := [.int (M14.1 6 v16.toNatClampNeg)]) (rest := []) ⟨hx, hb, hml, hown, hts⟩ (c_X12_digits l dC dI cB cI cJ cZ ra _ M14 (M14.1 6 v16.toNatClampNeg) M18 hq19) (cwV 1 hts gX12_line_X12_digits rfl rfl rfl (by decide +kernel) ⟨Nat.le_of_ble_eq_true rfl, Nat.le_of_ble_eq_true rfl⟩) hK hP (fun _ _ _ _ => mPw_bl) (fun U hU hW => ⟨by rw [hU], by rw [hU]; exact hP, va_K.moved hW.alike hK, hD.weaken (fun _ _ _ _ => trivial)⟩) rfl rfl hl.1 rfl (lv_room (Nat.le_of_ble_eq_true rfl)) dX12_line_67 ⟨Nat.le_refl _, Nat.le_refl _⟩) hD hS hA (fun H locs hP hD hS => ?_)
    refine lv_aload_n hx hb dX12_line_70 rfl (lv_at hl 0 rfl) ?_
    refine lv_iload_n hx hb dX12_line_71 rfl (lv_at hl 1 rfl) ?_
    obtain ⟨v20, hq21, hf⟩ := bo_e hf
    refine ko_call (v := some (.int v20)) (km_run (As := [.int a0]) (rest := []) ⟨hx, hb, hml, hown, hts⟩ (c_X12_isHeld l dC dI cB cI cJ cZ ra M18 a0 v20 hq21) (cwV 1 hts gX12_line_X12_isHeld rfl rfl rfl (by decide +kernel) ⟨Nat.le_of_ble_eq_true rfl, Nat.le_of_ble_eq_true rfl⟩) hK hP (fun _ _ _ _ => mPr_bl) (fun U hU hW => ⟨by rw [hU]; exact hP, va_K.moved hW.alike hK⟩) rfl rfl hl.1 rfl (lv_room (Nat.le_of_ble_eq_true rfl)) dX12_line_72 ⟨Nat.le_refl _, Nat.le_refl _⟩) ?_
    refine lv_if_eq (tgt := 85) hx hb dX12_line_75 (by decide) (fun hb24 => ?_) (fun hb24 => ?_)
    · have hf := (if_pos hb24).symm.trans hf
      refine lv_aload_n hx hb dX12_line_85 rfl (lv_at hl 0 rfl) ?_
      refine km_get hx hb hts hin hown hK hP 34 (by decide) (v := .int (M18.1 0 34)) k_fieldLink_RX12_375__KeyLettersModel___textMany___I_ rfl dX12_line_86 ?_
      have hf := Option.some.inj hf
      subst hf
      exact m_iret hx hb hr hlocks hP hK hD hS dX12_line_89
    · have hf := (if_neg hb24).symm.trans hf
      refine lv_aload_n hx hb dX12_line_78 rfl (lv_at hl 0 rfl) ?_
      refine lv_ldc2 (v := 1751477348) hx hb hown k_constantLong_RX12_125_1751477348 dX12_line_79 ?_
      obtain ⟨M22, hq23, hf⟩ := bo_e hf
      refine km_callwv (M1 := M22) (km_run (As := [.long (1751477348 : Int64)]) (rest := []) ⟨hx, hb, hml, hown, hts⟩ (c_X12_says l dC dI cB cI cJ cZ ra _ M18 (1751477348 : Int64) M22 hq23) (cwV 1 hts gX12_line_X12_says rfl rfl rfl (by decide +kernel) ⟨Nat.le_of_ble_eq_true rfl, Nat.le_of_ble_eq_true rfl⟩) hK hP (fun _ _ _ _ => mPw_bl) (fun U hU hW => ⟨by rw [hU], by rw [hU]; exact hP, va_K.moved hW.alike hK, hD.weaken (fun _ _ _ _ => trivial)⟩) rfl rfl hl.1 rfl (lv_room (Nat.le_of_ble_eq_true rfl)) dX12_line_82 ⟨Nat.le_refl _, Nat.le_refl _⟩) hD hS hA (fun H locs hP hD hS => ?_)
      refine lv_aload_n hx hb dX12_line_85 rfl (lv_at hl 0 rfl) ?_
      refine km_get hx hb hts hin hown hK hP 34 (by decide) (v := .int (M22.1 0 34)) k_fieldLink_RX12_375__KeyLettersModel___textMany___I_ rfl dX12_line_86 ?_
      have hf := Option.some.inj hf
      subst hf
      exact m_iret hx hb hr hlocks hP hK hD hS dX12_line_89
  · have hf := (if_pos hb25).symm.trans hf
    refine lv_iconst (v := -1) hx hb dX12_line_13 (by decide) ?_
    have hf := Option.some.inj hf
    subst hf
    exact m_iret hx hb hr hlocks hP hK hD hS dX12_line_14

abbrev rm_X12_byteAt : Room := { frames := 1, cells := 0, slots := 0, locals := 22 }
set_option maxHeartbeats 4000000 in
set_option maxRecDepth 100000 in
theorem c_X12_byteAt (l : Launch) (dC : Nat → ClassId) (dI : Nat → Nat → Nat) (cB cI cJ cZ : ClassId) (ra : Nat → Nat) (sz : Nat) (M : kD) (a0 : Int32) (r : (Int32 × kD)) (hf : f_X12_byteAt a0 M = some r) : Met l yX12_byteAt wsX12_byteAt rm_X12_byteAt (va_Pc [.ref (ra 0), .int a0] (mPw dC dI cB cI cJ cZ ra sz M)) (mQi dC dI cB cI cJ cZ ra sz r) 0 0 (mA ra sz) := by
  refine Met.ofW (cc := cX12_byteAt) (maxL := 2) (ret := (some .int)) (by decide) rfl ?_
  intro p e s m args below meth c s₁ B hml hv
  obtain ⟨hav, hsz, hP, hK, hD0⟩ := hv
  have hx := B.exec
  have hb := B.bytes
  have hr := B.returns
  have hts := atoms_spec (ws := wsX12_byteAt) B.pre
  have hown : s.vm.findClass RX12 = some m.cls := findClass_of_methodNamed B.named
  have hlocks := B.notSynchronized
  subst hsz
  have hA : ∀ q, s.heap.size ≤ q → mA ra s.heap.size q := fun q h => Or.inr h
  have hD : va_D (mA ra s.heap.size) (mw cB cI cJ cZ ra M) := hD0.weaken (fun k q h _ => mA_in h)
  have hS : va_S (mA ra s.heap.size) s.heap s.heap [] := va_S.rf
  have hin : ∀ w ∈ wsX120, w ∈ wsX12_byteAt := fun w h => List.mem_cons_of_mem _ (List.mem_append_right _ h)
  have k_fieldLink_RX12_1__KeyLettersModel___thrown___I_ := hts (.fieldLink RX12 1 "KeyLettersModel" "thrown" "I") (by decide +kernel)
  have k_fieldLink_RX12_375__KeyLettersModel___textMany___I_ := hts (.fieldLink RX12 375 "KeyLettersModel" "textMany" "I") (by decide +kernel)
  have k_fieldLink_RX12_77__KeyLettersModel___text____B_ := hts (.fieldLink RX12 77 "KeyLettersModel" "text" "[B") (by decide +kernel)
  have hl := lv_entry ([.ref (ra 0), .int a0]) (n := 2) (Nat.le_of_ble_eq_true rfl)
  rw [show entryFrame m args 2 = entryFrame m ([.ref (ra 0), .int a0] : List Value).toArray 2 from by rw [hav], lg_entry_eq]
  generalize (lg_sl ([.ref (ra 0), .int a0]) ++ List.replicate (2 - (lg_sl ([.ref (ra 0), .int a0])).length) Slot.unset).toArray = ls at hl ⊢
  have hl : lv_has ls 2 [(0, .ref (ra 0)), (1, .int a0)] := hl
  unfold f_X12_byteAt at hf
  refine lv_aload_n hx hb dX12_byteAt_0 rfl (lv_at hl 0 rfl) ?_
  refine lv_iconst (v := 0) hx hb dX12_byteAt_1 (by decide) ?_
  obtain ⟨M1, eM1, hf⟩ := bd1_e hf
  refine km_put hx hb hts hin hown hK hP hD hS 0 (by decide) k_fieldLink_RX12_1__KeyLettersModel___thrown___I_ rfl (ty := .int) (v := .int (0 : Int32)) (by decide +kernel) rfl rfl (M1 := M1) (by rw [eM1]; exact mo_0 cB cI cJ cZ ra M (0 : Int32)) dX12_byteAt_2 (fun H locs hP hD hS => ?_)
  refine lv_iload_n hx hb dX12_byteAt_5 rfl (lv_at hl 1 rfl) ?_
  refine lv_iconst (v := 0) hx hb dX12_byteAt_6 (by decide) ?_
  refine lv_aload_n hx hb dX12_byteAt_7 rfl (lv_at hl 0 rfl) ?_
  refine km_get hx hb hts hin hown hK hP 34 (by decide) (v := .int (M1.1 0 34)) k_fieldLink_RX12_375__KeyLettersModel___textMany___I_ rfl dX12_byteAt_8 ?_
  refine lv_iconst (v := 1) hx hb dX12_byteAt_11 (by decide) ?_
  refine lv_isub hx hb dX12_byteAt_12 ?_
  refine ko_call (v := some (.int (f_X12_isIn a0 (0 : Int32) ((M1.1 0 34) - (1 : Int32))))) (va_runS (As := [.int a0, .int (0 : Int32), .int ((M1.1 0 34) - (1 : Int32))]) (rest := []) ⟨hx, hb, hml, hown, hts⟩ (c_X12_isIn l a0 (0 : Int32) ((M1.1 0 34) - (1 : Int32)) _ rfl) (va_cwS 3 hts gX12_byteAt_X12_isIn rfl rfl rfl (by decide +kernel) ⟨Nat.le_of_ble_eq_true rfl, Nat.le_of_ble_eq_true rfl⟩) ⟨fun a U g mk q => q, fun U hU hW => ⟨rfl, trivial⟩⟩ rfl rfl hl.1 rfl (lv_room (Nat.le_of_ble_eq_true rfl)) dX12_byteAt_13 ⟨Nat.le_refl _, Nat.le_refl _⟩) ?_
  refine lv_if_eq (tgt := 28) hx hb dX12_byteAt_16 (by decide) (fun hb3 => ?_) (fun hb3 => ?_)
  · have hf := (if_pos hb3).symm.trans hf
    refine lv_iconst (v := -1) hx hb dX12_byteAt_28 (by decide) ?_
    have hf := Option.some.inj hf
    subst hf
    exact m_iret hx hb hr hlocks hP hK hD hS dX12_byteAt_29
  · have hf := (if_neg hb3).symm.trans hf
    refine lv_aload_n hx hb dX12_byteAt_19 rfl (lv_at hl 0 rfl) ?_
    refine km_get hx hb hts hin hown hK hP 33 (by decide) (v := .ref (ra 33)) k_fieldLink_RX12_77__KeyLettersModel___text____B_ rfl dX12_byteAt_20 ?_
    refine lv_iload_n hx hb dX12_byteAt_23 rfl (lv_at hl 1 rfl) ?_
    obtain ⟨hc2, hf⟩ := ck_e hf
    refine va_bald hx hb hK hP 14 0 rfl rfl hc2 dX12_byteAt_24 ?_
    refine lv_goto (tgt := 29) hx hb dX12_byteAt_25 (by decide) ?_
    have hf := Option.some.inj hf
    subst hf
    exact m_iret hx hb hr hlocks hP hK hD hS dX12_byteAt_29

abbrev rm_X12_draw : Room := { frames := 0, cells := 0, slots := 0, locals := 0 }
set_option maxHeartbeats 4000000 in
set_option maxRecDepth 100000 in
theorem c_X12_draw (l : Launch) (dC : Nat → ClassId) (dI : Nat → Nat → Nat) (cB cI cJ cZ : ClassId) (ra : Nat → Nat) (sz : Nat) (M : kD) (a0 : Int32) (r : (Int32 × kD)) (hf : f_X12_draw a0 M = some r) : Met l yX12_draw wsX12_draw rm_X12_draw (va_Pc [.ref (ra 0), .int a0] (mPw dC dI cB cI cJ cZ ra sz M)) (mQi dC dI cB cI cJ cZ ra sz r) 0 0 (mA ra sz) := by
  refine Met.ofW (cc := cX12_draw) (maxL := 2) (ret := (some .int)) (by decide) rfl ?_
  intro p e s m args below meth c s₁ B hml hv
  obtain ⟨hav, hsz, hP, hK, hD0⟩ := hv
  have hx := B.exec
  have hb := B.bytes
  have hr := B.returns
  have hts := atoms_spec (ws := wsX12_draw) B.pre
  have hown : s.vm.findClass RX12 = some m.cls := findClass_of_methodNamed B.named
  have hlocks := B.notSynchronized
  subst hsz
  have hA : ∀ q, s.heap.size ≤ q → mA ra s.heap.size q := fun q h => Or.inr h
  have hD : va_D (mA ra s.heap.size) (mw cB cI cJ cZ ra M) := hD0.weaken (fun k q h _ => mA_in h)
  have hS : va_S (mA ra s.heap.size) s.heap s.heap [] := va_S.rf
  have hin : ∀ w ∈ wsX120, w ∈ wsX12_draw := fun w h => List.mem_cons_of_mem _ (List.mem_append_right _ h)
  have k_constant_RX12_394_1103515245 := hts (.constant RX12 394 1103515245) (by decide +kernel)
  have k_fieldLink_RX12_391__KeyLettersModel___seed___I_ := hts (.fieldLink RX12 391 "KeyLettersModel" "seed" "I") (by decide +kernel)
  have hl := lv_entry ([.ref (ra 0), .int a0]) (n := 2) (Nat.le_of_ble_eq_true rfl)
  rw [show entryFrame m args 2 = entryFrame m ([.ref (ra 0), .int a0] : List Value).toArray 2 from by rw [hav], lg_entry_eq]
  generalize (lg_sl ([.ref (ra 0), .int a0]) ++ List.replicate (2 - (lg_sl ([.ref (ra 0), .int a0])).length) Slot.unset).toArray = ls at hl ⊢
  have hl : lv_has ls 2 [(0, .ref (ra 0)), (1, .int a0)] := hl
  unfold f_X12_draw at hf
  refine lv_aload_n hx hb dX12_draw_0 rfl (lv_at hl 0 rfl) ?_
  refine lv_aload_n hx hb dX12_draw_1 rfl (lv_at hl 0 rfl) ?_
  refine km_get hx hb hts hin hown hK hP 35 (by decide) (v := .int (M.1 0 35)) k_fieldLink_RX12_391__KeyLettersModel___seed___I_ rfl dX12_draw_2 ?_
  refine lv_ldcw (v := 1103515245) hx hb hown k_constant_RX12_394_1103515245 dX12_draw_5 ?_
  refine lv_imul hx hb dX12_draw_8 ?_
  refine lv_sipush (v := 12345) hx hb dX12_draw_9 (by decide) ?_
  refine lv_iadd hx hb dX12_draw_12 ?_
  obtain ⟨M1, eM1, hf⟩ := bd1_e hf
  refine km_put hx hb hts hin hown hK hP hD hS 35 (by decide) k_fieldLink_RX12_391__KeyLettersModel___seed___I_ rfl (ty := .int) (v := .int (((M.1 0 35) * (1103515245 : Int32)) + (12345 : Int32))) (by decide +kernel) rfl rfl (M1 := M1) (by rw [eM1]; exact mo_35 cB cI cJ cZ ra M (((M.1 0 35) * (1103515245 : Int32)) + (12345 : Int32))) dX12_draw_13 (fun H locs hP hD hS => ?_)
  refine lv_aload_n hx hb dX12_draw_16 rfl (lv_at hl 0 rfl) ?_
  refine km_get hx hb hts hin hown hK hP 35 (by decide) (v := .int (M1.1 0 35)) k_fieldLink_RX12_391__KeyLettersModel___seed___I_ rfl dX12_draw_17 ?_
  refine lv_bipush (v := 8) hx hb dX12_draw_20 (by decide) ?_
  refine lv_iushr (v := (kUshr (M1.1 0 35) (8 : Int32))) hx hb dX12_draw_22 rfl ?_
  refine lv_iload_n hx hb dX12_draw_23 rfl (lv_at hl 1 rfl) ?_
  obtain ⟨hc2, hf⟩ := ck_e hf
  refine lv_irem hx hb dX12_draw_24 hc2 ?_
  have hf := Option.some.inj hf
  subst hf
  exact m_iret hx hb hr hlocks hP hK hD hS dX12_draw_25

abbrev rm_X12_drawDay : Room := { frames := 3, cells := 0, slots := 0, locals := 65 }
set_option maxHeartbeats 4000000 in
set_option maxRecDepth 100000 in
theorem c_X12_drawDay (l : Launch) (dC : Nat → ClassId) (dI : Nat → Nat → Nat) (cB cI cJ cZ : ClassId) (ra : Nat → Nat) (sz : Nat) (M : kD)  (r : kD) (hf : f_X12_drawDay  M = some r) : Met l yX12_drawDay wsX12_drawDay rm_X12_drawDay (va_Pc [.ref (ra 0)] (mPw dC dI cB cI cJ cZ ra sz M)) (mQv dC dI cB cI cJ cZ ra sz r) 0 0 (mA ra sz) := by
  refine Met.ofW (cc := cX12_drawDay) (maxL := 4) (ret := none) (by decide) rfl ?_
  intro p e s m args below meth c s₁ B hml hv
  obtain ⟨hav, hsz, hP, hK, hD0⟩ := hv
  have hx := B.exec
  have hb := B.bytes
  have hr := B.returns
  have hts := atoms_spec (ws := wsX12_drawDay) B.pre
  have hown : s.vm.findClass RX12 = some m.cls := findClass_of_methodNamed B.named
  have hlocks := B.notSynchronized
  subst hsz
  have hA : ∀ q, s.heap.size ≤ q → mA ra s.heap.size q := fun q h => Or.inr h
  have hD : va_D (mA ra s.heap.size) (mw cB cI cJ cZ ra M) := hD0.weaken (fun k q h _ => mA_in h)
  have hS : va_S (mA ra s.heap.size) s.heap s.heap [] := va_S.rf
  have hin : ∀ w ∈ wsX120, w ∈ wsX12_drawDay := fun w h => List.mem_cons_of_mem _ (List.mem_append_right _ h)
  have k_fieldLink_RX12_33__KeyLettersModel___s____I_ := hts (.fieldLink RX12 33 "KeyLettersModel" "s" "[I") (by decide +kernel)
  have hl := lv_entry ([.ref (ra 0)]) (n := 4) (Nat.le_of_ble_eq_true rfl)
  rw [show entryFrame m args 4 = entryFrame m ([.ref (ra 0)] : List Value).toArray 4 from by rw [hav], lg_entry_eq]
  generalize (lg_sl ([.ref (ra 0)]) ++ List.replicate (4 - (lg_sl ([.ref (ra 0)])).length) Slot.unset).toArray = ls at hl ⊢
  have hl : lv_has ls 4 [(0, .ref (ra 0))] := hl
  unfold f_X12_drawDay at hf
  have h_33 : ∀ (x1_33 : Int32) (M_33 : kD) (ls : Array Slot) (H : Heap) (locs : List Loc), lv_has ls 4 [(0, .ref (ra 0)), (1, .int x1_33)] → va_P (dC, dI) vwCl (mw cB cI cJ cZ ra M_33) H → va_D (mA ra s.heap.size) (mw cB cI cJ cZ ra M_33) → va_S (mA ra s.heap.size) s.heap H locs → g_X12_drawDay_33 x1_33 M_33 = some r → W p l e (headSpec wsX12_drawDay rm_X12_drawDay).room s m args below meth c H locs 0 0 (MQ below (mQv dC dI cB cI cJ cZ ra s.heap.size r) args s 0 0 (mA ra s.heap.size)) (F0 m 33 ls []) := by
    intro x1_33 M_33 ls H locs hl hP hD hS hf
    unfold g_X12_drawDay_33 at hf
    have h_81 : ∀ (x1_81 : Int32) (M_81 : kD) (ls : Array Slot) (H : Heap) (locs : List Loc), lv_has ls 4 [(0, .ref (ra 0)), (1, .int x1_81)] → va_P (dC, dI) vwCl (mw cB cI cJ cZ ra M_81) H → va_D (mA ra s.heap.size) (mw cB cI cJ cZ ra M_81) → va_S (mA ra s.heap.size) s.heap H locs → g_X12_drawDay_81 x1_81 M_81 = some r → W p l e (headSpec wsX12_drawDay rm_X12_drawDay).room s m args below meth c H locs 0 0 (MQ below (mQv dC dI cB cI cJ cZ ra s.heap.size r) args s 0 0 (mA ra s.heap.size)) (F0 m 81 ls []) := by
      intro x1_81 M_81 ls H locs hl hP hD hS hf
      unfold g_X12_drawDay_81 at hf
      refine lv_iload_n hx hb dX12_drawDay_81 rfl (lv_at hl 1 rfl) ?_
      refine lv_iconst (v := 2) hx hb dX12_drawDay_82 (by decide) ?_
      refine lv_iconst (v := 4) hx hb dX12_drawDay_83 (by decide) ?_
      refine ko_call (v := some (.int (f_X12_isIn x1_81 (2 : Int32) (4 : Int32)))) (va_runS (As := [.int x1_81, .int (2 : Int32), .int (4 : Int32)]) (rest := []) ⟨hx, hb, hml, hown, hts⟩ (c_X12_isIn l x1_81 (2 : Int32) (4 : Int32) _ rfl) (va_cwS 3 hts gX12_drawDay_X12_isIn rfl rfl rfl (by decide +kernel) ⟨Nat.le_of_ble_eq_true rfl, Nat.le_of_ble_eq_true rfl⟩) ⟨fun a U g mk q => q, fun U hU hW => ⟨rfl, trivial⟩⟩ rfl rfl hl.1 rfl (lv_room (Nat.le_of_ble_eq_true rfl)) dX12_drawDay_84 ⟨Nat.le_refl _, Nat.le_refl _⟩) ?_
      refine lv_if_eq (tgt := 99) hx hb dX12_drawDay_87 (by decide) (fun hb13 => ?_) (fun hb13 => ?_)
      · have hf := (if_pos hb13).symm.trans hf
        have hf := Option.some.inj hf
        subst hf
        exact m_vret hx hb hr hlocks hP hK hD hS dX12_drawDay_99
      · have hf := (if_neg hb13).symm.trans hf
        refine lv_aload_n hx hb dX12_drawDay_90 rfl (lv_at hl 0 rfl) ?_
        refine km_get hx hb hts hin hown hK hP 6 (by decide) (v := .ref (ra 6)) k_fieldLink_RX12_33__KeyLettersModel___s____I_ rfl dX12_drawDay_91 ?_
        refine lv_iconst (v := 1) hx hb dX12_drawDay_94 (by decide) ?_
        refine va_iald hx hb hK hP 2 1 rfl rfl (show ¬ ((1 : Int32) < 0 ∨ 279 ≤ (1 : Int32).toNatClampNeg) by decide +kernel) dX12_drawDay_95 ?_
        refine lv_if_ne (tgt := 100) hx hb dX12_drawDay_96 (by decide) (fun hb12 => ?_) (fun hb12 => ?_)
        · have hf := (if_neg hb12).symm.trans hf
          refine lv_aload_n hx hb dX12_drawDay_100 rfl (lv_at hl 0 rfl) ?_
          refine lv_aload_n hx hb dX12_drawDay_101 rfl (lv_at hl 0 rfl) ?_
          refine km_get hx hb hts hin hown hK hP 6 (by decide) (v := .ref (ra 6)) k_fieldLink_RX12_33__KeyLettersModel___s____I_ rfl dX12_drawDay_102 ?_
          refine lv_iconst (v := 0) hx hb dX12_drawDay_105 (by decide) ?_
          refine va_iald hx hb hK hP 2 1 rfl rfl (show ¬ ((0 : Int32) < 0 ∨ 279 ≤ (0 : Int32).toNatClampNeg) by decide +kernel) dX12_drawDay_106 ?_
          obtain ⟨v2, M1, hq3, hf⟩ := bo2_e hf
          refine km_callw (v := v2) (M1 := M1) rfl (km_run (As := [.int (M_81.1 6 (0 : Int32).toNatClampNeg)]) (rest := []) ⟨hx, hb, hml, hown, hts⟩ (c_X12_draw l dC dI cB cI cJ cZ ra _ M_81 (M_81.1 6 (0 : Int32).toNatClampNeg) (v2, M1) hq3) (cwV 1 hts gX12_drawDay_X12_draw rfl rfl rfl (by decide +kernel) ⟨Nat.le_of_ble_eq_true rfl, Nat.le_of_ble_eq_true rfl⟩) hK hP (fun _ _ _ _ => mPw_bl) (fun U hU hW => ⟨by rw [hU], by rw [hU]; exact hP, va_K.moved hW.alike hK, hD.weaken (fun _ _ _ _ => trivial)⟩) rfl rfl hl.1 rfl (lv_room (Nat.le_of_ble_eq_true rfl)) dX12_drawDay_107 ⟨Nat.le_refl _, Nat.le_refl _⟩) hD hS hA (fun H locs hP hD hS => ?_)
          refine lv_istore_n (nL := 4) (lv' := [(2, .int v2), (0, .ref (ra 0)), (1, .int x1_81)]) hx hb dX12_drawDay_110 rfl hl (by decide) rfl (fun ls hl => ?_)
          refine lv_aload_n hx hb dX12_drawDay_111 rfl (lv_at hl 1 rfl) ?_
          refine lv_aload_n hx hb dX12_drawDay_112 rfl (lv_at hl 1 rfl) ?_
          refine km_get hx hb hts hin hown hK hP 6 (by decide) (v := .ref (ra 6)) k_fieldLink_RX12_33__KeyLettersModel___s____I_ rfl dX12_drawDay_113 ?_
          refine lv_iconst (v := 1) hx hb dX12_drawDay_116 (by decide) ?_
          refine va_iald hx hb hK hP 2 1 rfl rfl (show ¬ ((1 : Int32) < 0 ∨ 279 ≤ (1 : Int32).toNatClampNeg) by decide +kernel) dX12_drawDay_117 ?_
          obtain ⟨v5, M4, hq6, hf⟩ := bo2_e hf
          refine km_callw (v := v5) (M1 := M4) rfl (km_run (As := [.int (M1.1 6 (1 : Int32).toNatClampNeg)]) (rest := []) ⟨hx, hb, hml, hown, hts⟩ (c_X12_draw l dC dI cB cI cJ cZ ra _ M1 (M1.1 6 (1 : Int32).toNatClampNeg) (v5, M4) hq6) (cwV 1 hts gX12_drawDay_X12_draw rfl rfl rfl (by decide +kernel) ⟨Nat.le_of_ble_eq_true rfl, Nat.le_of_ble_eq_true rfl⟩) hK hP (fun _ _ _ _ => mPw_bl) (fun U hU hW => ⟨by rw [hU], by rw [hU]; exact hP, va_K.moved hW.alike hK, hD.weaken (fun _ _ _ _ => trivial)⟩) rfl rfl hl.1 rfl (lv_room (Nat.le_of_ble_eq_true rfl)) dX12_drawDay_118 ⟨Nat.le_refl _, Nat.le_refl _⟩) hD hS hA (fun H locs hP hD hS => ?_)
          refine lv_istore_n (nL := 4) (lv' := [(3, .int v5), (2, .int v2), (0, .ref (ra 0)), (1, .int x1_81)]) hx hb dX12_drawDay_121 rfl hl (by decide) rfl (fun ls hl => ?_)
          refine lv_aload_n hx hb dX12_drawDay_122 rfl (lv_at hl 2 rfl) ?_
          refine lv_iload_n hx hb dX12_drawDay_123 rfl (lv_at hl 1 rfl) ?_
          refine lv_iload_n hx hb dX12_drawDay_124 rfl (lv_at hl 0 rfl) ?_
          obtain ⟨v7, hq8, hf⟩ := bo_e hf
          refine ko_call (v := some (.int v7)) (km_run (As := [.int v2, .int v5]) (rest := []) ⟨hx, hb, hml, hown, hts⟩ (c_X12_whyWrite l dC dI cB cI cJ cZ ra M4 v2 v5 v7 hq8) (cwV 2 hts gX12_drawDay_X12_whyWrite rfl rfl rfl (by decide +kernel) ⟨Nat.le_of_ble_eq_true rfl, Nat.le_of_ble_eq_true rfl⟩) hK hP (fun _ _ _ _ => mPr_bl) (fun U hU hW => ⟨by rw [hU]; exact hP, va_K.moved hW.alike hK⟩) rfl rfl hl.1 rfl (lv_room (Nat.le_of_ble_eq_true rfl)) dX12_drawDay_125 ⟨Nat.le_refl _, Nat.le_refl _⟩) ?_
          refine lv_if_ne (tgt := 137) hx hb dX12_drawDay_128 (by decide) (fun hb11 => ?_) (fun hb11 => ?_)
          · have hf := (if_neg hb11).symm.trans hf
            have hf := Option.some.inj hf
            subst hf
            exact m_vret hx hb hr hlocks hP hK hD hS dX12_drawDay_137
          · have hf := (if_pos hb11).symm.trans hf
            refine lv_aload_n hx hb dX12_drawDay_131 rfl (lv_at hl 2 rfl) ?_
            refine lv_iload_n hx hb dX12_drawDay_132 rfl (lv_at hl 1 rfl) ?_
            refine lv_iload_n hx hb dX12_drawDay_133 rfl (lv_at hl 0 rfl) ?_
            obtain ⟨M9, hq10, hf⟩ := bo_e hf
            refine km_callwv (M1 := M9) (km_run (As := [.int v2, .int v5]) (rest := []) ⟨hx, hb, hml, hown, hts⟩ (c_X12_types l dC dI cB cI cJ cZ ra _ M4 v2 v5 M9 hq10) (cwV 2 hts gX12_drawDay_X12_types rfl rfl rfl (by decide +kernel) ⟨Nat.le_of_ble_eq_true rfl, Nat.le_of_ble_eq_true rfl⟩) hK hP (fun _ _ _ _ => mPw_bl) (fun U hU hW => ⟨by rw [hU], by rw [hU]; exact hP, va_K.moved hW.alike hK, hD.weaken (fun _ _ _ _ => trivial)⟩) rfl rfl hl.1 rfl (lv_room (Nat.le_of_ble_eq_true rfl)) dX12_drawDay_134 ⟨Nat.le_refl _, Nat.le_refl _⟩) hD hS hA (fun H locs hP hD hS => ?_)
            have hf := Option.some.inj hf
            subst hf
            exact m_vret hx hb hr hlocks hP hK hD hS dX12_drawDay_137
        · have hf := (if_pos hb12).symm.trans hf
          have hf := Option.some.inj hf
          subst hf
          exact m_vret hx hb hr hlocks hP hK hD hS dX12_drawDay_99
    refine lv_iload_n hx hb dX12_drawDay_33 rfl (lv_at hl 1 rfl) ?_
    refine lv_iconst (v := 1) hx hb dX12_drawDay_34 (by decide) ?_
    refine lv_icmp_ne (tgt := 81) hx hb dX12_drawDay_35 (by decide) (fun hb26 => ?_) (fun hb26 => ?_)
    · have hf := (if_neg hb26).symm.trans hf
      exact h_81 x1_33 M_33 ls _ _ hl hP hD hS hf
    · have hf := (if_pos hb26).symm.trans hf
      refine lv_aload_n hx hb dX12_drawDay_38 rfl (lv_at hl 0 rfl) ?_
      refine lv_aload_n hx hb dX12_drawDay_39 rfl (lv_at hl 0 rfl) ?_
      refine km_get hx hb hts hin hown hK hP 6 (by decide) (v := .ref (ra 6)) k_fieldLink_RX12_33__KeyLettersModel___s____I_ rfl dX12_drawDay_40 ?_
      refine lv_iconst (v := 0) hx hb dX12_drawDay_43 (by decide) ?_
      refine va_iald hx hb hK hP 2 1 rfl rfl (show ¬ ((0 : Int32) < 0 ∨ 279 ≤ (0 : Int32).toNatClampNeg) by decide +kernel) dX12_drawDay_44 ?_
      obtain ⟨v15, M14, hq16, hf⟩ := bo2_e hf
      refine km_callw (v := v15) (M1 := M14) rfl (km_run (As := [.int (M_33.1 6 (0 : Int32).toNatClampNeg)]) (rest := []) ⟨hx, hb, hml, hown, hts⟩ (c_X12_draw l dC dI cB cI cJ cZ ra _ M_33 (M_33.1 6 (0 : Int32).toNatClampNeg) (v15, M14) hq16) (cwV 1 hts gX12_drawDay_X12_draw rfl rfl rfl (by decide +kernel) ⟨Nat.le_of_ble_eq_true rfl, Nat.le_of_ble_eq_true rfl⟩) hK hP (fun _ _ _ _ => mPw_bl) (fun U hU hW => ⟨by rw [hU], by rw [hU]; exact hP, va_K.moved hW.alike hK, hD.weaken (fun _ _ _ _ => trivial)⟩) rfl rfl hl.1 rfl (lv_room (Nat.le_of_ble_eq_true rfl)) dX12_drawDay_45 ⟨Nat.le_refl _, Nat.le_refl _⟩) hD hS hA (fun H locs hP hD hS => ?_)
      refine lv_istore_n (nL := 4) (lv' := [(2, .int v15), (0, .ref (ra 0)), (1, .int x1_33)]) hx hb dX12_drawDay_48 rfl hl (by decide) rfl (fun ls hl => ?_)
      refine lv_aload_n hx hb dX12_drawDay_49 rfl (lv_at hl 1 rfl) ?_
      refine lv_bipush (v := 60) hx hb dX12_drawDay_50 (by decide) ?_
      obtain ⟨v18, M17, hq19, hf⟩ := bo2_e hf
      refine km_callw (v := v18) (M1 := M17) rfl (km_run (As := [.int (60 : Int32)]) (rest := []) ⟨hx, hb, hml, hown, hts⟩ (c_X12_draw l dC dI cB cI cJ cZ ra _ M14 (60 : Int32) (v18, M17) hq19) (cwV 1 hts gX12_drawDay_X12_draw rfl rfl rfl (by decide +kernel) ⟨Nat.le_of_ble_eq_true rfl, Nat.le_of_ble_eq_true rfl⟩) hK hP (fun _ _ _ _ => mPw_bl) (fun U hU hW => ⟨by rw [hU], by rw [hU]; exact hP, va_K.moved hW.alike hK, hD.weaken (fun _ _ _ _ => trivial)⟩) rfl rfl hl.1 rfl (lv_room (Nat.le_of_ble_eq_true rfl)) dX12_drawDay_52 ⟨Nat.le_refl _, Nat.le_refl _⟩) hD hS hA (fun H locs hP hD hS => ?_)
      refine lv_iconst (v := 1) hx hb dX12_drawDay_55 (by decide) ?_
      refine lv_iadd hx hb dX12_drawDay_56 ?_
      obtain ⟨v20, ev20, hf⟩ := bd1_e hf
      refine kt_i ev20 ?_
      refine lv_istore_n (nL := 4) (lv' := [(3, .int v20), (2, .int v15), (0, .ref (ra 0)), (1, .int x1_33)]) hx hb dX12_drawDay_57 rfl hl (by decide) rfl (fun ls hl => ?_)
      refine lv_aload_n hx hb dX12_drawDay_58 rfl (lv_at hl 2 rfl) ?_
      refine km_get hx hb hts hin hown hK hP 6 (by decide) (v := .ref (ra 6)) k_fieldLink_RX12_33__KeyLettersModel___s____I_ rfl dX12_drawDay_59 ?_
      refine lv_bipush (v := 44) hx hb dX12_drawDay_62 (by decide) ?_
      refine lv_iload_n hx hb dX12_drawDay_64 rfl (lv_at hl 1 rfl) ?_
      refine lv_iadd hx hb dX12_drawDay_65 ?_
      obtain ⟨v21, ev21, hf⟩ := bd1_e hf
      refine kt_i ev21 ?_
      obtain ⟨hc22, hf⟩ := ck_e hf
      refine va_iald hx hb hK hP 2 1 rfl rfl hc22 dX12_drawDay_66 ?_
      refine lv_iload_n hx hb dX12_drawDay_67 rfl (lv_at hl 0 rfl) ?_
      refine lv_icmp_ge (tgt := 81) hx hb dX12_drawDay_68 (by decide) (fun hb25 => ?_) (fun hb25 => ?_)
      · have hf := (if_pos hb25).symm.trans hf
        exact h_81 x1_33 M17 ls _ _ (lv_sub hl [2, 3] rfl) hP hD hS hf
      · have hf := (if_neg hb25).symm.trans hf
        refine lv_aload_n hx hb dX12_drawDay_71 rfl (lv_at hl 2 rfl) ?_
        refine km_get hx hb hts hin hown hK hP 6 (by decide) (v := .ref (ra 6)) k_fieldLink_RX12_33__KeyLettersModel___s____I_ rfl dX12_drawDay_72 ?_
        refine lv_bipush (v := 44) hx hb dX12_drawDay_75 (by decide) ?_
        refine lv_iload_n hx hb dX12_drawDay_77 rfl (lv_at hl 1 rfl) ?_
        refine lv_iadd hx hb dX12_drawDay_78 ?_
        refine lv_iload_n hx hb dX12_drawDay_79 rfl (lv_at hl 0 rfl) ?_
        obtain ⟨hc23, hf⟩ := ck_e hf
        obtain ⟨M24, eM24, hf⟩ := bd1_e hf
        refine va_iast hx hb hK hP hD hS 2 1 rfl rfl hc23 dX12_drawDay_80 (fun H locs hP hD hS => ?_)
        have hP : va_P (dC, dI) vwCl (mw cB cI cJ cZ ra M24) H := by rw [eM24, ← ma_6 cB cI cJ cZ ra M17 ((44 : Int32) + v15).toNatClampNeg v20]; exact hP
        have hD : va_D (mA ra s.heap.size) (mw cB cI cJ cZ ra M24) := by rw [eM24, ← ma_6 cB cI cJ cZ ra M17 ((44 : Int32) + v15).toNatClampNeg v20]; exact hD
        exact h_81 x1_33 M24 ls _ _ (lv_sub hl [2, 3] rfl) hP hD hS hf
  refine lv_aload_n hx hb dX12_drawDay_0 rfl (lv_at hl 0 rfl) ?_
  refine lv_bipush (v := 8) hx hb dX12_drawDay_1 (by decide) ?_
  obtain ⟨v28, M27, hq29, hf⟩ := bo2_e hf
  refine km_callw (v := v28) (M1 := M27) rfl (km_run (As := [.int (8 : Int32)]) (rest := []) ⟨hx, hb, hml, hown, hts⟩ (c_X12_draw l dC dI cB cI cJ cZ ra _ M (8 : Int32) (v28, M27) hq29) (cwV 1 hts gX12_drawDay_X12_draw rfl rfl rfl (by decide +kernel) ⟨Nat.le_of_ble_eq_true rfl, Nat.le_of_ble_eq_true rfl⟩) hK hP (fun _ _ _ _ => mPw_bl) (fun U hU hW => ⟨by rw [hU], by rw [hU]; exact hP, va_K.moved hW.alike hK, hD.weaken (fun _ _ _ _ => trivial)⟩) rfl rfl hl.1 rfl (lv_room (Nat.le_of_ble_eq_true rfl)) dX12_drawDay_3 ⟨Nat.le_refl _, Nat.le_refl _⟩) hD hS hA (fun H locs hP hD hS => ?_)
  refine lv_istore_n (nL := 4) (lv' := [(1, .int v28), (0, .ref (ra 0))]) hx hb dX12_drawDay_6 rfl hl (by decide) rfl (fun ls hl => ?_)
  refine lv_iload_n hx hb dX12_drawDay_7 rfl (lv_at hl 0 rfl) ?_
  refine lv_if_ne (tgt := 33) hx hb dX12_drawDay_8 (by decide) (fun hb34 => ?_) (fun hb34 => ?_)
  · have hf := (if_neg hb34).symm.trans hf
    exact h_33 v28 M27 ls _ _ (lv_sub hl [1, 0] rfl) hP hD hS hf
  · have hf := (if_pos hb34).symm.trans hf
    refine lv_aload_n hx hb dX12_drawDay_11 rfl (lv_at hl 1 rfl) ?_
    refine km_get hx hb hts hin hown hK hP 6 (by decide) (v := .ref (ra 6)) k_fieldLink_RX12_33__KeyLettersModel___s____I_ rfl dX12_drawDay_12 ?_
    refine lv_bipush (v := 42) hx hb dX12_drawDay_15 (by decide) ?_
    refine lv_dup2_11 hx hb dX12_drawDay_17 rfl rfl ?_
    refine va_iald hx hb hK hP 2 1 rfl rfl (show ¬ ((42 : Int32) < 0 ∨ 279 ≤ (42 : Int32).toNatClampNeg) by decide +kernel) dX12_drawDay_18 ?_
    refine lv_iconst (v := 1) hx hb dX12_drawDay_19 (by decide) ?_
    refine lv_aload_n hx hb dX12_drawDay_20 rfl (lv_at hl 1 rfl) ?_
    refine lv_aload_n hx hb dX12_drawDay_21 rfl (lv_at hl 1 rfl) ?_
    refine km_get hx hb hts hin hown hK hP 6 (by decide) (v := .ref (ra 6)) k_fieldLink_RX12_33__KeyLettersModel___s____I_ rfl dX12_drawDay_22 ?_
    refine lv_iconst (v := 0) hx hb dX12_drawDay_25 (by decide) ?_
    refine va_iald hx hb hK hP 2 1 rfl rfl (show ¬ ((0 : Int32) < 0 ∨ 279 ≤ (0 : Int32).toNatClampNeg) by decide +kernel) dX12_drawDay_26 ?_
    obtain ⟨v31, M30, hq32, hf⟩ := bo2_e hf
    refine km_callw (v := v31) (M1 := M30) rfl (km_run (As := [.int (M27.1 6 (0 : Int32).toNatClampNeg)]) (rest := [.int (1 : Int32), .int (M27.1 6 (42 : Int32).toNatClampNeg), .int (42 : Int32), .ref (ra 6)]) ⟨hx, hb, hml, hown, hts⟩ (c_X12_draw l dC dI cB cI cJ cZ ra _ M27 (M27.1 6 (0 : Int32).toNatClampNeg) (v31, M30) hq32) (cwV 1 hts gX12_drawDay_X12_draw rfl rfl rfl (by decide +kernel) ⟨Nat.le_of_ble_eq_true rfl, Nat.le_of_ble_eq_true rfl⟩) hK hP (fun _ _ _ _ => mPw_bl) (fun U hU hW => ⟨by rw [hU], by rw [hU]; exact hP, va_K.moved hW.alike hK, hD.weaken (fun _ _ _ _ => trivial)⟩) rfl rfl hl.1 rfl (lv_room (Nat.le_of_ble_eq_true rfl)) dX12_drawDay_27 ⟨Nat.le_refl _, Nat.le_refl _⟩) hD hS hA (fun H locs hP hD hS => ?_)
    refine lv_ishl hx hb dX12_drawDay_30 ?_
    refine lv_ixor hx hb dX12_drawDay_31 ?_
    obtain ⟨M33, eM33, hf⟩ := bd1_e hf
    refine va_iast hx hb hK hP hD hS 2 1 rfl rfl (show ¬ ((42 : Int32) < 0 ∨ 279 ≤ (42 : Int32).toNatClampNeg) by decide +kernel) dX12_drawDay_32 (fun H locs hP hD hS => ?_)
    have hP : va_P (dC, dI) vwCl (mw cB cI cJ cZ ra M33) H := by rw [eM33, ← ma_6 cB cI cJ cZ ra M30 (42 : Int32).toNatClampNeg ((M27.1 6 (42 : Int32).toNatClampNeg) ^^^ ((1 : Int32) <<< (v31 &&& 31)))]; exact hP
    have hD : va_D (mA ra s.heap.size) (mw cB cI cJ cZ ra M33) := by rw [eM33, ← ma_6 cB cI cJ cZ ra M30 (42 : Int32).toNatClampNeg ((M27.1 6 (42 : Int32).toNatClampNeg) ^^^ ((1 : Int32) <<< (v31 &&& 31)))]; exact hD
    exact h_33 v28 M33 ls _ _ (lv_sub hl [1, 0] rfl) hP hD hS hf

abbrev rm_X12_draws : Room := { frames := 5, cells := 0, slots := 0, locals := 114 }
set_option maxHeartbeats 4000000 in
set_option maxRecDepth 100000 in
theorem c_X12_draws (l : Launch) (dC : Nat → ClassId) (dI : Nat → Nat → Nat) (cB cI cJ cZ : ClassId) (ra : Nat → Nat) (sz : Nat) (M : kD) (a0 : Int32) (a1 : Int32) (r : (Int32 × kD)) (hf : f_X12_draws a0 a1 M = some r) : Met l yX12_draws wsX12_draws rm_X12_draws (va_Pc [.ref (ra 0), .int a0, .int a1] (mPw dC dI cB cI cJ cZ ra sz M)) (mQi dC dI cB cI cJ cZ ra sz r) 0 0 (mA ra sz) := by
  refine Met.ofW (cc := cX12_draws) (maxL := 4) (ret := (some .int)) (by decide) rfl ?_
  intro p e s m args below meth c s₁ B hml hv
  obtain ⟨hav, hsz, hP, hK, hD0⟩ := hv
  have hx := B.exec
  have hb := B.bytes
  have hr := B.returns
  have hts := atoms_spec (ws := wsX12_draws) B.pre
  have hown : s.vm.findClass RX12 = some m.cls := findClass_of_methodNamed B.named
  have hlocks := B.notSynchronized
  subst hsz
  have hA : ∀ q, s.heap.size ≤ q → mA ra s.heap.size q := fun q h => Or.inr h
  have hD : va_D (mA ra s.heap.size) (mw cB cI cJ cZ ra M) := hD0.weaken (fun k q h _ => mA_in h)
  have hS : va_S (mA ra s.heap.size) s.heap s.heap [] := va_S.rf
  have hin : ∀ w ∈ wsX120, w ∈ wsX12_draws := fun w h => List.mem_cons_of_mem _ (List.mem_append_right _ h)
  have k_fieldLink_RX12_33__KeyLettersModel___s____I_ := hts (.fieldLink RX12 33 "KeyLettersModel" "s" "[I") (by decide +kernel)
  have k_fieldLink_RX12_391__KeyLettersModel___seed___I_ := hts (.fieldLink RX12 391 "KeyLettersModel" "seed" "I") (by decide +kernel)
  have hl := lv_entry ([.ref (ra 0), .int a0, .int a1]) (n := 4) (Nat.le_of_ble_eq_true rfl)
  rw [show entryFrame m args 4 = entryFrame m ([.ref (ra 0), .int a0, .int a1] : List Value).toArray 4 from by rw [hav], lg_entry_eq]
  generalize (lg_sl ([.ref (ra 0), .int a0, .int a1]) ++ List.replicate (4 - (lg_sl ([.ref (ra 0), .int a0, .int a1])).length) Slot.unset).toArray = ls at hl ⊢
  have hl : lv_has ls 4 [(0, .ref (ra 0)), (1, .int a0), (2, .int a1)] := hl
  unfold f_X12_draws at hf
  have h_7 := lp_ind (z := (fun _ _ _ => none)) (b := (g_X12_draws_7)) (fun (rc_7 : Int32 → Int32 → kD → Option (Int32 × kD)) => ∀ (x1_7 : Int32) (x3_7 : Int32) (M_7 : kD) (ls : Array Slot) (H : Heap) (locs : List Loc), lv_has ls 4 [(0, .ref (ra 0)), (1, .int x1_7), (3, .int x3_7)] → va_P (dC, dI) vwCl (mw cB cI cJ cZ ra M_7) H → va_D (mA ra s.heap.size) (mw cB cI cJ cZ ra M_7) → va_S (mA ra s.heap.size) s.heap H locs → rc_7 x1_7 x3_7 M_7 = some r → W p l e (headSpec wsX12_draws rm_X12_draws).room s m args below meth c H locs 0 0 (MQ below (mQi dC dI cB cI cJ cZ ra s.heap.size r) args s 0 0 (mA ra s.heap.size)) (F0 m 7 ls [])) (by
      intro x1_7 x3_7 M_7 ls H locs hl hP hD hS hf
      cases hf) (by
      intro rc_7 ih_7 x1_7 x3_7 M_7 ls H locs hl hP hD hS hf
      unfold g_X12_draws_7 at hf
      have h_38 : ∀ (x1_38 : Int32) (x3_38 : Int32) (M_38 : kD) (ls : Array Slot) (H : Heap) (locs : List Loc), lv_has ls 4 [(0, .ref (ra 0)), (1, .int x1_38), (3, .int x3_38)] → va_P (dC, dI) vwCl (mw cB cI cJ cZ ra M_38) H → va_D (mA ra s.heap.size) (mw cB cI cJ cZ ra M_38) → va_S (mA ra s.heap.size) s.heap H locs → g_X12_draws_38 rc_7 x1_38 x3_38 M_38 = some r → W p l e (headSpec wsX12_draws rm_X12_draws).room s m args below meth c H locs 0 0 (MQ below (mQi dC dI cB cI cJ cZ ra s.heap.size r) args s 0 0 (mA ra s.heap.size)) (F0 m 38 ls []) := by
        intro x1_38 x3_38 M_38 ls H locs hl hP hD hS hf
        unfold g_X12_draws_38 at hf
        refine lv_aload_n hx hb dX12_draws_38 rfl (lv_at hl 0 rfl) ?_
        obtain ⟨v2, M1, hq3, hf⟩ := bo2_e hf
        refine km_callw (v := v2) (M1 := M1) rfl (km_run (As := []) (rest := []) ⟨hx, hb, hml, hown, hts⟩ (c_X12_day l dC dI cB cI cJ cZ ra _ M_38  (v2, M1) hq3) (cwV 0 hts gX12_draws_X12_day rfl rfl rfl (by decide +kernel) ⟨Nat.le_of_ble_eq_true rfl, Nat.le_of_ble_eq_true rfl⟩) hK hP (fun _ _ _ _ => mPw_bl) (fun U hU hW => ⟨by rw [hU], by rw [hU]; exact hP, va_K.moved hW.alike hK, hD.weaken (fun _ _ _ _ => trivial)⟩) rfl rfl hl.1 rfl (lv_room (Nat.le_of_ble_eq_true rfl)) dX12_draws_39 ⟨Nat.le_refl _, Nat.le_refl _⟩) hD hS hA (fun H locs hP hD hS => ?_)
        refine lv_pop hx hb dX12_draws_42 rfl ?_
        obtain ⟨v4, ev4, hf⟩ := bd1_e hf
        refine lv_iinc (k := 2) (x := x3_38) (v := v4) (nL := 4) (lv' := [(3, .int v4), (0, .ref (ra 0)), (1, .int x1_38)]) hx hb dX12_draws_43 hl rfl (kt_inc (w := 1) (by decide) ev4) (by decide) rfl (fun ls hl => ?_)
        refine lv_goto (tgt := 7) hx hb dX12_draws_46 (by decide) ?_
        exact ih_7 x1_38 v4 M1 ls _ _ (lv_sub hl [1, 2, 0] rfl) hP hD hS hf
      refine lv_iload_n hx hb dX12_draws_7 rfl (lv_at hl 2 rfl) ?_
      refine lv_iload_n hx hb dX12_draws_8 rfl (lv_at hl 1 rfl) ?_
      refine lv_icmp_ge (tgt := 49) hx hb dX12_draws_9 (by decide) (fun hb9 => ?_) (fun hb9 => ?_)
      · have hf := (if_pos hb9).symm.trans hf
        refine lv_iload_n hx hb dX12_draws_49 rfl (lv_at hl 2 rfl) ?_
        have hf := Option.some.inj hf
        subst hf
        exact m_iret hx hb hr hlocks hP hK hD hS dX12_draws_50
      · have hf := (if_neg hb9).symm.trans hf
        refine lv_aload_n hx hb dX12_draws_12 rfl (lv_at hl 0 rfl) ?_
        refine km_get hx hb hts hin hown hK hP 6 (by decide) (v := .ref (ra 6)) k_fieldLink_RX12_33__KeyLettersModel___s____I_ rfl dX12_draws_13 ?_
        refine lv_bipush (v := 39) hx hb dX12_draws_16 (by decide) ?_
        refine va_iald hx hb hK hP 2 1 rfl rfl (show ¬ ((39 : Int32) < 0 ∨ 279 ≤ (39 : Int32).toNatClampNeg) by decide +kernel) dX12_draws_18 ?_
        refine lv_sipush (v := 400) hx hb dX12_draws_19 (by decide) ?_
        refine lv_icmp_ge (tgt := 49) hx hb dX12_draws_22 (by decide) (fun hb8 => ?_) (fun hb8 => ?_)
        · have hf := (if_pos hb8).symm.trans hf
          refine lv_iload_n hx hb dX12_draws_49 rfl (lv_at hl 2 rfl) ?_
          have hf := Option.some.inj hf
          subst hf
          exact m_iret hx hb hr hlocks hP hK hD hS dX12_draws_50
        · have hf := (if_neg hb8).symm.trans hf
          refine lv_aload_n hx hb dX12_draws_25 rfl (lv_at hl 0 rfl) ?_
          refine km_get hx hb hts hin hown hK hP 6 (by decide) (v := .ref (ra 6)) k_fieldLink_RX12_33__KeyLettersModel___s____I_ rfl dX12_draws_26 ?_
          refine lv_iconst (v := 0) hx hb dX12_draws_29 (by decide) ?_
          refine va_iald hx hb hK hP 2 1 rfl rfl (show ¬ ((0 : Int32) < 0 ∨ 279 ≤ (0 : Int32).toNatClampNeg) by decide +kernel) dX12_draws_30 ?_
          refine lv_if_le (tgt := 38) hx hb dX12_draws_31 (by decide) (fun hb7 => ?_) (fun hb7 => ?_)
          · have hf := (if_pos hb7).symm.trans hf
            exact h_38 x1_7 x3_7 M_7 ls _ _ hl hP hD hS hf
          · have hf := (if_neg hb7).symm.trans hf
            refine lv_aload_n hx hb dX12_draws_34 rfl (lv_at hl 0 rfl) ?_
            obtain ⟨M5, hq6, hf⟩ := bo_e hf
            refine km_callwv (M1 := M5) (km_run (As := []) (rest := []) ⟨hx, hb, hml, hown, hts⟩ (c_X12_drawDay l dC dI cB cI cJ cZ ra _ M_7  M5 hq6) (cwV 0 hts gX12_draws_X12_drawDay rfl rfl rfl (by decide +kernel) ⟨Nat.le_of_ble_eq_true rfl, Nat.le_of_ble_eq_true rfl⟩) hK hP (fun _ _ _ _ => mPw_bl) (fun U hU hW => ⟨by rw [hU], by rw [hU]; exact hP, va_K.moved hW.alike hK, hD.weaken (fun _ _ _ _ => trivial)⟩) rfl rfl hl.1 rfl (lv_room (Nat.le_of_ble_eq_true rfl)) dX12_draws_35 ⟨Nat.le_refl _, Nat.le_refl _⟩) hD hS hA (fun H locs hP hD hS => ?_)
            exact h_38 x1_7 x3_7 M5 ls _ _ hl hP hD hS hf) 2000
  refine lv_aload_n hx hb dX12_draws_0 rfl (lv_at hl 0 rfl) ?_
  refine lv_iload_n hx hb dX12_draws_1 rfl (lv_at hl 2 rfl) ?_
  obtain ⟨M10, eM10, hf⟩ := bd1_e hf
  refine km_put hx hb hts hin hown hK hP hD hS 35 (by decide) k_fieldLink_RX12_391__KeyLettersModel___seed___I_ rfl (ty := .int) (v := .int a1) (by decide +kernel) rfl rfl (M1 := M10) (by rw [eM10]; exact mo_35 cB cI cJ cZ ra M a1) dX12_draws_2 (fun H locs hP hD hS => ?_)
  refine lv_iconst (v := 0) hx hb dX12_draws_5 (by decide) ?_
  refine lv_istore_n (nL := 4) (lv' := [(3, .int (0 : Int32)), (0, .ref (ra 0)), (1, .int a0), (2, .int a1)]) hx hb dX12_draws_6 rfl hl (by decide) rfl (fun ls hl => ?_)
  exact h_7 a0 (0 : Int32) M10 ls _ _ (lv_sub hl [1, 2, 0] rfl) hP hD hS hf

abbrev rm_X12_drawn : Room := { frames := 6, cells := 0, slots := 0, locals := 137 }
set_option maxHeartbeats 4000000 in
set_option maxRecDepth 100000 in
theorem c_X12_drawn (l : Launch) (dC : Nat → ClassId) (dI : Nat → Nat → Nat) (cB cI cJ cZ : ClassId) (ra : Nat → Nat) (sz : Nat) (M : kD) (a0 : Int32) (a1 : Int32) (r : (Int32 × kD)) (hf : f_X12_drawn a0 a1 M = some r) : Met l yX12_drawn wsX12_drawn rm_X12_drawn (va_Pc [.ref (ra 0), .int a0, .int a1] (mPw dC dI cB cI cJ cZ ra sz M)) (mQi dC dI cB cI cJ cZ ra sz r) 0 0 (mA ra sz) := by
  refine Met.ofW (cc := cX12_drawn) (maxL := 3) (ret := (some .int)) (by decide) rfl ?_
  intro p e s m args below meth c s₁ B hml hv
  obtain ⟨hav, hsz, hP, hK, hD0⟩ := hv
  have hx := B.exec
  have hb := B.bytes
  have hr := B.returns
  have hts := atoms_spec (ws := wsX12_drawn) B.pre
  have hown : s.vm.findClass RX12 = some m.cls := findClass_of_methodNamed B.named
  have hlocks := B.notSynchronized
  subst hsz
  have hA : ∀ q, s.heap.size ≤ q → mA ra s.heap.size q := fun q h => Or.inr h
  have hD : va_D (mA ra s.heap.size) (mw cB cI cJ cZ ra M) := hD0.weaken (fun k q h _ => mA_in h)
  have hS : va_S (mA ra s.heap.size) s.heap s.heap [] := va_S.rf
  have hin : ∀ w ∈ wsX120, w ∈ wsX12_drawn := fun w h => List.mem_cons_of_mem _ (List.mem_append_right _ h)
  have k_fieldLink_RX12_1__KeyLettersModel___thrown___I_ := hts (.fieldLink RX12 1 "KeyLettersModel" "thrown" "I") (by decide +kernel)
  have k_fieldLink_RX12_33__KeyLettersModel___s____I_ := hts (.fieldLink RX12 33 "KeyLettersModel" "s" "[I") (by decide +kernel)
  have hl := lv_entry ([.ref (ra 0), .int a0, .int a1]) (n := 3) (Nat.le_of_ble_eq_true rfl)
  rw [show entryFrame m args 3 = entryFrame m ([.ref (ra 0), .int a0, .int a1] : List Value).toArray 3 from by rw [hav], lg_entry_eq]
  generalize (lg_sl ([.ref (ra 0), .int a0, .int a1]) ++ List.replicate (3 - (lg_sl ([.ref (ra 0), .int a0, .int a1])).length) Slot.unset).toArray = ls at hl ⊢
  have hl : lv_has ls 3 [(0, .ref (ra 0)), (1, .int a0), (2, .int a1)] := hl
  unfold f_X12_drawn at hf
  have h_34 : ∀ (x1_34 : Int32) (x2_34 : Int32) (M_34 : kD) (ls : Array Slot) (H : Heap) (locs : List Loc), lv_has ls 3 [(0, .ref (ra 0)), (1, .int x1_34), (2, .int x2_34)] → va_P (dC, dI) vwCl (mw cB cI cJ cZ ra M_34) H → va_D (mA ra s.heap.size) (mw cB cI cJ cZ ra M_34) → va_S (mA ra s.heap.size) s.heap H locs → g_X12_drawn_34 x1_34 x2_34 M_34 = some r → W p l e (headSpec wsX12_drawn rm_X12_drawn).room s m args below meth c H locs 0 0 (MQ below (mQi dC dI cB cI cJ cZ ra s.heap.size r) args s 0 0 (mA ra s.heap.size)) (F0 m 34 ls []) := by
    intro x1_34 x2_34 M_34 ls H locs hl hP hD hS hf
    unfold g_X12_drawn_34 at hf
    refine lv_aload_n hx hb dX12_drawn_34 rfl (lv_at hl 0 rfl) ?_
    refine lv_iload_n hx hb dX12_drawn_35 rfl (lv_at hl 1 rfl) ?_
    refine lv_iload_n hx hb dX12_drawn_36 rfl (lv_at hl 2 rfl) ?_
    obtain ⟨v2, M1, hq3, hf⟩ := bo2_e hf
    refine km_callw (v := v2) (M1 := M1) rfl (km_run (As := [.int x1_34, .int x2_34]) (rest := []) ⟨hx, hb, hml, hown, hts⟩ (c_X12_draws l dC dI cB cI cJ cZ ra _ M_34 x1_34 x2_34 (v2, M1) hq3) (cwV 2 hts gX12_drawn_X12_draws rfl rfl rfl (by decide +kernel) ⟨Nat.le_of_ble_eq_true rfl, Nat.le_of_ble_eq_true rfl⟩) hK hP (fun _ _ _ _ => mPw_bl) (fun U hU hW => ⟨by rw [hU], by rw [hU]; exact hP, va_K.moved hW.alike hK, hD.weaken (fun _ _ _ _ => trivial)⟩) rfl rfl hl.1 rfl (lv_room (Nat.le_of_ble_eq_true rfl)) dX12_drawn_37 ⟨Nat.le_refl _, Nat.le_refl _⟩) hD hS hA (fun H locs hP hD hS => ?_)
    have hf := Option.some.inj hf
    subst hf
    exact m_iret hx hb hr hlocks hP hK hD hS dX12_drawn_40
  refine lv_aload_n hx hb dX12_drawn_0 rfl (lv_at hl 0 rfl) ?_
  refine lv_iconst (v := 0) hx hb dX12_drawn_1 (by decide) ?_
  obtain ⟨M4, eM4, hf⟩ := bd1_e hf
  refine km_put hx hb hts hin hown hK hP hD hS 0 (by decide) k_fieldLink_RX12_1__KeyLettersModel___thrown___I_ rfl (ty := .int) (v := .int (0 : Int32)) (by decide +kernel) rfl rfl (M1 := M4) (by rw [eM4]; exact mo_0 cB cI cJ cZ ra M (0 : Int32)) dX12_drawn_2 (fun H locs hP hD hS => ?_)
  refine lv_iload_n hx hb dX12_drawn_5 rfl (lv_at hl 1 rfl) ?_
  refine lv_iconst (v := 1) hx hb dX12_drawn_6 (by decide) ?_
  refine lv_bipush (v := 60) hx hb dX12_drawn_7 (by decide) ?_
  refine ko_call (v := some (.int (f_X12_isIn a0 (1 : Int32) (60 : Int32)))) (va_runS (As := [.int a0, .int (1 : Int32), .int (60 : Int32)]) (rest := []) ⟨hx, hb, hml, hown, hts⟩ (c_X12_isIn l a0 (1 : Int32) (60 : Int32) _ rfl) (va_cwS 3 hts gX12_drawn_X12_isIn rfl rfl rfl (by decide +kernel) ⟨Nat.le_of_ble_eq_true rfl, Nat.le_of_ble_eq_true rfl⟩) ⟨fun a U g mk q => q, fun U hU hW => ⟨rfl, trivial⟩⟩ rfl rfl hl.1 rfl (lv_room (Nat.le_of_ble_eq_true rfl)) dX12_drawn_9 ⟨Nat.le_refl _, Nat.le_refl _⟩) ?_
  refine lv_if_ne (tgt := 17) hx hb dX12_drawn_12 (by decide) (fun hb8 => ?_) (fun hb8 => ?_)
  · have hf := (if_neg hb8).symm.trans hf
    refine lv_aload_n hx hb dX12_drawn_17 rfl (lv_at hl 0 rfl) ?_
    refine km_get hx hb hts hin hown hK hP 6 (by decide) (v := .ref (ra 6)) k_fieldLink_RX12_33__KeyLettersModel___s____I_ rfl dX12_drawn_18 ?_
    refine lv_bipush (v := 39) hx hb dX12_drawn_21 (by decide) ?_
    refine va_iald hx hb hK hP 2 1 rfl rfl (show ¬ ((39 : Int32) < 0 ∨ 279 ≤ (39 : Int32).toNatClampNeg) by decide +kernel) dX12_drawn_23 ?_
    refine lv_sipush (v := 400) hx hb dX12_drawn_24 (by decide) ?_
    refine lv_icmp_ge (tgt := 34) hx hb dX12_drawn_27 (by decide) (fun hb7 => ?_) (fun hb7 => ?_)
    · have hf := (if_pos hb7).symm.trans hf
      exact h_34 a0 a1 M4 ls _ _ hl hP hD hS hf
    · have hf := (if_neg hb7).symm.trans hf
      refine lv_aload_n hx hb dX12_drawn_30 rfl (lv_at hl 0 rfl) ?_
      obtain ⟨M5, hq6, hf⟩ := bo_e hf
      refine km_callwv (M1 := M5) (km_run (As := []) (rest := []) ⟨hx, hb, hml, hown, hts⟩ (c_X12_keep l dC dI cB cI cJ cZ ra _ M4  M5 hq6) (cwV 0 hts gX12_drawn_X12_keep rfl rfl rfl (by decide +kernel) ⟨Nat.le_of_ble_eq_true rfl, Nat.le_of_ble_eq_true rfl⟩) hK hP (fun _ _ _ _ => mPw_bl) (fun U hU hW => ⟨by rw [hU], by rw [hU]; exact hP, va_K.moved hW.alike hK, hD.weaken (fun _ _ _ _ => trivial)⟩) rfl rfl hl.1 rfl (lv_room (Nat.le_of_ble_eq_true rfl)) dX12_drawn_31 ⟨Nat.le_refl _, Nat.le_refl _⟩) hD hS hA (fun H locs hP hD hS => ?_)
      exact h_34 a0 a1 M5 ls _ _ hl hP hD hS hf
  · have hf := (if_pos hb8).symm.trans hf
    refine lv_iconst (v := -1) hx hb dX12_drawn_15 (by decide) ?_
    have hf := Option.some.inj hf
    subst hf
    exact m_iret hx hb hr hlocks hP hK hD hS dX12_drawn_16

abbrev rm_X12_odds : Room := { frames := 6, cells := 0, slots := 0, locals := 137 }
set_option maxHeartbeats 4000000 in
set_option maxRecDepth 100000 in
theorem c_X12_odds (l : Launch) (dC : Nat → ClassId) (dI : Nat → Nat → Nat) (cB cI cJ cZ : ClassId) (ra : Nat → Nat) (sz : Nat) (M : kD) (a0 : Int32) (a1 : Int32) (a2 : Int32) (r : (Int32 × kD)) (hf : f_X12_odds a0 a1 a2 M = some r) : Met l yX12_odds wsX12_odds rm_X12_odds (va_Pc [.ref (ra 0), .int a0, .int a1, .int a2] (mPw dC dI cB cI cJ cZ ra sz M)) (mQi dC dI cB cI cJ cZ ra sz r) 0 0 (mA ra sz) := by
  refine Met.ofW (cc := cX12_odds) (maxL := 7) (ret := (some .int)) (by decide) rfl ?_
  intro p e s m args below meth c s₁ B hml hv
  obtain ⟨hav, hsz, hP, hK, hD0⟩ := hv
  have hx := B.exec
  have hb := B.bytes
  have hr := B.returns
  have hts := atoms_spec (ws := wsX12_odds) B.pre
  have hown : s.vm.findClass RX12 = some m.cls := findClass_of_methodNamed B.named
  have hlocks := B.notSynchronized
  subst hsz
  have hA : ∀ q, s.heap.size ≤ q → mA ra s.heap.size q := fun q h => Or.inr h
  have hD : va_D (mA ra s.heap.size) (mw cB cI cJ cZ ra M) := hD0.weaken (fun k q h _ => mA_in h)
  have hS : va_S (mA ra s.heap.size) s.heap s.heap [] := va_S.rf
  have hin : ∀ w ∈ wsX120, w ∈ wsX12_odds := fun w h => List.mem_cons_of_mem _ (List.mem_append_right _ h)
  have k_fieldLink_RX12_1__KeyLettersModel___thrown___I_ := hts (.fieldLink RX12 1 "KeyLettersModel" "thrown" "I") (by decide +kernel)
  have k_fieldLink_RX12_33__KeyLettersModel___s____I_ := hts (.fieldLink RX12 33 "KeyLettersModel" "s" "[I") (by decide +kernel)
  have hl := lv_entry ([.ref (ra 0), .int a0, .int a1, .int a2]) (n := 7) (Nat.le_of_ble_eq_true rfl)
  rw [show entryFrame m args 7 = entryFrame m ([.ref (ra 0), .int a0, .int a1, .int a2] : List Value).toArray 7 from by rw [hav], lg_entry_eq]
  generalize (lg_sl ([.ref (ra 0), .int a0, .int a1, .int a2]) ++ List.replicate (7 - (lg_sl ([.ref (ra 0), .int a0, .int a1, .int a2])).length) Slot.unset).toArray = ls at hl ⊢
  have hl : lv_has ls 7 [(0, .ref (ra 0)), (1, .int a0), (2, .int a1), (3, .int a2)] := hl
  unfold f_X12_odds at hf
  have h_46 := lp_ind (z := (fun _ _ _ _ _ _ _ => none)) (b := (g_X12_odds_46)) (fun (rc_46 : Int32 → Int32 → Int32 → Int32 → Int32 → Int32 → kD → Option (Int32 × kD)) => ∀ (x1_46 : Int32) (x2_46 : Int32) (x3_46 : Int32) (x4_46 : Int32) (x5_46 : Int32) (x6_46 : Int32) (M_46 : kD) (ls : Array Slot) (H : Heap) (locs : List Loc), lv_has ls 7 [(0, .ref (ra 0)), (1, .int x1_46), (2, .int x2_46), (3, .int x3_46), (4, .int x4_46), (5, .int x5_46), (6, .int x6_46)] → va_P (dC, dI) vwCl (mw cB cI cJ cZ ra M_46) H → va_D (mA ra s.heap.size) (mw cB cI cJ cZ ra M_46) → va_S (mA ra s.heap.size) s.heap H locs → rc_46 x1_46 x2_46 x3_46 x4_46 x5_46 x6_46 M_46 = some r → W p l e (headSpec wsX12_odds rm_X12_odds).room s m args below meth c H locs 0 0 (MQ below (mQi dC dI cB cI cJ cZ ra s.heap.size r) args s 0 0 (mA ra s.heap.size)) (F0 m 46 ls [])) (by
      intro x1_46 x2_46 x3_46 x4_46 x5_46 x6_46 M_46 ls H locs hl hP hD hS hf
      cases hf) (by
      intro rc_46 ih_46 x1_46 x2_46 x3_46 x4_46 x5_46 x6_46 M_46 ls H locs hl hP hD hS hf
      unfold g_X12_odds_46 at hf
      have h_84 : ∀ (x1_84 : Int32) (x2_84 : Int32) (x3_84 : Int32) (x4_84 : Int32) (x6_84 : Int32) (t0_84 : Int32) (t1_84 : Int32) (M_84 : kD) (ls : Array Slot) (H : Heap) (locs : List Loc), lv_has ls 7 [(0, .ref (ra 0)), (1, .int x1_84), (2, .int x2_84), (3, .int x3_84), (4, .int x4_84), (6, .int x6_84)] → va_P (dC, dI) vwCl (mw cB cI cJ cZ ra M_84) H → va_D (mA ra s.heap.size) (mw cB cI cJ cZ ra M_84) → va_S (mA ra s.heap.size) s.heap H locs → g_X12_odds_84 rc_46 x1_84 x2_84 x3_84 x4_84 x6_84 t0_84 t1_84 M_84 = some r → W p l e (headSpec wsX12_odds rm_X12_odds).room s m args below meth c H locs 0 0 (MQ below (mQi dC dI cB cI cJ cZ ra s.heap.size r) args s 0 0 (mA ra s.heap.size)) (F0 m 84 ls [.int t1_84, .int t0_84]) := by
        intro x1_84 x2_84 x3_84 x4_84 x6_84 t0_84 t1_84 M_84 ls H locs hl hP hD hS hf
        unfold g_X12_odds_84 at hf
        refine lv_iadd hx hb dX12_odds_84 ?_
        obtain ⟨v1, ev1, hf⟩ := bd1_e hf
        refine kt_i ev1 ?_
        refine lv_istore (nL := 7) (lv' := [(5, .int v1), (0, .ref (ra 0)), (1, .int x1_84), (2, .int x2_84), (3, .int x3_84), (4, .int x4_84), (6, .int x6_84)]) hx hb dX12_odds_85 hl (by decide) rfl (fun ls hl => ?_)
        refine lv_aload_n hx hb dX12_odds_87 rfl (lv_at hl 1 rfl) ?_
        obtain ⟨M2, hq3, hf⟩ := bo_e hf
        refine km_callwv (M1 := M2) (km_run (As := []) (rest := []) ⟨hx, hb, hml, hown, hts⟩ (c_X12_back l dC dI cB cI cJ cZ ra _ M_84  M2 hq3) (cwV 0 hts gX12_odds_X12_back rfl rfl rfl (by decide +kernel) ⟨Nat.le_of_ble_eq_true rfl, Nat.le_of_ble_eq_true rfl⟩) hK hP (fun _ _ _ _ => mPw_bl) (fun U hU hW => ⟨by rw [hU], by rw [hU]; exact hP, va_K.moved hW.alike hK, hD.weaken (fun _ _ _ _ => trivial)⟩) rfl rfl hl.1 rfl (lv_room (Nat.le_of_ble_eq_true rfl)) dX12_odds_88 ⟨Nat.le_refl _, Nat.le_refl _⟩) hD hS hA (fun H locs hP hD hS => ?_)
        obtain ⟨v4, ev4, hf⟩ := bd1_e hf
        refine lv_iinc (k := 6) (x := x6_84) (v := v4) (nL := 7) (lv' := [(6, .int v4), (5, .int v1), (0, .ref (ra 0)), (1, .int x1_84), (2, .int x2_84), (3, .int x3_84), (4, .int x4_84)]) hx hb dX12_odds_91 hl rfl (kt_inc (w := 1) (by decide) ev4) (by decide) rfl (fun ls hl => ?_)
        refine lv_goto (tgt := 46) hx hb dX12_odds_94 (by decide) ?_
        exact ih_46 x1_84 x2_84 x3_84 x4_84 v1 v4 M2 ls _ _ (lv_sub hl [2, 3, 4, 5, 6, 1, 0] rfl) hP hD hS hf
      refine lv_iload hx hb dX12_odds_46 (lv_at hl 6 rfl) ?_
      refine lv_iload_n hx hb dX12_odds_48 rfl (lv_at hl 2 rfl) ?_
      refine lv_icmp_ge (tgt := 97) hx hb dX12_odds_49 (by decide) (fun hb11 => ?_) (fun hb11 => ?_)
      · have hf := (if_pos hb11).symm.trans hf
        refine lv_iload hx hb dX12_odds_97 (lv_at hl 5 rfl) ?_
        have hf := Option.some.inj hf
        subst hf
        exact m_iret hx hb hr hlocks hP hK hD hS dX12_odds_99
      · have hf := (if_neg hb11).symm.trans hf
        refine lv_aload_n hx hb dX12_odds_52 rfl (lv_at hl 0 rfl) ?_
        refine lv_bipush (v := 10) hx hb dX12_odds_53 (by decide) ?_
        refine lv_iload_n hx hb dX12_odds_55 rfl (lv_at hl 3 rfl) ?_
        refine lv_iload hx hb dX12_odds_56 (lv_at hl 6 rfl) ?_
        refine lv_iadd hx hb dX12_odds_58 ?_
        obtain ⟨v6, M5, hq7, hf⟩ := bo2_e hf
        refine km_callw (v := v6) (M1 := M5) rfl (km_run (As := [.int (10 : Int32), .int (x3_46 + x6_46)]) (rest := []) ⟨hx, hb, hml, hown, hts⟩ (c_X12_draws l dC dI cB cI cJ cZ ra _ M_46 (10 : Int32) (x3_46 + x6_46) (v6, M5) hq7) (cwV 2 hts gX12_odds_X12_draws rfl rfl rfl (by decide +kernel) ⟨Nat.le_of_ble_eq_true rfl, Nat.le_of_ble_eq_true rfl⟩) hK hP (fun _ _ _ _ => mPw_bl) (fun U hU hW => ⟨by rw [hU], by rw [hU]; exact hP, va_K.moved hW.alike hK, hD.weaken (fun _ _ _ _ => trivial)⟩) rfl rfl hl.1 rfl (lv_room (Nat.le_of_ble_eq_true rfl)) dX12_odds_59 ⟨Nat.le_refl _, Nat.le_refl _⟩) hD hS hA (fun H locs hP hD hS => ?_)
        refine lv_pop hx hb dX12_odds_62 rfl ?_
        refine lv_iload hx hb dX12_odds_63 (lv_at hl 5 rfl) ?_
        refine lv_aload_n hx hb dX12_odds_65 rfl (lv_at hl 0 rfl) ?_
        refine km_get hx hb hts hin hown hK hP 6 (by decide) (v := .ref (ra 6)) k_fieldLink_RX12_33__KeyLettersModel___s____I_ rfl dX12_odds_66 ?_
        refine lv_bipush (v := 50) hx hb dX12_odds_69 (by decide) ?_
        refine lv_iload_n hx hb dX12_odds_71 rfl (lv_at hl 1 rfl) ?_
        refine lv_iadd hx hb dX12_odds_72 ?_
        obtain ⟨v8, ev8, hf⟩ := bd1_e hf
        refine kt_i ev8 ?_
        obtain ⟨hc9, hf⟩ := ck_e hf
        refine va_iald hx hb hK hP 2 1 rfl rfl hc9 dX12_odds_73 ?_
        refine lv_iload hx hb dX12_odds_74 (lv_at hl 4 rfl) ?_
        refine lv_icmp_le (tgt := 83) hx hb dX12_odds_76 (by decide) (fun hb10 => ?_) (fun hb10 => ?_)
        · have hf := (if_pos hb10).symm.trans hf
          refine lv_iconst (v := 0) hx hb dX12_odds_83 (by decide) ?_
          exact h_84 x1_46 x2_46 x3_46 x4_46 x6_46 x5_46 (0 : Int32) M5 ls _ _ (lv_sub hl [0, 1, 2, 3, 4, 6] rfl) hP hD hS hf
        · have hf := (if_neg hb10).symm.trans hf
          refine lv_iconst (v := 1) hx hb dX12_odds_79 (by decide) ?_
          refine lv_goto (tgt := 84) hx hb dX12_odds_80 (by decide) ?_
          exact h_84 x1_46 x2_46 x3_46 x4_46 x6_46 x5_46 (1 : Int32) M5 ls _ _ (lv_sub hl [0, 1, 2, 3, 4, 6] rfl) hP hD hS hf) 2000
  refine lv_aload_n hx hb dX12_odds_0 rfl (lv_at hl 0 rfl) ?_
  refine lv_iconst (v := 0) hx hb dX12_odds_1 (by decide) ?_
  obtain ⟨M12, eM12, hf⟩ := bd1_e hf
  refine km_put hx hb hts hin hown hK hP hD hS 0 (by decide) k_fieldLink_RX12_1__KeyLettersModel___thrown___I_ rfl (ty := .int) (v := .int (0 : Int32)) (by decide +kernel) rfl rfl (M1 := M12) (by rw [eM12]; exact mo_0 cB cI cJ cZ ra M (0 : Int32)) dX12_odds_2 (fun H locs hP hD hS => ?_)
  refine lv_aload_n hx hb dX12_odds_5 rfl (lv_at hl 0 rfl) ?_
  refine lv_iload_n hx hb dX12_odds_6 rfl (lv_at hl 1 rfl) ?_
  obtain ⟨v13, hq14, hf⟩ := bo_e hf
  refine ko_call (v := some (.int v13)) (km_run (As := [.int a0]) (rest := []) ⟨hx, hb, hml, hown, hts⟩ (c_X12_isMachine l dC dI cB cI cJ cZ ra M12 a0 v13 hq14) (cwV 1 hts gX12_odds_X12_isMachine rfl rfl rfl (by decide +kernel) ⟨Nat.le_of_ble_eq_true rfl, Nat.le_of_ble_eq_true rfl⟩) hK hP (fun _ _ _ _ => mPr_bl) (fun U hU hW => ⟨by rw [hU]; exact hP, va_K.moved hW.alike hK⟩) rfl rfl hl.1 rfl (lv_room (Nat.le_of_ble_eq_true rfl)) dX12_odds_7 ⟨Nat.le_refl _, Nat.le_refl _⟩) ?_
  refine lv_if_eq (tgt := 23) hx hb dX12_odds_10 (by decide) (fun hb21 => ?_) (fun hb21 => ?_)
  · have hf := (if_pos hb21).symm.trans hf
    refine lv_iconst (v := -1) hx hb dX12_odds_23 (by decide) ?_
    have hf := Option.some.inj hf
    subst hf
    exact m_iret hx hb hr hlocks hP hK hD hS dX12_odds_24
  · have hf := (if_neg hb21).symm.trans hf
    refine lv_iload_n hx hb dX12_odds_13 rfl (lv_at hl 2 rfl) ?_
    refine lv_iconst (v := 1) hx hb dX12_odds_14 (by decide) ?_
    refine lv_bipush (v := 30) hx hb dX12_odds_15 (by decide) ?_
    refine ko_call (v := some (.int (f_X12_isIn a1 (1 : Int32) (30 : Int32)))) (va_runS (As := [.int a1, .int (1 : Int32), .int (30 : Int32)]) (rest := []) ⟨hx, hb, hml, hown, hts⟩ (c_X12_isIn l a1 (1 : Int32) (30 : Int32) _ rfl) (va_cwS 3 hts gX12_odds_X12_isIn rfl rfl rfl (by decide +kernel) ⟨Nat.le_of_ble_eq_true rfl, Nat.le_of_ble_eq_true rfl⟩) ⟨fun a U g mk q => q, fun U hU hW => ⟨rfl, trivial⟩⟩ rfl rfl hl.1 rfl (lv_room (Nat.le_of_ble_eq_true rfl)) dX12_odds_17 ⟨Nat.le_refl _, Nat.le_refl _⟩) ?_
    refine lv_if_ne (tgt := 25) hx hb dX12_odds_20 (by decide) (fun hb20 => ?_) (fun hb20 => ?_)
    · have hf := (if_neg hb20).symm.trans hf
      refine lv_aload_n hx hb dX12_odds_25 rfl (lv_at hl 0 rfl) ?_
      obtain ⟨M15, hq16, hf⟩ := bo_e hf
      refine km_callwv (M1 := M15) (km_run (As := []) (rest := []) ⟨hx, hb, hml, hown, hts⟩ (c_X12_tries l dC dI cB cI cJ cZ ra _ M12  M15 hq16) (cwV 0 hts gX12_odds_X12_tries rfl rfl rfl (by decide +kernel) ⟨Nat.le_of_ble_eq_true rfl, Nat.le_of_ble_eq_true rfl⟩) hK hP (fun _ _ _ _ => mPw_bl) (fun U hU hW => ⟨by rw [hU], by rw [hU]; exact hP, va_K.moved hW.alike hK, hD.weaken (fun _ _ _ _ => trivial)⟩) rfl rfl hl.1 rfl (lv_room (Nat.le_of_ble_eq_true rfl)) dX12_odds_26 ⟨Nat.le_refl _, Nat.le_refl _⟩) hD hS hA (fun H locs hP hD hS => ?_)
      refine lv_aload_n hx hb dX12_odds_29 rfl (lv_at hl 0 rfl) ?_
      refine km_get hx hb hts hin hown hK hP 6 (by decide) (v := .ref (ra 6)) k_fieldLink_RX12_33__KeyLettersModel___s____I_ rfl dX12_odds_30 ?_
      refine lv_bipush (v := 50) hx hb dX12_odds_33 (by decide) ?_
      refine lv_iload_n hx hb dX12_odds_35 rfl (lv_at hl 1 rfl) ?_
      refine lv_iadd hx hb dX12_odds_36 ?_
      obtain ⟨v17, ev17, hf⟩ := bd1_e hf
      refine kt_i ev17 ?_
      obtain ⟨hc18, hf⟩ := ck_e hf
      refine va_iald hx hb hK hP 2 1 rfl rfl hc18 dX12_odds_37 ?_
      obtain ⟨v19, ev19, hf⟩ := bd1_e hf
      refine kt_i ev19 ?_
      refine lv_istore (nL := 7) (lv' := [(4, .int v19), (0, .ref (ra 0)), (1, .int a0), (2, .int a1), (3, .int a2)]) hx hb dX12_odds_38 hl (by decide) rfl (fun ls hl => ?_)
      refine lv_iconst (v := 0) hx hb dX12_odds_40 (by decide) ?_
      refine lv_istore (nL := 7) (lv' := [(5, .int (0 : Int32)), (4, .int v19), (0, .ref (ra 0)), (1, .int a0), (2, .int a1), (3, .int a2)]) hx hb dX12_odds_41 hl (by decide) rfl (fun ls hl => ?_)
      refine lv_iconst (v := 0) hx hb dX12_odds_43 (by decide) ?_
      refine lv_istore (nL := 7) (lv' := [(6, .int (0 : Int32)), (5, .int (0 : Int32)), (4, .int v19), (0, .ref (ra 0)), (1, .int a0), (2, .int a1), (3, .int a2)]) hx hb dX12_odds_44 hl (by decide) rfl (fun ls hl => ?_)
      exact h_46 a0 a1 a2 v19 (0 : Int32) (0 : Int32) M15 ls _ _ (lv_sub hl [3, 4, 5, 6, 2, 1, 0] rfl) hP hD hS hf
    · have hf := (if_pos hb20).symm.trans hf
      refine lv_iconst (v := -1) hx hb dX12_odds_23 (by decide) ?_
      have hf := Option.some.inj hf
      subst hf
      exact m_iret hx hb hr hlocks hP hK hD hS dX12_odds_24

abbrev rm_X12_bookLine : Room := { frames := 3, cells := 0, slots := 0, locals := 67 }
set_option maxHeartbeats 4000000 in
set_option maxRecDepth 100000 in
theorem c_X12_bookLine (l : Launch) (dC : Nat → ClassId) (dI : Nat → Nat → Nat) (cB cI cJ cZ : ClassId) (ra : Nat → Nat) (sz : Nat) (M : kD)  (r : (Int32 × kD)) (hf : f_X12_bookLine  M = some r) : Met l yX12_bookLine wsX12_bookLine rm_X12_bookLine (va_Pc [.ref (ra 0)] (mPw dC dI cB cI cJ cZ ra sz M)) (mQi dC dI cB cI cJ cZ ra sz r) 0 0 (mA ra sz) := by
  refine Met.ofW (cc := cX12_bookLine) (maxL := 7) (ret := (some .boolean)) (by decide) rfl ?_
  intro p e s m args below meth c s₁ B hml hv
  obtain ⟨hav, hsz, hP, hK, hD0⟩ := hv
  have hx := B.exec
  have hb := B.bytes
  have hr := B.returns
  have hts := atoms_spec (ws := wsX12_bookLine) B.pre
  have hown : s.vm.findClass RX12 = some m.cls := findClass_of_methodNamed B.named
  have hlocks := B.notSynchronized
  subst hsz
  have hA : ∀ q, s.heap.size ≤ q → mA ra s.heap.size q := fun q h => Or.inr h
  have hD : va_D (mA ra s.heap.size) (mw cB cI cJ cZ ra M) := hD0.weaken (fun k q h _ => mA_in h)
  have hS : va_S (mA ra s.heap.size) s.heap s.heap [] := va_S.rf
  have hin : ∀ w ∈ wsX120, w ∈ wsX12_bookLine := fun w h => List.mem_cons_of_mem _ (List.mem_append_right _ h)
  have k_constantLong_RX12_107_131333279212915 := hts (.constantLong RX12 107 131333279212915) (by decide +kernel)
  have k_constantLong_RX12_109_1936290931 := hts (.constantLong RX12 109 1936290931) (by decide +kernel)
  have k_constantLong_RX12_111_119182682645875 := hts (.constantLong RX12 111 119182682645875) (by decide +kernel)
  have k_constantLong_RX12_113_125796947750766 := hts (.constantLong RX12 113 125796947750766) (by decide +kernel)
  have k_constantLong_RX12_115_427020345714 := hts (.constantLong RX12 115 427020345714) (by decide +kernel)
  have k_constantLong_RX12_117_6578553 := hts (.constantLong RX12 117 6578553) (by decide +kernel)
  have k_fieldLink_RX12_190__KeyLettersModel___got___I_ := hts (.fieldLink RX12 190 "KeyLettersModel" "got" "I") (by decide +kernel)
  have k_fieldLink_RX12_33__KeyLettersModel___s____I_ := hts (.fieldLink RX12 33 "KeyLettersModel" "s" "[I") (by decide +kernel)
  have k_fieldLink_RX12_404__KeyLettersModel___toldMany___I_ := hts (.fieldLink RX12 404 "KeyLettersModel" "toldMany" "I") (by decide +kernel)
  have k_fieldLink_RX12_40__KeyLettersModel___read____I_ := hts (.fieldLink RX12 40 "KeyLettersModel" "read" "[I") (by decide +kernel)
  have hl := lv_entry ([.ref (ra 0)]) (n := 7) (Nat.le_of_ble_eq_true rfl)
  rw [show entryFrame m args 7 = entryFrame m ([.ref (ra 0)] : List Value).toArray 7 from by rw [hav], lg_entry_eq]
  generalize (lg_sl ([.ref (ra 0)]) ++ List.replicate (7 - (lg_sl ([.ref (ra 0)])).length) Slot.unset).toArray = ls at hl ⊢
  have hl : lv_has ls 7 [(0, .ref (ra 0))] := hl
  unfold f_X12_bookLine at hf
  have h_47 : ∀ (x1_47 : Int32) (x2_47 : Int32) (x3_47 : Int32) (M_47 : kD) (ls : Array Slot) (H : Heap) (locs : List Loc), lv_has ls 7 [(0, .ref (ra 0)), (1, .int x1_47), (2, .int x2_47), (3, .int x3_47)] → va_P (dC, dI) vwCl (mw cB cI cJ cZ ra M_47) H → va_D (mA ra s.heap.size) (mw cB cI cJ cZ ra M_47) → va_S (mA ra s.heap.size) s.heap H locs → g_X12_bookLine_47 x1_47 x2_47 x3_47 M_47 = some r → W p l e (headSpec wsX12_bookLine rm_X12_bookLine).room s m args below meth c H locs 0 0 (MQ below (mQi dC dI cB cI cJ cZ ra s.heap.size r) args s 0 0 (mA ra s.heap.size)) (F0 m 47 ls []) := by
    intro x1_47 x2_47 x3_47 M_47 ls H locs hl hP hD hS hf
    unfold g_X12_bookLine_47 at hf
    have h_86 : ∀ (x1_86 : Int32) (x2_86 : Int32) (x3_86 : Int32) (x4_86 : Int32) (t1_86 : Int32) (t2_86 : Int32) (M_86 : kD) (ls : Array Slot) (H : Heap) (locs : List Loc), lv_has ls 7 [(0, .ref (ra 0)), (1, .int x1_86), (2, .int x2_86), (3, .int x3_86), (4, .int x4_86)] → va_P (dC, dI) vwCl (mw cB cI cJ cZ ra M_86) H → va_D (mA ra s.heap.size) (mw cB cI cJ cZ ra M_86) → va_S (mA ra s.heap.size) s.heap H locs → g_X12_bookLine_86 x1_86 x2_86 x3_86 x4_86 t1_86 t2_86 M_86 = some r → W p l e (headSpec wsX12_bookLine rm_X12_bookLine).room s m args below meth c H locs 0 0 (MQ below (mQi dC dI cB cI cJ cZ ra s.heap.size r) args s 0 0 (mA ra s.heap.size)) (F0 m 86 ls [.int t2_86, .int t1_86, .ref (ra 8)]) := by
      intro x1_86 x2_86 x3_86 x4_86 t1_86 t2_86 M_86 ls H locs hl hP hD hS hf
      unfold g_X12_bookLine_86 at hf
      have h_180 : ∀ (x1_180 : Int32) (x4_180 : Int32) (t0_180 : Int32) (M_180 : kD) (ls : Array Slot) (H : Heap) (locs : List Loc), lv_has ls 7 [(0, .ref (ra 0)), (1, .int x1_180), (4, .int x4_180)] → va_P (dC, dI) vwCl (mw cB cI cJ cZ ra M_180) H → va_D (mA ra s.heap.size) (mw cB cI cJ cZ ra M_180) → va_S (mA ra s.heap.size) s.heap H locs → g_X12_bookLine_180 x1_180 x4_180 t0_180 M_180 = some r → W p l e (headSpec wsX12_bookLine rm_X12_bookLine).room s m args below meth c H locs 0 0 (MQ below (mQi dC dI cB cI cJ cZ ra s.heap.size r) args s 0 0 (mA ra s.heap.size)) (F0 m 180 ls [.int t0_180]) := by
        intro x1_180 x4_180 t0_180 M_180 ls H locs hl hP hD hS hf
        unfold g_X12_bookLine_180 at hf
        have h_257 : ∀ (x1_257 : Int32) (t0_257 : Int32) (M_257 : kD) (ls : Array Slot) (H : Heap) (locs : List Loc), lv_has ls 7 [(0, .ref (ra 0)), (1, .int x1_257)] → va_P (dC, dI) vwCl (mw cB cI cJ cZ ra M_257) H → va_D (mA ra s.heap.size) (mw cB cI cJ cZ ra M_257) → va_S (mA ra s.heap.size) s.heap H locs → g_X12_bookLine_257 x1_257 t0_257 M_257 = some r → W p l e (headSpec wsX12_bookLine rm_X12_bookLine).room s m args below meth c H locs 0 0 (MQ below (mQi dC dI cB cI cJ cZ ra s.heap.size r) args s 0 0 (mA ra s.heap.size)) (F0 m 257 ls [.int t0_257]) := by
          intro x1_257 t0_257 M_257 ls H locs hl hP hD hS hf
          unfold g_X12_bookLine_257 at hf
          refine lv_istore (nL := 7) (lv' := [(6, .int t0_257), (0, .ref (ra 0)), (1, .int x1_257)]) hx hb dX12_bookLine_257 hl (by decide) rfl (fun ls hl => ?_)
          refine lv_aload_n hx hb dX12_bookLine_259 rfl (lv_at hl 1 rfl) ?_
          refine km_get hx hb hts hin hown hK hP 8 (by decide) (v := .ref (ra 8)) k_fieldLink_RX12_40__KeyLettersModel___read____I_ rfl dX12_bookLine_260 ?_
          refine lv_iload_n hx hb dX12_bookLine_263 rfl (lv_at hl 2 rfl) ?_
          refine lv_iconst (v := 2) hx hb dX12_bookLine_264 (by decide) ?_
          refine lv_iadd hx hb dX12_bookLine_265 ?_
          refine lv_aload_n hx hb dX12_bookLine_266 rfl (lv_at hl 1 rfl) ?_
          refine km_get hx hb hts hin hown hK hP 18 (by decide) (v := .int (M_257.1 0 18)) k_fieldLink_RX12_190__KeyLettersModel___got___I_ rfl dX12_bookLine_267 ?_
          obtain ⟨hc1, hf⟩ := ck_e hf
          obtain ⟨M2, eM2, hf⟩ := bd1_e hf
          refine va_iast hx hb hK hP hD hS 4 1 rfl rfl hc1 dX12_bookLine_270 (fun H locs hP hD hS => ?_)
          have hP : va_P (dC, dI) vwCl (mw cB cI cJ cZ ra M2) H := by rw [eM2, ← ma_8 cB cI cJ cZ ra M_257 (x1_257 + (2 : Int32)).toNatClampNeg (M_257.1 0 18)]; exact hP
          have hD : va_D (mA ra s.heap.size) (mw cB cI cJ cZ ra M2) := by rw [eM2, ← ma_8 cB cI cJ cZ ra M_257 (x1_257 + (2 : Int32)).toNatClampNeg (M_257.1 0 18)]; exact hD
          refine lv_iload hx hb dX12_bookLine_271 (lv_at hl 0 rfl) ?_
          obtain ⟨hz3, hf⟩ := ck_e hf
          have hf := Option.some.inj hf
          subst hf
          exact m_zret hx hb hr (kt_z (Decidable.not_not.mp hz3)) hlocks hP hK hD hS dX12_bookLine_273
        refine lv_istore (nL := 7) (lv' := [(5, .int t0_180), (0, .ref (ra 0)), (1, .int x1_180), (4, .int x4_180)]) hx hb dX12_bookLine_180 hl (by decide) rfl (fun ls hl => ?_)
        refine lv_iload hx hb dX12_bookLine_182 (lv_at hl 0 rfl) ?_
        refine lv_if_ge (tgt := 193) hx hb dX12_bookLine_184 (by decide) (fun hb23 => ?_) (fun hb23 => ?_)
        · have hf := (if_pos hb23).symm.trans hf
          refine lv_aload_n hx hb dX12_bookLine_193 rfl (lv_at hl 1 rfl) ?_
          obtain ⟨M4, hq5, hf⟩ := bo_e hf
          refine km_callwv (M1 := M4) (km_run (As := []) (rest := []) ⟨hx, hb, hml, hown, hts⟩ (c_X12_next l dC dI cB cI cJ cZ ra _ M_180  M4 hq5) (cwV 0 hts gX12_bookLine_X12_next rfl rfl rfl (by decide +kernel) ⟨Nat.le_of_ble_eq_true rfl, Nat.le_of_ble_eq_true rfl⟩) hK hP (fun _ _ _ _ => mPw_bl) (fun U hU hW => ⟨by rw [hU], by rw [hU]; exact hP, va_K.moved hW.alike hK, hD.weaken (fun _ _ _ _ => trivial)⟩) rfl rfl hl.1 rfl (lv_room (Nat.le_of_ble_eq_true rfl)) dX12_bookLine_194 ⟨Nat.le_refl _, Nat.le_refl _⟩) hD hS hA (fun H locs hP hD hS => ?_)
          refine lv_aload_n hx hb dX12_bookLine_197 rfl (lv_at hl 1 rfl) ?_
          refine km_get hx hb hts hin hown hK hP 8 (by decide) (v := .ref (ra 8)) k_fieldLink_RX12_40__KeyLettersModel___read____I_ rfl dX12_bookLine_198 ?_
          refine lv_iload_n hx hb dX12_bookLine_201 rfl (lv_at hl 2 rfl) ?_
          refine lv_iload hx hb dX12_bookLine_202 (lv_at hl 0 rfl) ?_
          obtain ⟨hc6, hf⟩ := ck_e hf
          obtain ⟨M7, eM7, hf⟩ := bd1_e hf
          refine va_iast hx hb hK hP hD hS 4 1 rfl rfl hc6 dX12_bookLine_204 (fun H locs hP hD hS => ?_)
          have hP : va_P (dC, dI) vwCl (mw cB cI cJ cZ ra M7) H := by rw [eM7, ← ma_8 cB cI cJ cZ ra M4 x1_180.toNatClampNeg t0_180]; exact hP
          have hD : va_D (mA ra s.heap.size) (mw cB cI cJ cZ ra M7) := by rw [eM7, ← ma_8 cB cI cJ cZ ra M4 x1_180.toNatClampNeg t0_180]; exact hD
          refine lv_aload_n hx hb dX12_bookLine_205 rfl (lv_at hl 1 rfl) ?_
          refine km_get hx hb hts hin hown hK hP 8 (by decide) (v := .ref (ra 8)) k_fieldLink_RX12_40__KeyLettersModel___read____I_ rfl dX12_bookLine_206 ?_
          refine lv_iload_n hx hb dX12_bookLine_209 rfl (lv_at hl 2 rfl) ?_
          refine lv_iconst (v := 1) hx hb dX12_bookLine_210 (by decide) ?_
          refine lv_iadd hx hb dX12_bookLine_211 ?_
          refine lv_iload hx hb dX12_bookLine_212 (lv_at hl 3 rfl) ?_
          obtain ⟨hc8, hf⟩ := ck_e hf
          obtain ⟨M9, eM9, hf⟩ := bd1_e hf
          refine va_iast hx hb hK hP hD hS 4 1 rfl rfl hc8 dX12_bookLine_214 (fun H locs hP hD hS => ?_)
          have hP : va_P (dC, dI) vwCl (mw cB cI cJ cZ ra M9) H := by rw [eM9, ← ma_8 cB cI cJ cZ ra M7 (x1_180 + (1 : Int32)).toNatClampNeg x4_180]; exact hP
          have hD : va_D (mA ra s.heap.size) (mw cB cI cJ cZ ra M9) := by rw [eM9, ← ma_8 cB cI cJ cZ ra M7 (x1_180 + (1 : Int32)).toNatClampNeg x4_180]; exact hD
          refine lv_iload hx hb dX12_bookLine_215 (lv_at hl 0 rfl) ?_
          refine lv_iconst (v := 1) hx hb dX12_bookLine_217 (by decide) ?_
          refine lv_icmp_eq (tgt := 227) hx hb dX12_bookLine_218 (by decide) (fun hb18 => ?_) (fun hb18 => ?_)
          · have hf := (if_pos hb18).symm.trans hf
            refine lv_iconst (v := 1) hx hb dX12_bookLine_227 (by decide) ?_
            have hf := Option.some.inj hf
            subst hf
            exact m_zret hx hb hr rfl hlocks hP hK hD hS dX12_bookLine_228
          · have hf := (if_neg hb18).symm.trans hf
            refine lv_iload hx hb dX12_bookLine_221 (lv_at hl 0 rfl) ?_
            refine lv_iconst (v := 2) hx hb dX12_bookLine_223 (by decide) ?_
            refine lv_icmp_ne (tgt := 229) hx hb dX12_bookLine_224 (by decide) (fun hb17 => ?_) (fun hb17 => ?_)
            · have hf := (if_neg hb17).symm.trans hf
              refine lv_iload hx hb dX12_bookLine_229 (lv_at hl 0 rfl) ?_
              refine lv_if_ne (tgt := 249) hx hb dX12_bookLine_231 (by decide) (fun hb16 => ?_) (fun hb16 => ?_)
              · have hf := (if_neg hb16).symm.trans hf
                refine lv_aload_n hx hb dX12_bookLine_249 rfl (lv_at hl 1 rfl) ?_
                refine lv_iconst (v := 1) hx hb dX12_bookLine_250 (by decide) ?_
                refine lv_sipush (v := 999) hx hb dX12_bookLine_251 (by decide) ?_
                obtain ⟨v11, M10, hq12, hf⟩ := bo2_e hf
                refine km_callw (v := v11) (M1 := M10) rfl (km_run (As := [.int (1 : Int32), .int (999 : Int32)]) (rest := []) ⟨hx, hb, hml, hown, hts⟩ (c_X12_takes l dC dI cB cI cJ cZ ra _ M9 (1 : Int32) (999 : Int32) (v11, M10) hq12) (cwV 2 hts gX12_bookLine_X12_takes rfl rfl rfl (by decide +kernel) ⟨Nat.le_of_ble_eq_true rfl, Nat.le_of_ble_eq_true rfl⟩) hK hP (fun _ _ _ _ => mPw_bl) (fun U hU hW => ⟨by rw [hU], by rw [hU]; exact hP, va_K.moved hW.alike hK, hD.weaken (fun _ _ _ _ => trivial)⟩) rfl rfl hl.1 rfl (lv_room (Nat.le_of_ble_eq_true rfl)) dX12_bookLine_254 ⟨Nat.le_refl _, Nat.le_refl _⟩) hD hS hA (fun H locs hP hD hS => ?_)
                exact h_257 x1_180 v11 M10 ls _ _ (lv_sub hl [1, 2] rfl) hP hD hS hf
              · have hf := (if_pos hb16).symm.trans hf
                refine lv_aload_n hx hb dX12_bookLine_234 rfl (lv_at hl 1 rfl) ?_
                refine lv_bipush (v := 6) hx hb dX12_bookLine_235 (by decide) ?_
                refine lv_aload_n hx hb dX12_bookLine_237 rfl (lv_at hl 1 rfl) ?_
                refine km_get hx hb hts hin hown hK hP 6 (by decide) (v := .ref (ra 6)) k_fieldLink_RX12_33__KeyLettersModel___s____I_ rfl dX12_bookLine_238 ?_
                refine lv_iconst (v := 1) hx hb dX12_bookLine_241 (by decide) ?_
                refine va_iald hx hb hK hP 2 1 rfl rfl (show ¬ ((1 : Int32) < 0 ∨ 279 ≤ (1 : Int32).toNatClampNeg) by decide +kernel) dX12_bookLine_242 ?_
                obtain ⟨v14, M13, hq15, hf⟩ := bo2_e hf
                refine km_callw (v := v14) (M1 := M13) rfl (km_run (As := [.int (6 : Int32), .int (M9.1 6 (1 : Int32).toNatClampNeg)]) (rest := []) ⟨hx, hb, hml, hown, hts⟩ (c_X12_takesName l dC dI cB cI cJ cZ ra _ M9 (6 : Int32) (M9.1 6 (1 : Int32).toNatClampNeg) (v14, M13) hq15) (cwV 2 hts gX12_bookLine_X12_takesName rfl rfl rfl (by decide +kernel) ⟨Nat.le_of_ble_eq_true rfl, Nat.le_of_ble_eq_true rfl⟩) hK hP (fun _ _ _ _ => mPw_bl) (fun U hU hW => ⟨by rw [hU], by rw [hU]; exact hP, va_K.moved hW.alike hK, hD.weaken (fun _ _ _ _ => trivial)⟩) rfl rfl hl.1 rfl (lv_room (Nat.le_of_ble_eq_true rfl)) dX12_bookLine_243 ⟨Nat.le_refl _, Nat.le_refl _⟩) hD hS hA (fun H locs hP hD hS => ?_)
                refine lv_goto (tgt := 257) hx hb dX12_bookLine_246 (by decide) ?_
                exact h_257 x1_180 v14 M13 ls _ _ (lv_sub hl [1, 2] rfl) hP hD hS hf
            · have hf := (if_pos hb17).symm.trans hf
              refine lv_iconst (v := 1) hx hb dX12_bookLine_227 (by decide) ?_
              have hf := Option.some.inj hf
              subst hf
              exact m_zret hx hb hr rfl hlocks hP hK hD hS dX12_bookLine_228
        · have hf := (if_neg hb23).symm.trans hf
          refine lv_aload_n hx hb dX12_bookLine_187 rfl (lv_at hl 1 rfl) ?_
          refine lv_iconst (v := 1) hx hb dX12_bookLine_188 (by decide) ?_
          obtain ⟨v20, M19, hq21, hf⟩ := bo2_e hf
          refine km_callw (v := v20) (M1 := M19) rfl (km_run (As := [.int (1 : Int32)]) (rest := []) ⟨hx, hb, hml, hown, hts⟩ (c_X12_bad l dC dI cB cI cJ cZ ra _ M_180 (1 : Int32) (v20, M19) hq21) (cwV 1 hts gX12_bookLine_X12_bad rfl rfl rfl (by decide +kernel) ⟨Nat.le_of_ble_eq_true rfl, Nat.le_of_ble_eq_true rfl⟩) hK hP (fun _ _ _ _ => mPw_bl) (fun U hU hW => ⟨by rw [hU], by rw [hU]; exact hP, va_K.moved hW.alike hK, hD.weaken (fun _ _ _ _ => trivial)⟩) rfl rfl hl.1 rfl (lv_room (Nat.le_of_ble_eq_true rfl)) dX12_bookLine_189 ⟨Nat.le_refl _, Nat.le_refl _⟩) hD hS hA (fun H locs hP hD hS => ?_)
          obtain ⟨hz22, hf⟩ := ck_e hf
          have hf := Option.some.inj hf
          subst hf
          exact m_zret hx hb hr (kt_z (Decidable.not_not.mp hz22)) hlocks hP hK hD hS dX12_bookLine_192
      obtain ⟨hc24, hf⟩ := ck_e hf
      obtain ⟨M25, eM25, hf⟩ := bd1_e hf
      refine va_iast hx hb hK hP hD hS 4 1 rfl rfl hc24 dX12_bookLine_86 (fun H locs hP hD hS => ?_)
      have hP : va_P (dC, dI) vwCl (mw cB cI cJ cZ ra M25) H := by rw [eM25, ← ma_8 cB cI cJ cZ ra M_86 t1_86.toNatClampNeg t2_86]; exact hP
      have hD : va_D (mA ra s.heap.size) (mw cB cI cJ cZ ra M25) := by rw [eM25, ← ma_8 cB cI cJ cZ ra M_86 t1_86.toNatClampNeg t2_86]; exact hD
      refine lv_iload_n hx hb dX12_bookLine_87 rfl (lv_at hl 3 rfl) ?_
      refine lv_if_eq (tgt := 93) hx hb dX12_bookLine_88 (by decide) (fun hb37 => ?_) (fun hb37 => ?_)
      · have hf := (if_pos hb37).symm.trans hf
        refine lv_iload_n hx hb dX12_bookLine_93 rfl (lv_at hl 2 rfl) ?_
        refine lv_if_eq (tgt := 123) hx hb dX12_bookLine_94 (by decide) (fun hb36 => ?_) (fun hb36 => ?_)
        · have hf := (if_pos hb36).symm.trans hf
          refine lv_aload_n hx hb dX12_bookLine_123 rfl (lv_at hl 0 rfl) ?_
          refine lv_ldc2 (v := 131333279212915) hx hb hown k_constantLong_RX12_107_131333279212915 dX12_bookLine_124 ?_
          refine ko_call (v := some (.int (f_X12_isWord (131333279212915 : Int64) M25))) (km_run (As := [.long (131333279212915 : Int64)]) (rest := []) ⟨hx, hb, hml, hown, hts⟩ (c_X12_isWord l dC dI cB cI cJ cZ ra M25 (131333279212915 : Int64) _ rfl) (cwV 1 hts gX12_bookLine_X12_isWord rfl rfl rfl (by decide +kernel) ⟨Nat.le_of_ble_eq_true rfl, Nat.le_of_ble_eq_true rfl⟩) hK hP (fun _ _ _ _ => mPr_bl) (fun U hU hW => ⟨by rw [hU]; exact hP, va_K.moved hW.alike hK⟩) rfl rfl hl.1 rfl (lv_room (Nat.le_of_ble_eq_true rfl)) dX12_bookLine_127 ⟨Nat.le_refl _, Nat.le_refl _⟩) ?_
          refine lv_if_eq (tgt := 137) hx hb dX12_bookLine_130 (by decide) (fun hb29 => ?_) (fun hb29 => ?_)
          · have hf := (if_pos hb29).symm.trans hf
            refine lv_aload_n hx hb dX12_bookLine_137 rfl (lv_at hl 0 rfl) ?_
            refine lv_ldc2 (v := 1936290931) hx hb hown k_constantLong_RX12_109_1936290931 dX12_bookLine_138 ?_
            refine ko_call (v := some (.int (f_X12_isWord (1936290931 : Int64) M25))) (km_run (As := [.long (1936290931 : Int64)]) (rest := []) ⟨hx, hb, hml, hown, hts⟩ (c_X12_isWord l dC dI cB cI cJ cZ ra M25 (1936290931 : Int64) _ rfl) (cwV 1 hts gX12_bookLine_X12_isWord rfl rfl rfl (by decide +kernel) ⟨Nat.le_of_ble_eq_true rfl, Nat.le_of_ble_eq_true rfl⟩) hK hP (fun _ _ _ _ => mPr_bl) (fun U hU hW => ⟨by rw [hU]; exact hP, va_K.moved hW.alike hK⟩) rfl rfl hl.1 rfl (lv_room (Nat.le_of_ble_eq_true rfl)) dX12_bookLine_141 ⟨Nat.le_refl _, Nat.le_refl _⟩) ?_
            refine lv_if_eq (tgt := 151) hx hb dX12_bookLine_144 (by decide) (fun hb28 => ?_) (fun hb28 => ?_)
            · have hf := (if_pos hb28).symm.trans hf
              refine lv_aload_n hx hb dX12_bookLine_151 rfl (lv_at hl 0 rfl) ?_
              refine lv_ldc2 (v := 119182682645875) hx hb hown k_constantLong_RX12_111_119182682645875 dX12_bookLine_152 ?_
              refine ko_call (v := some (.int (f_X12_isWord (119182682645875 : Int64) M25))) (km_run (As := [.long (119182682645875 : Int64)]) (rest := []) ⟨hx, hb, hml, hown, hts⟩ (c_X12_isWord l dC dI cB cI cJ cZ ra M25 (119182682645875 : Int64) _ rfl) (cwV 1 hts gX12_bookLine_X12_isWord rfl rfl rfl (by decide +kernel) ⟨Nat.le_of_ble_eq_true rfl, Nat.le_of_ble_eq_true rfl⟩) hK hP (fun _ _ _ _ => mPr_bl) (fun U hU hW => ⟨by rw [hU]; exact hP, va_K.moved hW.alike hK⟩) rfl rfl hl.1 rfl (lv_room (Nat.le_of_ble_eq_true rfl)) dX12_bookLine_155 ⟨Nat.le_refl _, Nat.le_refl _⟩) ?_
              refine lv_if_eq (tgt := 165) hx hb dX12_bookLine_158 (by decide) (fun hb27 => ?_) (fun hb27 => ?_)
              · have hf := (if_pos hb27).symm.trans hf
                refine lv_aload_n hx hb dX12_bookLine_165 rfl (lv_at hl 0 rfl) ?_
                refine lv_ldc2 (v := 125796947750766) hx hb hown k_constantLong_RX12_113_125796947750766 dX12_bookLine_166 ?_
                refine ko_call (v := some (.int (f_X12_isWord (125796947750766 : Int64) M25))) (km_run (As := [.long (125796947750766 : Int64)]) (rest := []) ⟨hx, hb, hml, hown, hts⟩ (c_X12_isWord l dC dI cB cI cJ cZ ra M25 (125796947750766 : Int64) _ rfl) (cwV 1 hts gX12_bookLine_X12_isWord rfl rfl rfl (by decide +kernel) ⟨Nat.le_of_ble_eq_true rfl, Nat.le_of_ble_eq_true rfl⟩) hK hP (fun _ _ _ _ => mPr_bl) (fun U hU hW => ⟨by rw [hU]; exact hP, va_K.moved hW.alike hK⟩) rfl rfl hl.1 rfl (lv_room (Nat.le_of_ble_eq_true rfl)) dX12_bookLine_169 ⟨Nat.le_refl _, Nat.le_refl _⟩) ?_
                refine lv_if_eq (tgt := 179) hx hb dX12_bookLine_172 (by decide) (fun hb26 => ?_) (fun hb26 => ?_)
                · have hf := (if_pos hb26).symm.trans hf
                  refine lv_iconst (v := -1) hx hb dX12_bookLine_179 (by decide) ?_
                  exact h_180 x1_86 x4_86 (-1 : Int32) M25 ls _ _ (lv_sub hl [0, 1, 4] rfl) hP hD hS hf
                · have hf := (if_neg hb26).symm.trans hf
                  refine lv_iconst (v := 3) hx hb dX12_bookLine_175 (by decide) ?_
                  refine lv_goto (tgt := 180) hx hb dX12_bookLine_176 (by decide) ?_
                  exact h_180 x1_86 x4_86 (3 : Int32) M25 ls _ _ (lv_sub hl [0, 1, 4] rfl) hP hD hS hf
              · have hf := (if_neg hb27).symm.trans hf
                refine lv_iconst (v := 2) hx hb dX12_bookLine_161 (by decide) ?_
                refine lv_goto (tgt := 180) hx hb dX12_bookLine_162 (by decide) ?_
                exact h_180 x1_86 x4_86 (2 : Int32) M25 ls _ _ (lv_sub hl [0, 1, 4] rfl) hP hD hS hf
            · have hf := (if_neg hb28).symm.trans hf
              refine lv_iconst (v := 1) hx hb dX12_bookLine_147 (by decide) ?_
              refine lv_goto (tgt := 180) hx hb dX12_bookLine_148 (by decide) ?_
              exact h_180 x1_86 x4_86 (1 : Int32) M25 ls _ _ (lv_sub hl [0, 1, 4] rfl) hP hD hS hf
          · have hf := (if_neg hb29).symm.trans hf
            refine lv_iconst (v := 0) hx hb dX12_bookLine_133 (by decide) ?_
            refine lv_goto (tgt := 180) hx hb dX12_bookLine_134 (by decide) ?_
            exact h_180 x1_86 x4_86 (0 : Int32) M25 ls _ _ (lv_sub hl [0, 1, 4] rfl) hP hD hS hf
        · have hf := (if_neg hb36).symm.trans hf
          refine lv_aload_n hx hb dX12_bookLine_97 rfl (lv_at hl 0 rfl) ?_
          refine lv_iconst (v := 1) hx hb dX12_bookLine_98 (by decide) ?_
          refine lv_bipush (v := 60) hx hb dX12_bookLine_99 (by decide) ?_
          obtain ⟨v31, M30, hq32, hf⟩ := bo2_e hf
          refine km_callw (v := v31) (M1 := M30) rfl (km_run (As := [.int (1 : Int32), .int (60 : Int32)]) (rest := []) ⟨hx, hb, hml, hown, hts⟩ (c_X12_takes l dC dI cB cI cJ cZ ra _ M25 (1 : Int32) (60 : Int32) (v31, M30) hq32) (cwV 2 hts gX12_bookLine_X12_takes rfl rfl rfl (by decide +kernel) ⟨Nat.le_of_ble_eq_true rfl, Nat.le_of_ble_eq_true rfl⟩) hK hP (fun _ _ _ _ => mPw_bl) (fun U hU hW => ⟨by rw [hU], by rw [hU]; exact hP, va_K.moved hW.alike hK, hD.weaken (fun _ _ _ _ => trivial)⟩) rfl rfl hl.1 rfl (lv_room (Nat.le_of_ble_eq_true rfl)) dX12_bookLine_101 ⟨Nat.le_refl _, Nat.le_refl _⟩) hD hS hA (fun H locs hP hD hS => ?_)
          refine lv_if_ne (tgt := 109) hx hb dX12_bookLine_104 (by decide) (fun hb35 => ?_) (fun hb35 => ?_)
          · have hf := (if_neg hb35).symm.trans hf
            refine lv_aload_n hx hb dX12_bookLine_109 rfl (lv_at hl 0 rfl) ?_
            refine km_get hx hb hts hin hown hK hP 8 (by decide) (v := .ref (ra 8)) k_fieldLink_RX12_40__KeyLettersModel___read____I_ rfl dX12_bookLine_110 ?_
            refine lv_iload_n hx hb dX12_bookLine_113 rfl (lv_at hl 1 rfl) ?_
            refine lv_iconst (v := 1) hx hb dX12_bookLine_114 (by decide) ?_
            refine lv_iadd hx hb dX12_bookLine_115 ?_
            refine lv_aload_n hx hb dX12_bookLine_116 rfl (lv_at hl 0 rfl) ?_
            refine km_get hx hb hts hin hown hK hP 18 (by decide) (v := .int (M30.1 0 18)) k_fieldLink_RX12_190__KeyLettersModel___got___I_ rfl dX12_bookLine_117 ?_
            obtain ⟨hc33, hf⟩ := ck_e hf
            obtain ⟨M34, eM34, hf⟩ := bd1_e hf
            refine va_iast hx hb hK hP hD hS 4 1 rfl rfl hc33 dX12_bookLine_120 (fun H locs hP hD hS => ?_)
            have hP : va_P (dC, dI) vwCl (mw cB cI cJ cZ ra M34) H := by rw [eM34, ← ma_8 cB cI cJ cZ ra M30 (x1_86 + (1 : Int32)).toNatClampNeg (M30.1 0 18)]; exact hP
            have hD : va_D (mA ra s.heap.size) (mw cB cI cJ cZ ra M34) := by rw [eM34, ← ma_8 cB cI cJ cZ ra M30 (x1_86 + (1 : Int32)).toNatClampNeg (M30.1 0 18)]; exact hD
            refine lv_iconst (v := 1) hx hb dX12_bookLine_121 (by decide) ?_
            have hf := Option.some.inj hf
            subst hf
            exact m_zret hx hb hr rfl hlocks hP hK hD hS dX12_bookLine_122
          · have hf := (if_pos hb35).symm.trans hf
            refine lv_iconst (v := 0) hx hb dX12_bookLine_107 (by decide) ?_
            have hf := Option.some.inj hf
            subst hf
            exact m_zret hx hb hr rfl hlocks hP hK hD hS dX12_bookLine_108
      · have hf := (if_neg hb37).symm.trans hf
        refine lv_iconst (v := 1) hx hb dX12_bookLine_91 (by decide) ?_
        have hf := Option.some.inj hf
        subst hf
        exact m_zret hx hb hr rfl hlocks hP hK hD hS dX12_bookLine_92
    refine lv_aload_n hx hb dX12_bookLine_47 rfl (lv_at hl 0 rfl) ?_
    refine km_get hx hb hts hin hown hK hP 36 (by decide) (v := .int (M_47.1 0 36)) k_fieldLink_RX12_404__KeyLettersModel___toldMany___I_ rfl dX12_bookLine_48 ?_
    refine lv_bipush (v := 40) hx hb dX12_bookLine_51 (by decide) ?_
    refine lv_icmp_ne (tgt := 62) hx hb dX12_bookLine_53 (by decide) (fun hb46 => ?_) (fun hb46 => ?_)
    · have hf := (if_neg hb46).symm.trans hf
      refine lv_aload_n hx hb dX12_bookLine_62 rfl (lv_at hl 0 rfl) ?_
      refine km_get hx hb hts hin hown hK hP 18 (by decide) (v := .int (M_47.1 0 18)) k_fieldLink_RX12_190__KeyLettersModel___got___I_ rfl dX12_bookLine_63 ?_
      obtain ⟨v38, ev38, hf⟩ := bd1_e hf
      refine kt_i ev38 ?_
      refine lv_istore (nL := 7) (lv' := [(4, .int v38), (0, .ref (ra 0)), (1, .int x1_47), (2, .int x2_47), (3, .int x3_47)]) hx hb dX12_bookLine_66 hl (by decide) rfl (fun ls hl => ?_)
      refine lv_aload_n hx hb dX12_bookLine_68 rfl (lv_at hl 1 rfl) ?_
      obtain ⟨M39, hq40, hf⟩ := bo_e hf
      refine km_callwv (M1 := M39) (km_run (As := []) (rest := []) ⟨hx, hb, hml, hown, hts⟩ (c_X12_next l dC dI cB cI cJ cZ ra _ M_47  M39 hq40) (cwV 0 hts gX12_bookLine_X12_next rfl rfl rfl (by decide +kernel) ⟨Nat.le_of_ble_eq_true rfl, Nat.le_of_ble_eq_true rfl⟩) hK hP (fun _ _ _ _ => mPw_bl) (fun U hU hW => ⟨by rw [hU], by rw [hU]; exact hP, va_K.moved hW.alike hK, hD.weaken (fun _ _ _ _ => trivial)⟩) rfl rfl hl.1 rfl (lv_room (Nat.le_of_ble_eq_true rfl)) dX12_bookLine_69 ⟨Nat.le_refl _, Nat.le_refl _⟩) hD hS hA (fun H locs hP hD hS => ?_)
      refine lv_aload_n hx hb dX12_bookLine_72 rfl (lv_at hl 1 rfl) ?_
      refine km_get hx hb hts hin hown hK hP 8 (by decide) (v := .ref (ra 8)) k_fieldLink_RX12_40__KeyLettersModel___read____I_ rfl dX12_bookLine_73 ?_
      refine lv_iload_n hx hb dX12_bookLine_76 rfl (lv_at hl 2 rfl) ?_
      refine lv_iload_n hx hb dX12_bookLine_77 rfl (lv_at hl 3 rfl) ?_
      refine lv_if_eq (tgt := 85) hx hb dX12_bookLine_78 (by decide) (fun hb41 => ?_) (fun hb41 => ?_)
      · have hf := (if_pos hb41).symm.trans hf
        refine lv_iconst (v := 4) hx hb dX12_bookLine_85 (by decide) ?_
        exact h_86 x1_47 x2_47 x3_47 v38 x1_47 (4 : Int32) M39 ls _ _ (lv_sub hl [1, 2, 3, 4, 0] rfl) hP hD hS hf
      · have hf := (if_neg hb41).symm.trans hf
        refine lv_iconst (v := 5) hx hb dX12_bookLine_81 (by decide) ?_
        refine lv_goto (tgt := 86) hx hb dX12_bookLine_82 (by decide) ?_
        exact h_86 x1_47 x2_47 x3_47 v38 x1_47 (5 : Int32) M39 ls _ _ (lv_sub hl [1, 2, 3, 4, 0] rfl) hP hD hS hf
    · have hf := (if_pos hb46).symm.trans hf
      refine lv_aload_n hx hb dX12_bookLine_56 rfl (lv_at hl 0 rfl) ?_
      refine lv_iconst (v := 4) hx hb dX12_bookLine_57 (by decide) ?_
      obtain ⟨v43, M42, hq44, hf⟩ := bo2_e hf
      refine km_callw (v := v43) (M1 := M42) rfl (km_run (As := [.int (4 : Int32)]) (rest := []) ⟨hx, hb, hml, hown, hts⟩ (c_X12_bad l dC dI cB cI cJ cZ ra _ M_47 (4 : Int32) (v43, M42) hq44) (cwV 1 hts gX12_bookLine_X12_bad rfl rfl rfl (by decide +kernel) ⟨Nat.le_of_ble_eq_true rfl, Nat.le_of_ble_eq_true rfl⟩) hK hP (fun _ _ _ _ => mPw_bl) (fun U hU hW => ⟨by rw [hU], by rw [hU]; exact hP, va_K.moved hW.alike hK, hD.weaken (fun _ _ _ _ => trivial)⟩) rfl rfl hl.1 rfl (lv_room (Nat.le_of_ble_eq_true rfl)) dX12_bookLine_58 ⟨Nat.le_refl _, Nat.le_refl _⟩) hD hS hA (fun H locs hP hD hS => ?_)
      obtain ⟨hz45, hf⟩ := ck_e hf
      have hf := Option.some.inj hf
      subst hf
      exact m_zret hx hb hr (kt_z (Decidable.not_not.mp hz45)) hlocks hP hK hD hS dX12_bookLine_61
  refine lv_iconst (v := 3) hx hb dX12_bookLine_0 (by decide) ?_
  refine lv_aload_n hx hb dX12_bookLine_1 rfl (lv_at hl 0 rfl) ?_
  refine km_get hx hb hts hin hown hK hP 36 (by decide) (v := .int (M.1 0 36)) k_fieldLink_RX12_404__KeyLettersModel___toldMany___I_ rfl dX12_bookLine_2 ?_
  refine lv_imul hx hb dX12_bookLine_5 ?_
  obtain ⟨v47, ev47, hf⟩ := bd1_e hf
  refine kt_i ev47 ?_
  refine lv_istore_n (nL := 7) (lv' := [(1, .int v47), (0, .ref (ra 0))]) hx hb dX12_bookLine_6 rfl hl (by decide) rfl (fun ls hl => ?_)
  refine lv_aload_n hx hb dX12_bookLine_7 rfl (lv_at hl 1 rfl) ?_
  refine lv_ldc2 (v := 6578553) hx hb hown k_constantLong_RX12_117_6578553 dX12_bookLine_8 ?_
  refine ko_call (v := some (.int (f_X12_isWord (6578553 : Int64) M))) (km_run (As := [.long (6578553 : Int64)]) (rest := []) ⟨hx, hb, hml, hown, hts⟩ (c_X12_isWord l dC dI cB cI cJ cZ ra M (6578553 : Int64) _ rfl) (cwV 1 hts gX12_bookLine_X12_isWord rfl rfl rfl (by decide +kernel) ⟨Nat.le_of_ble_eq_true rfl, Nat.le_of_ble_eq_true rfl⟩) hK hP (fun _ _ _ _ => mPr_bl) (fun U hU hW => ⟨by rw [hU]; exact hP, va_K.moved hW.alike hK⟩) rfl rfl hl.1 rfl (lv_room (Nat.le_of_ble_eq_true rfl)) dX12_bookLine_11 ⟨Nat.le_refl _, Nat.le_refl _⟩) ?_
  obtain ⟨v48, ev48, hf⟩ := bd1_e hf
  refine kt_i ev48 ?_
  refine lv_istore_n (nL := 7) (lv' := [(2, .int v48), (1, .int v47), (0, .ref (ra 0))]) hx hb dX12_bookLine_14 rfl hl (by decide) rfl (fun ls hl => ?_)
  refine lv_aload_n hx hb dX12_bookLine_15 rfl (lv_at hl 2 rfl) ?_
  refine lv_ldc2 (v := 427020345714) hx hb hown k_constantLong_RX12_115_427020345714 dX12_bookLine_16 ?_
  refine ko_call (v := some (.int (f_X12_isWord (427020345714 : Int64) M))) (km_run (As := [.long (427020345714 : Int64)]) (rest := []) ⟨hx, hb, hml, hown, hts⟩ (c_X12_isWord l dC dI cB cI cJ cZ ra M (427020345714 : Int64) _ rfl) (cwV 1 hts gX12_bookLine_X12_isWord rfl rfl rfl (by decide +kernel) ⟨Nat.le_of_ble_eq_true rfl, Nat.le_of_ble_eq_true rfl⟩) hK hP (fun _ _ _ _ => mPr_bl) (fun U hU hW => ⟨by rw [hU]; exact hP, va_K.moved hW.alike hK⟩) rfl rfl hl.1 rfl (lv_room (Nat.le_of_ble_eq_true rfl)) dX12_bookLine_19 ⟨Nat.le_refl _, Nat.le_refl _⟩) ?_
  obtain ⟨v49, ev49, hf⟩ := bd1_e hf
  refine kt_i ev49 ?_
  refine lv_istore_n (nL := 7) (lv' := [(3, .int v49), (2, .int v48), (1, .int v47), (0, .ref (ra 0))]) hx hb dX12_bookLine_22 rfl hl (by decide) rfl (fun ls hl => ?_)
  refine lv_iload_n hx hb dX12_bookLine_23 rfl (lv_at hl 1 rfl) ?_
  refine lv_if_ne (tgt := 47) hx hb dX12_bookLine_24 (by decide) (fun hb55 => ?_) (fun hb55 => ?_)
  · have hf := (if_neg hb55).symm.trans hf
    exact h_47 v47 v48 v49 M ls _ _ (lv_sub hl [3, 2, 1, 0] rfl) hP hD hS hf
  · have hf := (if_pos hb55).symm.trans hf
    refine lv_iload_n hx hb dX12_bookLine_27 rfl (lv_at hl 0 rfl) ?_
    refine lv_if_ne (tgt := 47) hx hb dX12_bookLine_28 (by decide) (fun hb54 => ?_) (fun hb54 => ?_)
    · have hf := (if_neg hb54).symm.trans hf
      exact h_47 v47 v48 v49 M ls _ _ (lv_sub hl [3, 2, 1, 0] rfl) hP hD hS hf
    · have hf := (if_pos hb54).symm.trans hf
      refine lv_aload_n hx hb dX12_bookLine_31 rfl (lv_at hl 3 rfl) ?_
      refine lv_iconst (v := 0) hx hb dX12_bookLine_32 (by decide) ?_
      refine lv_aload_n hx hb dX12_bookLine_33 rfl (lv_at hl 3 rfl) ?_
      refine km_get hx hb hts hin hown hK hP 6 (by decide) (v := .ref (ra 6)) k_fieldLink_RX12_33__KeyLettersModel___s____I_ rfl dX12_bookLine_34 ?_
      refine lv_iconst (v := 0) hx hb dX12_bookLine_37 (by decide) ?_
      refine va_iald hx hb hK hP 2 1 rfl rfl (show ¬ ((0 : Int32) < 0 ∨ 279 ≤ (0 : Int32).toNatClampNeg) by decide +kernel) dX12_bookLine_38 ?_
      obtain ⟨v51, M50, hq52, hf⟩ := bo2_e hf
      refine km_callw (v := v51) (M1 := M50) rfl (km_run (As := [.int (0 : Int32), .int (M.1 6 (0 : Int32).toNatClampNeg)]) (rest := []) ⟨hx, hb, hml, hown, hts⟩ (c_X12_looksAt l dC dI cB cI cJ cZ ra _ M (0 : Int32) (M.1 6 (0 : Int32).toNatClampNeg) (v51, M50) hq52) (cwV 2 hts gX12_bookLine_X12_looksAt rfl rfl rfl (by decide +kernel) ⟨Nat.le_of_ble_eq_true rfl, Nat.le_of_ble_eq_true rfl⟩) hK hP (fun _ _ _ _ => mPw_bl) (fun U hU hW => ⟨by rw [hU], by rw [hU]; exact hP, va_K.moved hW.alike hK, hD.weaken (fun _ _ _ _ => trivial)⟩) rfl rfl hl.1 rfl (lv_room (Nat.le_of_ble_eq_true rfl)) dX12_bookLine_39 ⟨Nat.le_refl _, Nat.le_refl _⟩) hD hS hA (fun H locs hP hD hS => ?_)
      refine lv_if_ne (tgt := 47) hx hb dX12_bookLine_42 (by decide) (fun hb53 => ?_) (fun hb53 => ?_)
      · have hf := (if_neg hb53).symm.trans hf
        exact h_47 v47 v48 v49 M50 ls _ _ (lv_sub hl [3, 2, 1, 0] rfl) hP hD hS hf
      · have hf := (if_pos hb53).symm.trans hf
        refine lv_iconst (v := 0) hx hb dX12_bookLine_45 (by decide) ?_
        have hf := Option.some.inj hf
        subst hf
        exact m_zret hx hb hr rfl hlocks hP hK hD hS dX12_bookLine_46

abbrev rm_X12_does : Room := { frames := 6, cells := 0, slots := 0, locals := 136 }
set_option maxHeartbeats 4000000 in
set_option maxRecDepth 100000 in
theorem c_X12_does (l : Launch) (dC : Nat → ClassId) (dI : Nat → Nat → Nat) (cB cI cJ cZ : ClassId) (ra : Nat → Nat) (sz : Nat) (M : kD) (a0 : Int32) (a1 : Int32) (a2 : Int32) (r : (Int32 × kD)) (hf : f_X12_does a0 a1 a2 M = some r) : Met l yX12_does wsX12_does rm_X12_does (va_Pc [.ref (ra 0), .int a0, .int a1, .int a2] (mPw dC dI cB cI cJ cZ ra sz M)) (mQi dC dI cB cI cJ cZ ra sz r) 0 0 (mA ra sz) := by
  refine Met.ofW (cc := cX12_does) (maxL := 5) (ret := (some .int)) (by decide) rfl ?_
  intro p e s m args below meth c s₁ B hml hv
  obtain ⟨hav, hsz, hP, hK, hD0⟩ := hv
  have hx := B.exec
  have hb := B.bytes
  have hr := B.returns
  have hts := atoms_spec (ws := wsX12_does) B.pre
  have hown : s.vm.findClass RX12 = some m.cls := findClass_of_methodNamed B.named
  have hlocks := B.notSynchronized
  subst hsz
  have hA : ∀ q, s.heap.size ≤ q → mA ra s.heap.size q := fun q h => Or.inr h
  have hD : va_D (mA ra s.heap.size) (mw cB cI cJ cZ ra M) := hD0.weaken (fun k q h _ => mA_in h)
  have hS : va_S (mA ra s.heap.size) s.heap s.heap [] := va_S.rf
  have hin : ∀ w ∈ wsX120, w ∈ wsX12_does := fun w h => List.mem_cons_of_mem _ (List.mem_append_right _ h)
  have k_fieldLink_RX12_33__KeyLettersModel___s____I_ := hts (.fieldLink RX12 33 "KeyLettersModel" "s" "[I") (by decide +kernel)
  have hl := lv_entry ([.ref (ra 0), .int a0, .int a1, .int a2]) (n := 5) (Nat.le_of_ble_eq_true rfl)
  rw [show entryFrame m args 5 = entryFrame m ([.ref (ra 0), .int a0, .int a1, .int a2] : List Value).toArray 5 from by rw [hav], lg_entry_eq]
  generalize (lg_sl ([.ref (ra 0), .int a0, .int a1, .int a2]) ++ List.replicate (5 - (lg_sl ([.ref (ra 0), .int a0, .int a1, .int a2])).length) Slot.unset).toArray = ls at hl ⊢
  have hl : lv_has ls 5 [(0, .ref (ra 0)), (1, .int a0), (2, .int a1), (3, .int a2)] := hl
  unfold f_X12_does at hf
  have h_192 : ∀ (x1_192 : Int32) (x4_192 : Int32) (M_192 : kD) (ls : Array Slot) (H : Heap) (locs : List Loc), lv_has ls 5 [(1, .int x1_192), (4, .int x4_192)] → va_P (dC, dI) vwCl (mw cB cI cJ cZ ra M_192) H → va_D (mA ra s.heap.size) (mw cB cI cJ cZ ra M_192) → va_S (mA ra s.heap.size) s.heap H locs → g_X12_does_192 x1_192 x4_192 M_192 = some r → W p l e (headSpec wsX12_does rm_X12_does).room s m args below meth c H locs 0 0 (MQ below (mQi dC dI cB cI cJ cZ ra s.heap.size r) args s 0 0 (mA ra s.heap.size)) (F0 m 192 ls []) := by
    intro x1_192 x4_192 M_192 ls H locs hl hP hD hS hf
    unfold g_X12_does_192 at hf
    refine lv_iload hx hb dX12_does_192 (lv_at hl 1 rfl) ?_
    refine lv_if_le (tgt := 207) hx hb dX12_does_194 (by decide) (fun hb1 => ?_) (fun hb1 => ?_)
    · have hf := (if_pos hb1).symm.trans hf
      refine lv_iconst (v := 0) hx hb dX12_does_207 (by decide) ?_
      have hf := Option.some.inj hf
      subst hf
      exact m_iret hx hb hr hlocks hP hK hD hS dX12_does_208
    · have hf := (if_neg hb1).symm.trans hf
      refine lv_bipush (v := 10) hx hb dX12_does_197 (by decide) ?_
      refine lv_iload_n hx hb dX12_does_199 rfl (lv_at hl 0 rfl) ?_
      refine lv_imul hx hb dX12_does_200 ?_
      refine lv_iload hx hb dX12_does_201 (lv_at hl 1 rfl) ?_
      refine lv_iadd hx hb dX12_does_203 ?_
      refine lv_goto (tgt := 208) hx hb dX12_does_204 (by decide) ?_
      have hf := Option.some.inj hf
      subst hf
      exact m_iret hx hb hr hlocks hP hK hD hS dX12_does_208
  have h_62 : ∀ (x1_62 : Int32) (x2_62 : Int32) (M_62 : kD) (ls : Array Slot) (H : Heap) (locs : List Loc), lv_has ls 5 [(0, .ref (ra 0)), (1, .int x1_62), (2, .int x2_62)] → va_P (dC, dI) vwCl (mw cB cI cJ cZ ra M_62) H → va_D (mA ra s.heap.size) (mw cB cI cJ cZ ra M_62) → va_S (mA ra s.heap.size) s.heap H locs → g_X12_does_62 x1_62 x2_62 M_62 = some r → W p l e (headSpec wsX12_does rm_X12_does).room s m args below meth c H locs 0 0 (MQ below (mQi dC dI cB cI cJ cZ ra s.heap.size r) args s 0 0 (mA ra s.heap.size)) (F0 m 62 ls []) := by
    intro x1_62 x2_62 M_62 ls H locs hl hP hD hS hf
    unfold g_X12_does_62 at hf
    have h_77 : ∀ (x1_77 : Int32) (x2_77 : Int32) (t0_77 : Int32) (t1_77 : Int32) (M_77 : kD) (ls : Array Slot) (H : Heap) (locs : List Loc), lv_has ls 5 [(0, .ref (ra 0)), (1, .int x1_77), (2, .int x2_77)] → va_P (dC, dI) vwCl (mw cB cI cJ cZ ra M_77) H → va_D (mA ra s.heap.size) (mw cB cI cJ cZ ra M_77) → va_S (mA ra s.heap.size) s.heap H locs → g_X12_does_77 x1_77 x2_77 t0_77 t1_77 M_77 = some r → W p l e (headSpec wsX12_does rm_X12_does).room s m args below meth c H locs 0 0 (MQ below (mQi dC dI cB cI cJ cZ ra s.heap.size r) args s 0 0 (mA ra s.heap.size)) (F0 m 77 ls [.int t1_77, .int t0_77]) := by
      intro x1_77 x2_77 t0_77 t1_77 M_77 ls H locs hl hP hD hS hf
      unfold g_X12_does_77 at hf
      have h_85 : ∀ (x1_85 : Int32) (x2_85 : Int32) (t0_85 : Int32) (M_85 : kD) (ls : Array Slot) (H : Heap) (locs : List Loc), lv_has ls 5 [(0, .ref (ra 0)), (1, .int x1_85), (2, .int x2_85)] → va_P (dC, dI) vwCl (mw cB cI cJ cZ ra M_85) H → va_D (mA ra s.heap.size) (mw cB cI cJ cZ ra M_85) → va_S (mA ra s.heap.size) s.heap H locs → g_X12_does_85 x1_85 x2_85 t0_85 M_85 = some r → W p l e (headSpec wsX12_does rm_X12_does).room s m args below meth c H locs 0 0 (MQ below (mQi dC dI cB cI cJ cZ ra s.heap.size r) args s 0 0 (mA ra s.heap.size)) (F0 m 85 ls [.int t0_85]) := by
        intro x1_85 x2_85 t0_85 M_85 ls H locs hl hP hD hS hf
        unfold g_X12_does_85 at hf
        refine lv_istore (nL := 5) (lv' := [(4, .int t0_85), (0, .ref (ra 0)), (1, .int x1_85), (2, .int x2_85)]) hx hb dX12_does_85 hl (by decide) rfl (fun ls hl => ?_)
        refine lv_iload hx hb dX12_does_87 (lv_at hl 0 rfl) ?_
        refine lv_if_ne (tgt := 192) hx hb dX12_does_89 (by decide) (fun hb3 => ?_) (fun hb3 => ?_)
        · have hf := (if_neg hb3).symm.trans hf
          exact h_192 x1_85 t0_85 M_85 ls _ _ (lv_sub hl [2, 0] rfl) hP hD hS hf
        · have hf := (if_pos hb3).symm.trans hf
          refine lv_aload_n hx hb dX12_does_92 rfl (lv_at hl 1 rfl) ?_
          refine km_get hx hb hts hin hown hK hP 6 (by decide) (v := .ref (ra 6)) k_fieldLink_RX12_33__KeyLettersModel___s____I_ rfl dX12_does_93 ?_
          refine lv_bipush (v := 42) hx hb dX12_does_96 (by decide) ?_
          refine lv_dup2_11 hx hb dX12_does_98 rfl rfl ?_
          refine va_iald hx hb hK hP 2 1 rfl rfl (show ¬ ((42 : Int32) < 0 ∨ 279 ≤ (42 : Int32).toNatClampNeg) by decide +kernel) dX12_does_99 ?_
          refine lv_iconst (v := 1) hx hb dX12_does_100 (by decide) ?_
          refine lv_iload_n hx hb dX12_does_101 rfl (lv_at hl 3 rfl) ?_
          refine lv_ishl hx hb dX12_does_102 ?_
          refine lv_ixor hx hb dX12_does_103 ?_
          obtain ⟨M2, eM2, hf⟩ := bd1_e hf
          refine va_iast hx hb hK hP hD hS 2 1 rfl rfl (show ¬ ((42 : Int32) < 0 ∨ 279 ≤ (42 : Int32).toNatClampNeg) by decide +kernel) dX12_does_104 (fun H locs hP hD hS => ?_)
          have hP : va_P (dC, dI) vwCl (mw cB cI cJ cZ ra M2) H := by rw [eM2, ← ma_6 cB cI cJ cZ ra M_85 (42 : Int32).toNatClampNeg ((M_85.1 6 (42 : Int32).toNatClampNeg) ^^^ ((1 : Int32) <<< (x2_85 &&& 31)))]; exact hP
          have hD : va_D (mA ra s.heap.size) (mw cB cI cJ cZ ra M2) := by rw [eM2, ← ma_6 cB cI cJ cZ ra M_85 (42 : Int32).toNatClampNeg ((M_85.1 6 (42 : Int32).toNatClampNeg) ^^^ ((1 : Int32) <<< (x2_85 &&& 31)))]; exact hD
          refine lv_goto (tgt := 192) hx hb dX12_does_105 (by decide) ?_
          exact h_192 x1_85 t0_85 M2 ls _ _ (lv_sub hl [2, 0] rfl) hP hD hS hf
      refine lv_icmp_ne (tgt := 84) hx hb dX12_does_77 (by decide) (fun hb4 => ?_) (fun hb4 => ?_)
      · have hf := (if_neg hb4).symm.trans hf
        refine lv_iconst (v := 0) hx hb dX12_does_84 (by decide) ?_
        exact h_85 x1_77 x2_77 (0 : Int32) M_77 ls _ _ hl hP hD hS hf
      · have hf := (if_pos hb4).symm.trans hf
        refine lv_iconst (v := 1) hx hb dX12_does_80 (by decide) ?_
        refine lv_goto (tgt := 85) hx hb dX12_does_81 (by decide) ?_
        exact h_85 x1_77 x2_77 (1 : Int32) M_77 ls _ _ hl hP hD hS hf
    refine lv_aload_n hx hb dX12_does_62 rfl (lv_at hl 0 rfl) ?_
    refine lv_iload_n hx hb dX12_does_63 rfl (lv_at hl 2 rfl) ?_
    obtain ⟨v5, hq6, hf⟩ := bo_e hf
    refine ko_call (v := some (.int v5)) (km_run (As := [.int x2_62]) (rest := []) ⟨hx, hb, hml, hown, hts⟩ (c_X12_isHeld l dC dI cB cI cJ cZ ra M_62 x2_62 v5 hq6) (cwV 1 hts gX12_does_X12_isHeld rfl rfl rfl (by decide +kernel) ⟨Nat.le_of_ble_eq_true rfl, Nat.le_of_ble_eq_true rfl⟩) hK hP (fun _ _ _ _ => mPr_bl) (fun U hU hW => ⟨by rw [hU]; exact hP, va_K.moved hW.alike hK⟩) rfl rfl hl.1 rfl (lv_room (Nat.le_of_ble_eq_true rfl)) dX12_does_64 ⟨Nat.le_refl _, Nat.le_refl _⟩) ?_
    refine lv_iload_n hx hb dX12_does_67 rfl (lv_at hl 1 rfl) ?_
    refine lv_iconst (v := 1) hx hb dX12_does_68 (by decide) ?_
    refine lv_icmp_ne (tgt := 76) hx hb dX12_does_69 (by decide) (fun hb7 => ?_) (fun hb7 => ?_)
    · have hf := (if_neg hb7).symm.trans hf
      refine lv_iconst (v := 0) hx hb dX12_does_76 (by decide) ?_
      exact h_77 x1_62 x2_62 v5 (0 : Int32) M_62 ls _ _ hl hP hD hS hf
    · have hf := (if_pos hb7).symm.trans hf
      refine lv_iconst (v := 1) hx hb dX12_does_72 (by decide) ?_
      refine lv_goto (tgt := 77) hx hb dX12_does_73 (by decide) ?_
      exact h_77 x1_62 x2_62 v5 (1 : Int32) M_62 ls _ _ hl hP hD hS hf
  have h_126 : ∀ (x1_126 : Int32) (x2_126 : Int32) (x3_126 : Int32) (t0_126 : Int32) (M_126 : kD) (ls : Array Slot) (H : Heap) (locs : List Loc), lv_has ls 5 [(0, .ref (ra 0)), (1, .int x1_126), (2, .int x2_126), (3, .int x3_126)] → va_P (dC, dI) vwCl (mw cB cI cJ cZ ra M_126) H → va_D (mA ra s.heap.size) (mw cB cI cJ cZ ra M_126) → va_S (mA ra s.heap.size) s.heap H locs → g_X12_does_126 x1_126 x2_126 x3_126 t0_126 M_126 = some r → W p l e (headSpec wsX12_does rm_X12_does).room s m args below meth c H locs 0 0 (MQ below (mQi dC dI cB cI cJ cZ ra s.heap.size r) args s 0 0 (mA ra s.heap.size)) (F0 m 126 ls [.int t0_126]) := by
    intro x1_126 x2_126 x3_126 t0_126 M_126 ls H locs hl hP hD hS hf
    unfold g_X12_does_126 at hf
    refine lv_istore (nL := 5) (lv' := [(4, .int t0_126), (0, .ref (ra 0)), (1, .int x1_126), (2, .int x2_126), (3, .int x3_126)]) hx hb dX12_does_126 hl (by decide) rfl (fun ls hl => ?_)
    refine lv_iload hx hb dX12_does_128 (lv_at hl 0 rfl) ?_
    refine lv_if_ne (tgt := 192) hx hb dX12_does_130 (by decide) (fun hb10 => ?_) (fun hb10 => ?_)
    · have hf := (if_neg hb10).symm.trans hf
      exact h_192 x1_126 t0_126 M_126 ls _ _ (lv_sub hl [2, 0] rfl) hP hD hS hf
    · have hf := (if_pos hb10).symm.trans hf
      refine lv_aload_n hx hb dX12_does_133 rfl (lv_at hl 1 rfl) ?_
      refine km_get hx hb hts hin hown hK hP 6 (by decide) (v := .ref (ra 6)) k_fieldLink_RX12_33__KeyLettersModel___s____I_ rfl dX12_does_134 ?_
      refine lv_bipush (v := 44) hx hb dX12_does_137 (by decide) ?_
      refine lv_iload_n hx hb dX12_does_139 rfl (lv_at hl 3 rfl) ?_
      refine lv_iadd hx hb dX12_does_140 ?_
      refine lv_iload_n hx hb dX12_does_141 rfl (lv_at hl 4 rfl) ?_
      obtain ⟨hc8, hf⟩ := ck_e hf
      obtain ⟨M9, eM9, hf⟩ := bd1_e hf
      refine va_iast hx hb hK hP hD hS 2 1 rfl rfl hc8 dX12_does_142 (fun H locs hP hD hS => ?_)
      have hP : va_P (dC, dI) vwCl (mw cB cI cJ cZ ra M9) H := by rw [eM9, ← ma_6 cB cI cJ cZ ra M_126 ((44 : Int32) + x2_126).toNatClampNeg x3_126]; exact hP
      have hD : va_D (mA ra s.heap.size) (mw cB cI cJ cZ ra M9) := by rw [eM9, ← ma_6 cB cI cJ cZ ra M_126 ((44 : Int32) + x2_126).toNatClampNeg x3_126]; exact hD
      refine lv_goto (tgt := 192) hx hb dX12_does_143 (by decide) ?_
      exact h_192 x1_126 t0_126 M9 ls _ _ (lv_sub hl [2, 0] rfl) hP hD hS hf
  have h_179 : ∀ (x1_179 : Int32) (x2_179 : Int32) (t0_179 : Int32) (M_179 : kD) (ls : Array Slot) (H : Heap) (locs : List Loc), lv_has ls 5 [(0, .ref (ra 0)), (1, .int x1_179), (2, .int x2_179)] → va_P (dC, dI) vwCl (mw cB cI cJ cZ ra M_179) H → va_D (mA ra s.heap.size) (mw cB cI cJ cZ ra M_179) → va_S (mA ra s.heap.size) s.heap H locs → g_X12_does_179 x1_179 x2_179 t0_179 M_179 = some r → W p l e (headSpec wsX12_does rm_X12_does).room s m args below meth c H locs 0 0 (MQ below (mQi dC dI cB cI cJ cZ ra s.heap.size r) args s 0 0 (mA ra s.heap.size)) (F0 m 179 ls [.int t0_179]) := by
    intro x1_179 x2_179 t0_179 M_179 ls H locs hl hP hD hS hf
    unfold g_X12_does_179 at hf
    refine lv_istore (nL := 5) (lv' := [(4, .int t0_179), (0, .ref (ra 0)), (1, .int x1_179), (2, .int x2_179)]) hx hb dX12_does_179 hl (by decide) rfl (fun ls hl => ?_)
    refine lv_iload hx hb dX12_does_181 (lv_at hl 0 rfl) ?_
    refine lv_if_ne (tgt := 192) hx hb dX12_does_183 (by decide) (fun hb14 => ?_) (fun hb14 => ?_)
    · have hf := (if_neg hb14).symm.trans hf
      exact h_192 x1_179 t0_179 M_179 ls _ _ (lv_sub hl [2, 0] rfl) hP hD hS hf
    · have hf := (if_pos hb14).symm.trans hf
      refine lv_aload_n hx hb dX12_does_186 rfl (lv_at hl 1 rfl) ?_
      refine lv_iload_n hx hb dX12_does_187 rfl (lv_at hl 3 rfl) ?_
      obtain ⟨v12, M11, hq13, hf⟩ := bo2_e hf
      refine km_callw (v := v12) (M1 := M11) rfl (km_run (As := [.int x2_179]) (rest := []) ⟨hx, hb, hml, hown, hts⟩ (c_X12_goesOn l dC dI cB cI cJ cZ ra _ M_179 x2_179 (v12, M11) hq13) (cwV 1 hts gX12_does_X12_goesOn rfl rfl rfl (by decide +kernel) ⟨Nat.le_of_ble_eq_true rfl, Nat.le_of_ble_eq_true rfl⟩) hK hP (fun _ _ _ _ => mPw_bl) (fun U hU hW => ⟨by rw [hU], by rw [hU]; exact hP, va_K.moved hW.alike hK, hD.weaken (fun _ _ _ _ => trivial)⟩) rfl rfl hl.1 rfl (lv_room (Nat.le_of_ble_eq_true rfl)) dX12_does_188 ⟨Nat.le_refl _, Nat.le_refl _⟩) hD hS hA (fun H locs hP hD hS => ?_)
      refine lv_pop hx hb dX12_does_191 rfl ?_
      exact h_192 x1_179 t0_179 M11 ls _ _ (lv_sub hl [2, 0] rfl) hP hD hS hf
  refine lv_iconst (v := 0) hx hb dX12_does_0 (by decide) ?_
  refine lv_istore (nL := 5) (lv' := [(4, .int (0 : Int32)), (0, .ref (ra 0)), (1, .int a0), (2, .int a1), (3, .int a2)]) hx hb dX12_does_1 hl (by decide) rfl (fun ls hl => ?_)
  refine lv_iload_n hx hb dX12_does_3 rfl (lv_at hl 2 rfl) ?_
  by_cases hs20 : a0 = 0
  · have hf := (if_pos hs20).symm.trans hf
    refine lv_tableIn (off := 36) (tgt := 40) hx hb dX12_does_4 (by rw [hs20]; decide) (by rw [hs20]; decide) (by rw [hs20]; decide +kernel) (by decide) ?_
    refine lv_aload_n hx hb dX12_does_40 rfl (lv_at hl 1 rfl) ?_
    refine lv_iload_n hx hb dX12_does_41 rfl (lv_at hl 3 rfl) ?_
    refine lv_iload_n hx hb dX12_does_42 rfl (lv_at hl 4 rfl) ?_
    obtain ⟨v15, hq16, hf⟩ := bo_e hf
    refine ko_call (v := some (.int v15)) (km_run (As := [.int a1, .int a2]) (rest := []) ⟨hx, hb, hml, hown, hts⟩ (c_X12_whyWrite l dC dI cB cI cJ cZ ra M a1 a2 v15 hq16) (cwV 2 hts gX12_does_X12_whyWrite rfl rfl rfl (by decide +kernel) ⟨Nat.le_of_ble_eq_true rfl, Nat.le_of_ble_eq_true rfl⟩) hK hP (fun _ _ _ _ => mPr_bl) (fun U hU hW => ⟨by rw [hU]; exact hP, va_K.moved hW.alike hK⟩) rfl rfl hl.1 rfl (lv_room (Nat.le_of_ble_eq_true rfl)) dX12_does_43 ⟨Nat.le_refl _, Nat.le_refl _⟩) ?_
    refine lv_istore (nL := 5) (lv' := [(4, .int v15), (0, .ref (ra 0)), (1, .int a0), (2, .int a1), (3, .int a2)]) hx hb dX12_does_46 hl (by decide) rfl (fun ls hl => ?_)
    refine lv_iload hx hb dX12_does_48 (lv_at hl 0 rfl) ?_
    refine lv_if_ne (tgt := 192) hx hb dX12_does_50 (by decide) (fun hb19 => ?_) (fun hb19 => ?_)
    · have hf := (if_neg hb19).symm.trans hf
      exact h_192 a0 v15 M ls _ _ (lv_sub hl [2, 0] rfl) hP hD hS hf
    · have hf := (if_pos hb19).symm.trans hf
      refine lv_aload_n hx hb dX12_does_53 rfl (lv_at hl 1 rfl) ?_
      refine lv_iload_n hx hb dX12_does_54 rfl (lv_at hl 3 rfl) ?_
      refine lv_iload_n hx hb dX12_does_55 rfl (lv_at hl 4 rfl) ?_
      obtain ⟨M17, hq18, hf⟩ := bo_e hf
      refine km_callwv (M1 := M17) (km_run (As := [.int a1, .int a2]) (rest := []) ⟨hx, hb, hml, hown, hts⟩ (c_X12_types l dC dI cB cI cJ cZ ra _ M a1 a2 M17 hq18) (cwV 2 hts gX12_does_X12_types rfl rfl rfl (by decide +kernel) ⟨Nat.le_of_ble_eq_true rfl, Nat.le_of_ble_eq_true rfl⟩) hK hP (fun _ _ _ _ => mPw_bl) (fun U hU hW => ⟨by rw [hU], by rw [hU]; exact hP, va_K.moved hW.alike hK, hD.weaken (fun _ _ _ _ => trivial)⟩) rfl rfl hl.1 rfl (lv_room (Nat.le_of_ble_eq_true rfl)) dX12_does_56 ⟨Nat.le_refl _, Nat.le_refl _⟩) hD hS hA (fun H locs hP hD hS => ?_)
      refine lv_goto (tgt := 192) hx hb dX12_does_59 (by decide) ?_
      exact h_192 a0 v15 M17 ls _ _ (lv_sub hl [2, 0] rfl) hP hD hS hf
  have hf := (if_neg hs20).symm.trans hf
  by_cases hs21 : a0 = 1
  · have hf := (if_pos hs21).symm.trans hf
    refine lv_tableIn (off := 58) (tgt := 62) hx hb dX12_does_4 (by rw [hs21]; decide) (by rw [hs21]; decide) (by rw [hs21]; decide +kernel) (by decide) ?_
    exact h_62 a0 a1 M ls _ _ (lv_sub hl [1, 2, 3] rfl) hP hD hS hf
  have hf := (if_neg hs21).symm.trans hf
  by_cases hs22 : a0 = 2
  · have hf := (if_pos hs22).symm.trans hf
    refine lv_tableIn (off := 58) (tgt := 62) hx hb dX12_does_4 (by rw [hs22]; decide) (by rw [hs22]; decide) (by rw [hs22]; decide +kernel) (by decide) ?_
    exact h_62 a0 a1 M ls _ _ (lv_sub hl [1, 2, 3] rfl) hP hD hS hf
  have hf := (if_neg hs22).symm.trans hf
  by_cases hs26 : a0 = 3
  · have hf := (if_pos hs26).symm.trans hf
    refine lv_tableIn (off := 104) (tgt := 108) hx hb dX12_does_4 (by rw [hs26]; decide) (by rw [hs26]; decide) (by rw [hs26]; decide +kernel) (by decide) ?_
    refine lv_aload_n hx hb dX12_does_108 rfl (lv_at hl 1 rfl) ?_
    refine km_get hx hb hts hin hown hK hP 6 (by decide) (v := .ref (ra 6)) k_fieldLink_RX12_33__KeyLettersModel___s____I_ rfl dX12_does_109 ?_
    refine lv_bipush (v := 44) hx hb dX12_does_112 (by decide) ?_
    refine lv_iload_n hx hb dX12_does_114 rfl (lv_at hl 3 rfl) ?_
    refine lv_iadd hx hb dX12_does_115 ?_
    obtain ⟨v23, ev23, hf⟩ := bd1_e hf
    refine kt_i ev23 ?_
    obtain ⟨hc24, hf⟩ := ck_e hf
    refine va_iald hx hb hK hP 2 1 rfl rfl hc24 dX12_does_116 ?_
    refine lv_iload_n hx hb dX12_does_117 rfl (lv_at hl 4 rfl) ?_
    refine lv_icmp_lt (tgt := 125) hx hb dX12_does_118 (by decide) (fun hb25 => ?_) (fun hb25 => ?_)
    · have hf := (if_pos hb25).symm.trans hf
      refine lv_iconst (v := 0) hx hb dX12_does_125 (by decide) ?_
      exact h_126 a0 a1 a2 (0 : Int32) M ls _ _ (lv_sub hl [1, 2, 3, 4] rfl) hP hD hS hf
    · have hf := (if_neg hb25).symm.trans hf
      refine lv_iconst (v := 1) hx hb dX12_does_121 (by decide) ?_
      refine lv_goto (tgt := 126) hx hb dX12_does_122 (by decide) ?_
      exact h_126 a0 a1 a2 (1 : Int32) M ls _ _ (lv_sub hl [1, 2, 3, 4] rfl) hP hD hS hf
  have hf := (if_neg hs26).symm.trans hf
  by_cases hs31 : a0 = 4
  · have hf := (if_pos hs31).symm.trans hf
    refine lv_tableIn (off := 142) (tgt := 146) hx hb dX12_does_4 (by rw [hs31]; decide) (by rw [hs31]; decide) (by rw [hs31]; decide +kernel) (by decide) ?_
    refine lv_aload_n hx hb dX12_does_146 rfl (lv_at hl 1 rfl) ?_
    obtain ⟨v27, hq28, hf⟩ := bo_e hf
    refine ko_call (v := some (.int v27)) (km_run (As := []) (rest := []) ⟨hx, hb, hml, hown, hts⟩ (c_X12_whyClear l dC dI cB cI cJ cZ ra M  v27 hq28) (cwV 0 hts gX12_does_X12_whyClear rfl rfl rfl (by decide +kernel) ⟨Nat.le_of_ble_eq_true rfl, Nat.le_of_ble_eq_true rfl⟩) hK hP (fun _ _ _ _ => mPr_bl) (fun U hU hW => ⟨by rw [hU]; exact hP, va_K.moved hW.alike hK⟩) rfl rfl hl.1 rfl (lv_room (Nat.le_of_ble_eq_true rfl)) dX12_does_147 ⟨Nat.le_refl _, Nat.le_refl _⟩) ?_
    refine lv_istore (nL := 5) (lv' := [(4, .int v27), (0, .ref (ra 0)), (1, .int a0), (2, .int a1), (3, .int a2)]) hx hb dX12_does_150 hl (by decide) rfl (fun ls hl => ?_)
    refine lv_aload_n hx hb dX12_does_152 rfl (lv_at hl 1 rfl) ?_
    obtain ⟨M29, hq30, hf⟩ := bo_e hf
    refine km_callwv (M1 := M29) (km_run (As := []) (rest := []) ⟨hx, hb, hml, hown, hts⟩ (c_X12_evens l dC dI cB cI cJ cZ ra _ M  M29 hq30) (cwV 0 hts gX12_does_X12_evens rfl rfl rfl (by decide +kernel) ⟨Nat.le_of_ble_eq_true rfl, Nat.le_of_ble_eq_true rfl⟩) hK hP (fun _ _ _ _ => mPw_bl) (fun U hU hW => ⟨by rw [hU], by rw [hU]; exact hP, va_K.moved hW.alike hK, hD.weaken (fun _ _ _ _ => trivial)⟩) rfl rfl hl.1 rfl (lv_room (Nat.le_of_ble_eq_true rfl)) dX12_does_153 ⟨Nat.le_refl _, Nat.le_refl _⟩) hD hS hA (fun H locs hP hD hS => ?_)
    refine lv_goto (tgt := 192) hx hb dX12_does_156 (by decide) ?_
    exact h_192 a0 v27 M29 ls _ _ (lv_sub hl [2, 0] rfl) hP hD hS hf
  have hf := (if_neg hs31).symm.trans hf
  have hsw : a0.toInt < 0 ∨ 4 < a0.toInt := by
    have qhs20 : a0.toInt ≠ 0 := fun q => hs20 (Int32.toInt_inj.mp (q.trans (by decide)))
    have qhs21 : a0.toInt ≠ 1 := fun q => hs21 (Int32.toInt_inj.mp (q.trans (by decide)))
    have qhs22 : a0.toInt ≠ 2 := fun q => hs22 (Int32.toInt_inj.mp (q.trans (by decide)))
    have qhs26 : a0.toInt ≠ 3 := fun q => hs26 (Int32.toInt_inj.mp (q.trans (by decide)))
    have qhs31 : a0.toInt ≠ 4 := fun q => hs31 (Int32.toInt_inj.mp (q.trans (by decide)))
    omega
  refine lv_tableOut (tgt := 159) hx hb dX12_does_4 hsw (by decide) ?_
  refine lv_aload_n hx hb dX12_does_159 rfl (lv_at hl 1 rfl) ?_
  refine km_get hx hb hts hin hown hK hP 6 (by decide) (v := .ref (ra 6)) k_fieldLink_RX12_33__KeyLettersModel___s____I_ rfl dX12_does_160 ?_
  refine lv_bipush (v := 39) hx hb dX12_does_163 (by decide) ?_
  refine va_iald hx hb hK hP 2 1 rfl rfl (show ¬ ((39 : Int32) < 0 ∨ 279 ≤ (39 : Int32).toNatClampNeg) by decide +kernel) dX12_does_165 ?_
  refine lv_iload_n hx hb dX12_does_166 rfl (lv_at hl 3 rfl) ?_
  refine lv_iadd hx hb dX12_does_167 ?_
  refine lv_sipush (v := 400) hx hb dX12_does_168 (by decide) ?_
  refine lv_icmp_le (tgt := 178) hx hb dX12_does_171 (by decide) (fun hb32 => ?_) (fun hb32 => ?_)
  · have hf := (if_pos hb32).symm.trans hf
    refine lv_iconst (v := 0) hx hb dX12_does_178 (by decide) ?_
    exact h_179 a0 a1 (0 : Int32) M ls _ _ (lv_sub hl [1, 2, 3] rfl) hP hD hS hf
  · have hf := (if_neg hb32).symm.trans hf
    refine lv_iconst (v := 1) hx hb dX12_does_174 (by decide) ?_
    refine lv_goto (tgt := 179) hx hb dX12_does_175 (by decide) ?_
    exact h_179 a0 a1 (1 : Int32) M ls _ _ (lv_sub hl [1, 2, 3] rfl) hP hD hS hf

abbrev rm_X12_book : Room := { frames := 7, cells := 0, slots := 0, locals := 160 }
set_option maxHeartbeats 4000000 in
set_option maxRecDepth 100000 in
theorem c_X12_book (l : Launch) (dC : Nat → ClassId) (dI : Nat → Nat → Nat) (cB cI cJ cZ : ClassId) (ra : Nat → Nat) (sz : Nat) (M : kD) (a0 : Int32) (r : (Int32 × kD)) (hf : f_X12_book a0 M = some r) : Met l yX12_book wsX12_book rm_X12_book (va_Pc [.ref (ra 0), .int a0] (mPw dC dI cB cI cJ cZ ra sz M)) (mQi dC dI cB cI cJ cZ ra sz r) 0 0 (mA ra sz) := by
  refine Met.ofW (cc := cX12_book) (maxL := 4) (ret := (some .int)) (by decide) rfl ?_
  intro p e s m args below meth c s₁ B hml hv
  obtain ⟨hav, hsz, hP, hK, hD0⟩ := hv
  have hx := B.exec
  have hb := B.bytes
  have hr := B.returns
  have hts := atoms_spec (ws := wsX12_book) B.pre
  have hown : s.vm.findClass RX12 = some m.cls := findClass_of_methodNamed B.named
  have hlocks := B.notSynchronized
  subst hsz
  have hA : ∀ q, s.heap.size ≤ q → mA ra s.heap.size q := fun q h => Or.inr h
  have hD : va_D (mA ra s.heap.size) (mw cB cI cJ cZ ra M) := hD0.weaken (fun k q h _ => mA_in h)
  have hS : va_S (mA ra s.heap.size) s.heap s.heap [] := va_S.rf
  have hin : ∀ w ∈ wsX120, w ∈ wsX12_book := fun w h => List.mem_cons_of_mem _ (List.mem_append_right _ h)
  have k_fieldLink_RX12_154__KeyLettersModel___token___I_ := hts (.fieldLink RX12 154 "KeyLettersModel" "token" "I") (by decide +kernel)
  have k_fieldLink_RX12_171__KeyLettersModel___fault___I_ := hts (.fieldLink RX12 171 "KeyLettersModel" "fault" "I") (by decide +kernel)
  have k_fieldLink_RX12_174__KeyLettersModel___faultAt___I_ := hts (.fieldLink RX12 174 "KeyLettersModel" "faultAt" "I") (by decide +kernel)
  have k_fieldLink_RX12_1__KeyLettersModel___thrown___I_ := hts (.fieldLink RX12 1 "KeyLettersModel" "thrown" "I") (by decide +kernel)
  have k_fieldLink_RX12_248__KeyLettersModel___undoMany___I_ := hts (.fieldLink RX12 248 "KeyLettersModel" "undoMany" "I") (by decide +kernel)
  have k_fieldLink_RX12_33__KeyLettersModel___s____I_ := hts (.fieldLink RX12 33 "KeyLettersModel" "s" "[I") (by decide +kernel)
  have k_fieldLink_RX12_404__KeyLettersModel___toldMany___I_ := hts (.fieldLink RX12 404 "KeyLettersModel" "toldMany" "I") (by decide +kernel)
  have k_fieldLink_RX12_40__KeyLettersModel___read____I_ := hts (.fieldLink RX12 40 "KeyLettersModel" "read" "[I") (by decide +kernel)
  have k_fieldLink_RX12_413__KeyLettersModel___hasTold___Z_ := hts (.fieldLink RX12 413 "KeyLettersModel" "hasTold" "Z") (by decide +kernel)
  have k_fieldLink_RX12_50__KeyLettersModel___undone____I_ := hts (.fieldLink RX12 50 "KeyLettersModel" "undone" "[I") (by decide +kernel)
  have k_fieldLink_RX12_53__KeyLettersModel___before____I_ := hts (.fieldLink RX12 53 "KeyLettersModel" "before" "[I") (by decide +kernel)
  have k_fieldLink_RX12_80__KeyLettersModel___toldAt____I_ := hts (.fieldLink RX12 80 "KeyLettersModel" "toldAt" "[I") (by decide +kernel)
  have hl := lv_entry ([.ref (ra 0), .int a0]) (n := 4) (Nat.le_of_ble_eq_true rfl)
  rw [show entryFrame m args 4 = entryFrame m ([.ref (ra 0), .int a0] : List Value).toArray 4 from by rw [hav], lg_entry_eq]
  generalize (lg_sl ([.ref (ra 0), .int a0]) ++ List.replicate (4 - (lg_sl ([.ref (ra 0), .int a0])).length) Slot.unset).toArray = ls at hl ⊢
  have hl : lv_has ls 4 [(0, .ref (ra 0)), (1, .int a0)] := hl
  unfold f_X12_book at hf
  have h_83 : ∀ (x1_83 : Int32) (M_83 : kD) (ls : Array Slot) (H : Heap) (locs : List Loc), lv_has ls 4 [(0, .ref (ra 0)), (1, .int x1_83)] → va_P (dC, dI) vwCl (mw cB cI cJ cZ ra M_83) H → va_D (mA ra s.heap.size) (mw cB cI cJ cZ ra M_83) → va_S (mA ra s.heap.size) s.heap H locs → g_X12_book_83 x1_83 M_83 = some r → W p l e (headSpec wsX12_book rm_X12_book).room s m args below meth c H locs 0 0 (MQ below (mQi dC dI cB cI cJ cZ ra s.heap.size r) args s 0 0 (mA ra s.heap.size)) (F0 m 83 ls []) := by
    intro x1_83 M_83 ls H locs hl hP hD hS hf
    unfold g_X12_book_83 at hf
    have h_107 : ∀ (x1_107 : Int32) (M_107 : kD) (ls : Array Slot) (H : Heap) (locs : List Loc), lv_has ls 4 [(0, .ref (ra 0)), (1, .int x1_107)] → va_P (dC, dI) vwCl (mw cB cI cJ cZ ra M_107) H → va_D (mA ra s.heap.size) (mw cB cI cJ cZ ra M_107) → va_S (mA ra s.heap.size) s.heap H locs → g_X12_book_107 x1_107 M_107 = some r → W p l e (headSpec wsX12_book rm_X12_book).room s m args below meth c H locs 0 0 (MQ below (mQi dC dI cB cI cJ cZ ra s.heap.size r) args s 0 0 (mA ra s.heap.size)) (F0 m 107 ls []) := by
      intro x1_107 M_107 ls H locs hl hP hD hS hf
      unfold g_X12_book_107 at hf
      have h_191 : ∀ (x1_191 : Int32) (x2_191 : Int32) (M_191 : kD) (ls : Array Slot) (H : Heap) (locs : List Loc), lv_has ls 4 [(0, .ref (ra 0)), (1, .int x1_191), (2, .int x2_191)] → va_P (dC, dI) vwCl (mw cB cI cJ cZ ra M_191) H → va_D (mA ra s.heap.size) (mw cB cI cJ cZ ra M_191) → va_S (mA ra s.heap.size) s.heap H locs → g_X12_book_191 x1_191 x2_191 M_191 = some r → W p l e (headSpec wsX12_book rm_X12_book).room s m args below meth c H locs 0 0 (MQ below (mQi dC dI cB cI cJ cZ ra s.heap.size r) args s 0 0 (mA ra s.heap.size)) (F0 m 191 ls []) := by
        intro x1_191 x2_191 M_191 ls H locs hl hP hD hS hf
        unfold g_X12_book_191 at hf
        have h_275 : ∀ (x1_275 : Int32) (x2_275 : Int32) (M_275 : kD) (ls : Array Slot) (H : Heap) (locs : List Loc), lv_has ls 4 [(0, .ref (ra 0)), (1, .int x1_275), (2, .int x2_275)] → va_P (dC, dI) vwCl (mw cB cI cJ cZ ra M_275) H → va_D (mA ra s.heap.size) (mw cB cI cJ cZ ra M_275) → va_S (mA ra s.heap.size) s.heap H locs → g_X12_book_275 x1_275 x2_275 M_275 = some r → W p l e (headSpec wsX12_book rm_X12_book).room s m args below meth c H locs 0 0 (MQ below (mQi dC dI cB cI cJ cZ ra s.heap.size r) args s 0 0 (mA ra s.heap.size)) (F0 m 275 ls []) := by
          intro x1_275 x2_275 M_275 ls H locs hl hP hD hS hf
          unfold g_X12_book_275 at hf
          refine lv_iload_n hx hb dX12_book_275 rfl (lv_at hl 1 rfl) ?_
          refine lv_if_ne (tgt := 283) hx hb dX12_book_276 (by decide) (fun hb3 => ?_) (fun hb3 => ?_)
          · have hf := (if_neg hb3).symm.trans hf
            refine lv_iload_n hx hb dX12_book_283 rfl (lv_at hl 2 rfl) ?_
            have hf := Option.some.inj hf
            subst hf
            exact m_iret hx hb hr hlocks hP hK hD hS dX12_book_284
          · have hf := (if_pos hb3).symm.trans hf
            refine lv_aload_n hx hb dX12_book_279 rfl (lv_at hl 0 rfl) ?_
            obtain ⟨M1, hq2, hf⟩ := bo_e hf
            refine km_callwv (M1 := M1) (km_run (As := []) (rest := []) ⟨hx, hb, hml, hown, hts⟩ (c_X12_back l dC dI cB cI cJ cZ ra _ M_275  M1 hq2) (cwV 0 hts gX12_book_X12_back rfl rfl rfl (by decide +kernel) ⟨Nat.le_of_ble_eq_true rfl, Nat.le_of_ble_eq_true rfl⟩) hK hP (fun _ _ _ _ => mPw_bl) (fun U hU hW => ⟨by rw [hU], by rw [hU]; exact hP, va_K.moved hW.alike hK, hD.weaken (fun _ _ _ _ => trivial)⟩) rfl rfl hl.1 rfl (lv_room (Nat.le_of_ble_eq_true rfl)) dX12_book_280 ⟨Nat.le_refl _, Nat.le_refl _⟩) hD hS hA (fun H locs hP hD hS => ?_)
            refine lv_iload_n hx hb dX12_book_283 rfl (lv_at hl 2 rfl) ?_
            have hf := Option.some.inj hf
            subst hf
            exact m_iret hx hb hr hlocks hP hK hD hS dX12_book_284
        have h_241 := lp_ind (z := (fun _ _ _ _ => none)) (b := (g_X12_book_241)) (fun (rc_241 : Int32 → Int32 → Int32 → kD → Option (Int32 × kD)) => ∀ (x1_241 : Int32) (x2_241 : Int32) (x3_241 : Int32) (M_241 : kD) (ls : Array Slot) (H : Heap) (locs : List Loc), lv_has ls 4 [(0, .ref (ra 0)), (1, .int x1_241), (2, .int x2_241), (3, .int x3_241)] → va_P (dC, dI) vwCl (mw cB cI cJ cZ ra M_241) H → va_D (mA ra s.heap.size) (mw cB cI cJ cZ ra M_241) → va_S (mA ra s.heap.size) s.heap H locs → rc_241 x1_241 x2_241 x3_241 M_241 = some r → W p l e (headSpec wsX12_book rm_X12_book).room s m args below meth c H locs 0 0 (MQ below (mQi dC dI cB cI cJ cZ ra s.heap.size r) args s 0 0 (mA ra s.heap.size)) (F0 m 241 ls [])) (by
            intro x1_241 x2_241 x3_241 M_241 ls H locs hl hP hD hS hf
            cases hf) (by
            intro rc_241 ih_241 x1_241 x2_241 x3_241 M_241 ls H locs hl hP hD hS hf
            unfold g_X12_book_241 at hf
            refine lv_iload_n hx hb dX12_book_241 rfl (lv_at hl 3 rfl) ?_
            refine lv_bipush (v := 59) hx hb dX12_book_242 (by decide) ?_
            refine lv_icmp_ge (tgt := 275) hx hb dX12_book_244 (by decide) (fun hb8 => ?_) (fun hb8 => ?_)
            · have hf := (if_pos hb8).symm.trans hf
              exact h_275 x1_241 x2_241 M_241 ls _ _ (lv_sub hl [0, 1, 2] rfl) hP hD hS hf
            · have hf := (if_neg hb8).symm.trans hf
              refine lv_aload_n hx hb dX12_book_247 rfl (lv_at hl 0 rfl) ?_
              refine km_get hx hb hts hin hown hK hP 20 (by decide) (v := .ref (ra 20)) k_fieldLink_RX12_50__KeyLettersModel___undone____I_ rfl dX12_book_248 ?_
              refine lv_bipush (v := 59) hx hb dX12_book_251 (by decide) ?_
              refine lv_aload_n hx hb dX12_book_253 rfl (lv_at hl 0 rfl) ?_
              refine km_get hx hb hts hin hown hK hP 22 (by decide) (v := .int (M_241.1 0 22)) k_fieldLink_RX12_248__KeyLettersModel___undoMany___I_ rfl dX12_book_254 ?_
              refine lv_iconst (v := 1) hx hb dX12_book_257 (by decide) ?_
              refine lv_isub hx hb dX12_book_258 ?_
              refine lv_imul hx hb dX12_book_259 ?_
              refine lv_iload_n hx hb dX12_book_260 rfl (lv_at hl 3 rfl) ?_
              refine lv_iadd hx hb dX12_book_261 ?_
              refine lv_aload_n hx hb dX12_book_262 rfl (lv_at hl 0 rfl) ?_
              refine km_get hx hb hts hin hown hK hP 21 (by decide) (v := .ref (ra 21)) k_fieldLink_RX12_53__KeyLettersModel___before____I_ rfl dX12_book_263 ?_
              refine lv_iload_n hx hb dX12_book_266 rfl (lv_at hl 3 rfl) ?_
              obtain ⟨hc4, hf⟩ := ck_e hf
              refine va_iald hx hb hK hP 8 1 rfl rfl hc4 dX12_book_267 ?_
              obtain ⟨hc5, hf⟩ := ck_e hf
              obtain ⟨M6, eM6, hf⟩ := bd1_e hf
              refine va_iast hx hb hK hP hD hS 7 1 rfl rfl hc5 dX12_book_268 (fun H locs hP hD hS => ?_)
              have hP : va_P (dC, dI) vwCl (mw cB cI cJ cZ ra M6) H := by rw [eM6, ← ma_20 cB cI cJ cZ ra M_241 (((59 : Int32) * ((M_241.1 0 22) - (1 : Int32))) + x3_241).toNatClampNeg (M_241.1 21 x3_241.toNatClampNeg)]; exact hP
              have hD : va_D (mA ra s.heap.size) (mw cB cI cJ cZ ra M6) := by rw [eM6, ← ma_20 cB cI cJ cZ ra M_241 (((59 : Int32) * ((M_241.1 0 22) - (1 : Int32))) + x3_241).toNatClampNeg (M_241.1 21 x3_241.toNatClampNeg)]; exact hD
              obtain ⟨v7, ev7, hf⟩ := bd1_e hf
              refine lv_iinc (k := 3) (x := x3_241) (v := v7) (nL := 4) (lv' := [(3, .int v7), (0, .ref (ra 0)), (1, .int x1_241), (2, .int x2_241)]) hx hb dX12_book_269 hl rfl (kt_inc (w := 1) (by decide) ev7) (by decide) rfl (fun ls hl => ?_)
              refine lv_goto (tgt := 241) hx hb dX12_book_272 (by decide) ?_
              exact ih_241 x1_241 x2_241 v7 M6 ls _ _ (lv_sub hl [1, 2, 3, 0] rfl) hP hD hS hf) 2000
        refine lv_aload_n hx hb dX12_book_191 rfl (lv_at hl 0 rfl) ?_
        refine km_get hx hb hts hin hown hK hP 37 (by decide) (v := .ref (ra 37)) k_fieldLink_RX12_80__KeyLettersModel___toldAt____I_ rfl dX12_book_192 ?_
        refine lv_iconst (v := 2) hx hb dX12_book_195 (by decide) ?_
        refine lv_aload_n hx hb dX12_book_196 rfl (lv_at hl 0 rfl) ?_
        refine km_get hx hb hts hin hown hK hP 6 (by decide) (v := .ref (ra 6)) k_fieldLink_RX12_33__KeyLettersModel___s____I_ rfl dX12_book_197 ?_
        refine lv_bipush (v := 39) hx hb dX12_book_200 (by decide) ?_
        refine va_iald hx hb hK hP 2 1 rfl rfl (show ¬ ((39 : Int32) < 0 ∨ 279 ≤ (39 : Int32).toNatClampNeg) by decide +kernel) dX12_book_202 ?_
        obtain ⟨M9, eM9, hf⟩ := bd1_e hf
        refine va_iast hx hb hK hP hD hS 15 1 rfl rfl (show ¬ ((2 : Int32) < 0 ∨ 4 ≤ (2 : Int32).toNatClampNeg) by decide +kernel) dX12_book_203 (fun H locs hP hD hS => ?_)
        have hP : va_P (dC, dI) vwCl (mw cB cI cJ cZ ra M9) H := by rw [eM9, ← ma_37 cB cI cJ cZ ra M_191 (2 : Int32).toNatClampNeg (M_191.1 6 (39 : Int32).toNatClampNeg)]; exact hP
        have hD : va_D (mA ra s.heap.size) (mw cB cI cJ cZ ra M9) := by rw [eM9, ← ma_37 cB cI cJ cZ ra M_191 (2 : Int32).toNatClampNeg (M_191.1 6 (39 : Int32).toNatClampNeg)]; exact hD
        refine lv_aload_n hx hb dX12_book_204 rfl (lv_at hl 0 rfl) ?_
        refine km_get hx hb hts hin hown hK hP 37 (by decide) (v := .ref (ra 37)) k_fieldLink_RX12_80__KeyLettersModel___toldAt____I_ rfl dX12_book_205 ?_
        refine lv_iconst (v := 3) hx hb dX12_book_208 (by decide) ?_
        refine lv_aload_n hx hb dX12_book_209 rfl (lv_at hl 0 rfl) ?_
        refine lv_bipush (v := 50) hx hb dX12_book_210 (by decide) ?_
        obtain ⟨v10, hq11, hf⟩ := bo_e hf
        refine ko_call (v := some (.int v10)) (km_run (As := [.int (50 : Int32)]) (rest := [.int (3 : Int32), .ref (ra 37)]) ⟨hx, hb, hml, hown, hts⟩ (c_X12_sumOf l dC dI cB cI cJ cZ ra M9 (50 : Int32) v10 hq11) (cwV 1 hts gX12_book_X12_sumOf rfl rfl rfl (by decide +kernel) ⟨Nat.le_of_ble_eq_true rfl, Nat.le_of_ble_eq_true rfl⟩) hK hP (fun _ _ _ _ => mPr_bl) (fun U hU hW => ⟨by rw [hU]; exact hP, va_K.moved hW.alike hK⟩) rfl rfl hl.1 rfl (lv_room (Nat.le_of_ble_eq_true rfl)) dX12_book_212 ⟨Nat.le_refl _, Nat.le_refl _⟩) ?_
        obtain ⟨M12, eM12, hf⟩ := bd1_e hf
        refine va_iast hx hb hK hP hD hS 15 1 rfl rfl (show ¬ ((3 : Int32) < 0 ∨ 4 ≤ (3 : Int32).toNatClampNeg) by decide +kernel) dX12_book_215 (fun H locs hP hD hS => ?_)
        have hP : va_P (dC, dI) vwCl (mw cB cI cJ cZ ra M12) H := by rw [eM12, ← ma_37 cB cI cJ cZ ra M9 (3 : Int32).toNatClampNeg v10]; exact hP
        have hD : va_D (mA ra s.heap.size) (mw cB cI cJ cZ ra M12) := by rw [eM12, ← ma_37 cB cI cJ cZ ra M9 (3 : Int32).toNatClampNeg v10]; exact hD
        refine lv_aload_n hx hb dX12_book_216 rfl (lv_at hl 0 rfl) ?_
        refine lv_iconst (v := 1) hx hb dX12_book_217 (by decide) ?_
        obtain ⟨M13, eM13, hf⟩ := bd1_e hf
        refine km_put hx hb hts hin hown hK hP hD hS 38 (by decide) k_fieldLink_RX12_413__KeyLettersModel___hasTold___Z_ rfl (ty := .boolean) (v := .int (1 : Int32)) (by decide +kernel) rfl rfl (M1 := M13) (by rw [eM13]; exact mo_38 cB cI cJ cZ ra M12 (1 : Int32)) dX12_book_218 (fun H locs hP hD hS => ?_)
        refine lv_iload_n hx hb dX12_book_221 rfl (lv_at hl 1 rfl) ?_
        refine lv_iconst (v := 1) hx hb dX12_book_222 (by decide) ?_
        refine lv_icmp_ne (tgt := 275) hx hb dX12_book_223 (by decide) (fun hb17 => ?_) (fun hb17 => ?_)
        · have hf := (if_neg hb17).symm.trans hf
          exact h_275 x1_191 x2_191 M13 ls _ _ hl hP hD hS hf
        · have hf := (if_pos hb17).symm.trans hf
          refine lv_aload_n hx hb dX12_book_226 rfl (lv_at hl 0 rfl) ?_
          refine km_get hx hb hts hin hown hK hP 37 (by decide) (v := .ref (ra 37)) k_fieldLink_RX12_80__KeyLettersModel___toldAt____I_ rfl dX12_book_227 ?_
          refine lv_iconst (v := 1) hx hb dX12_book_230 (by decide) ?_
          refine va_iald hx hb hK hP 15 1 rfl rfl (show ¬ ((1 : Int32) < 0 ∨ 4 ≤ (1 : Int32).toNatClampNeg) by decide +kernel) dX12_book_231 ?_
          refine lv_if_le (tgt := 275) hx hb dX12_book_232 (by decide) (fun hb16 => ?_) (fun hb16 => ?_)
          · have hf := (if_pos hb16).symm.trans hf
            exact h_275 x1_191 x2_191 M13 ls _ _ hl hP hD hS hf
          · have hf := (if_neg hb16).symm.trans hf
            refine lv_aload_n hx hb dX12_book_235 rfl (lv_at hl 0 rfl) ?_
            obtain ⟨M14, hq15, hf⟩ := bo_e hf
            refine km_callwv (M1 := M14) (km_run (As := []) (rest := []) ⟨hx, hb, hml, hown, hts⟩ (c_X12_keep l dC dI cB cI cJ cZ ra _ M13  M14 hq15) (cwV 0 hts gX12_book_X12_keep rfl rfl rfl (by decide +kernel) ⟨Nat.le_of_ble_eq_true rfl, Nat.le_of_ble_eq_true rfl⟩) hK hP (fun _ _ _ _ => mPw_bl) (fun U hU hW => ⟨by rw [hU], by rw [hU]; exact hP, va_K.moved hW.alike hK, hD.weaken (fun _ _ _ _ => trivial)⟩) rfl rfl hl.1 rfl (lv_room (Nat.le_of_ble_eq_true rfl)) dX12_book_236 ⟨Nat.le_refl _, Nat.le_refl _⟩) hD hS hA (fun H locs hP hD hS => ?_)
            refine lv_iconst (v := 0) hx hb dX12_book_239 (by decide) ?_
            refine lv_istore_n (nL := 4) (lv' := [(3, .int (0 : Int32)), (0, .ref (ra 0)), (1, .int x1_191), (2, .int x2_191)]) hx hb dX12_book_240 rfl hl (by decide) rfl (fun ls hl => ?_)
            exact h_241 x1_191 x2_191 (0 : Int32) M14 ls _ _ (lv_sub hl [1, 2, 3, 0] rfl) hP hD hS hf
      have h_111 := lp_ind (z := (fun _ _ _ _ => none)) (b := (g_X12_book_111)) (fun (rc_111 : Int32 → Int32 → Int32 → kD → Option (Int32 × kD)) => ∀ (x1_111 : Int32) (x2_111 : Int32) (x3_111 : Int32) (M_111 : kD) (ls : Array Slot) (H : Heap) (locs : List Loc), lv_has ls 4 [(0, .ref (ra 0)), (1, .int x1_111), (2, .int x2_111), (3, .int x3_111)] → va_P (dC, dI) vwCl (mw cB cI cJ cZ ra M_111) H → va_D (mA ra s.heap.size) (mw cB cI cJ cZ ra M_111) → va_S (mA ra s.heap.size) s.heap H locs → rc_111 x1_111 x2_111 x3_111 M_111 = some r → W p l e (headSpec wsX12_book rm_X12_book).room s m args below meth c H locs 0 0 (MQ below (mQi dC dI cB cI cJ cZ ra s.heap.size r) args s 0 0 (mA ra s.heap.size)) (F0 m 111 ls [])) (by
          intro x1_111 x2_111 x3_111 M_111 ls H locs hl hP hD hS hf
          cases hf) (by
          intro rc_111 ih_111 x1_111 x2_111 x3_111 M_111 ls H locs hl hP hD hS hf
          unfold g_X12_book_111 at hf
          have h_185 : ∀ (x1_185 : Int32) (x2_185 : Int32) (x3_185 : Int32) (M_185 : kD) (ls : Array Slot) (H : Heap) (locs : List Loc), lv_has ls 4 [(0, .ref (ra 0)), (1, .int x1_185), (2, .int x2_185), (3, .int x3_185)] → va_P (dC, dI) vwCl (mw cB cI cJ cZ ra M_185) H → va_D (mA ra s.heap.size) (mw cB cI cJ cZ ra M_185) → va_S (mA ra s.heap.size) s.heap H locs → g_X12_book_185 rc_111 x1_185 x2_185 x3_185 M_185 = some r → W p l e (headSpec wsX12_book rm_X12_book).room s m args below meth c H locs 0 0 (MQ below (mQi dC dI cB cI cJ cZ ra s.heap.size r) args s 0 0 (mA ra s.heap.size)) (F0 m 185 ls []) := by
            intro x1_185 x2_185 x3_185 M_185 ls H locs hl hP hD hS hf
            unfold g_X12_book_185 at hf
            obtain ⟨v18, ev18, hf⟩ := bd1_e hf
            refine lv_iinc (k := 3) (x := x3_185) (v := v18) (nL := 4) (lv' := [(3, .int v18), (0, .ref (ra 0)), (1, .int x1_185), (2, .int x2_185)]) hx hb dX12_book_185 hl rfl (kt_inc (w := 1) (by decide) ev18) (by decide) rfl (fun ls hl => ?_)
            refine lv_goto (tgt := 111) hx hb dX12_book_188 (by decide) ?_
            exact ih_111 x1_185 x2_185 v18 M_185 ls _ _ (lv_sub hl [1, 2, 3, 0] rfl) hP hD hS hf
          refine lv_iload_n hx hb dX12_book_111 rfl (lv_at hl 3 rfl) ?_
          refine lv_aload_n hx hb dX12_book_112 rfl (lv_at hl 0 rfl) ?_
          refine km_get hx hb hts hin hown hK hP 36 (by decide) (v := .int (M_111.1 0 36)) k_fieldLink_RX12_404__KeyLettersModel___toldMany___I_ rfl dX12_book_113 ?_
          refine lv_icmp_ge (tgt := 191) hx hb dX12_book_116 (by decide) (fun hb32 => ?_) (fun hb32 => ?_)
          · have hf := (if_pos hb32).symm.trans hf
            exact h_191 x1_111 x2_111 M_111 ls _ _ (lv_sub hl [0, 1, 2] rfl) hP hD hS hf
          · have hf := (if_neg hb32).symm.trans hf
            refine lv_iload_n hx hb dX12_book_119 rfl (lv_at hl 2 rfl) ?_
            refine lv_if_ge (tgt := 191) hx hb dX12_book_120 (by decide) (fun hb31 => ?_) (fun hb31 => ?_)
            · have hf := (if_pos hb31).symm.trans hf
              exact h_191 x1_111 x2_111 M_111 ls _ _ (lv_sub hl [0, 1, 2] rfl) hP hD hS hf
            · have hf := (if_neg hb31).symm.trans hf
              refine lv_aload_n hx hb dX12_book_123 rfl (lv_at hl 0 rfl) ?_
              refine km_get hx hb hts hin hown hK hP 37 (by decide) (v := .ref (ra 37)) k_fieldLink_RX12_80__KeyLettersModel___toldAt____I_ rfl dX12_book_124 ?_
              refine lv_iconst (v := 0) hx hb dX12_book_127 (by decide) ?_
              refine lv_aload_n hx hb dX12_book_128 rfl (lv_at hl 0 rfl) ?_
              refine lv_aload_n hx hb dX12_book_129 rfl (lv_at hl 0 rfl) ?_
              refine km_get hx hb hts hin hown hK hP 8 (by decide) (v := .ref (ra 8)) k_fieldLink_RX12_40__KeyLettersModel___read____I_ rfl dX12_book_130 ?_
              refine lv_iconst (v := 3) hx hb dX12_book_133 (by decide) ?_
              refine lv_iload_n hx hb dX12_book_134 rfl (lv_at hl 3 rfl) ?_
              refine lv_imul hx hb dX12_book_135 ?_
              obtain ⟨v19, ev19, hf⟩ := bd1_e hf
              refine kt_i ev19 ?_
              obtain ⟨hc20, hf⟩ := ck_e hf
              refine va_iald hx hb hK hP 4 1 rfl rfl hc20 dX12_book_136 ?_
              refine lv_aload_n hx hb dX12_book_137 rfl (lv_at hl 0 rfl) ?_
              refine km_get hx hb hts hin hown hK hP 8 (by decide) (v := .ref (ra 8)) k_fieldLink_RX12_40__KeyLettersModel___read____I_ rfl dX12_book_138 ?_
              refine lv_iconst (v := 3) hx hb dX12_book_141 (by decide) ?_
              refine lv_iload_n hx hb dX12_book_142 rfl (lv_at hl 3 rfl) ?_
              refine lv_imul hx hb dX12_book_143 ?_
              refine lv_iconst (v := 1) hx hb dX12_book_144 (by decide) ?_
              refine lv_iadd hx hb dX12_book_145 ?_
              obtain ⟨v21, ev21, hf⟩ := bd1_e hf
              refine kt_i ev21 ?_
              obtain ⟨hc22, hf⟩ := ck_e hf
              refine va_iald hx hb hK hP 4 1 rfl rfl hc22 dX12_book_146 ?_
              refine lv_aload_n hx hb dX12_book_147 rfl (lv_at hl 0 rfl) ?_
              refine km_get hx hb hts hin hown hK hP 8 (by decide) (v := .ref (ra 8)) k_fieldLink_RX12_40__KeyLettersModel___read____I_ rfl dX12_book_148 ?_
              refine lv_iconst (v := 3) hx hb dX12_book_151 (by decide) ?_
              refine lv_iload_n hx hb dX12_book_152 rfl (lv_at hl 3 rfl) ?_
              refine lv_imul hx hb dX12_book_153 ?_
              refine lv_iconst (v := 2) hx hb dX12_book_154 (by decide) ?_
              refine lv_iadd hx hb dX12_book_155 ?_
              obtain ⟨v23, ev23, hf⟩ := bd1_e hf
              refine kt_i ev23 ?_
              obtain ⟨hc24, hf⟩ := ck_e hf
              refine va_iald hx hb hK hP 4 1 rfl rfl hc24 dX12_book_156 ?_
              obtain ⟨v26, M25, hq27, hf⟩ := bo2_e hf
              refine km_callw (v := v26) (M1 := M25) rfl (km_run (As := [.int (M_111.1 8 v19.toNatClampNeg), .int (M_111.1 8 v21.toNatClampNeg), .int (M_111.1 8 v23.toNatClampNeg)]) (rest := [.int (0 : Int32), .ref (ra 37)]) ⟨hx, hb, hml, hown, hts⟩ (c_X12_does l dC dI cB cI cJ cZ ra _ M_111 (M_111.1 8 v19.toNatClampNeg) (M_111.1 8 v21.toNatClampNeg) (M_111.1 8 v23.toNatClampNeg) (v26, M25) hq27) (cwV 3 hts gX12_book_X12_does rfl rfl rfl (by decide +kernel) ⟨Nat.le_of_ble_eq_true rfl, Nat.le_of_ble_eq_true rfl⟩) hK hP (fun _ _ _ _ => mPw_bl) (fun U hU hW => ⟨by rw [hU], by rw [hU]; exact hP, va_K.moved hW.alike hK, hD.weaken (fun _ _ _ _ => trivial)⟩) rfl rfl hl.1 rfl (lv_room (Nat.le_of_ble_eq_true rfl)) dX12_book_157 ⟨Nat.le_refl _, Nat.le_refl _⟩) hD hS hA (fun H locs hP hD hS => ?_)
              obtain ⟨M28, eM28, hf⟩ := bd1_e hf
              refine va_iast hx hb hK hP hD hS 15 1 rfl rfl (show ¬ ((0 : Int32) < 0 ∨ 4 ≤ (0 : Int32).toNatClampNeg) by decide +kernel) dX12_book_160 (fun H locs hP hD hS => ?_)
              have hP : va_P (dC, dI) vwCl (mw cB cI cJ cZ ra M28) H := by rw [eM28, ← ma_37 cB cI cJ cZ ra M25 (0 : Int32).toNatClampNeg v26]; exact hP
              have hD : va_D (mA ra s.heap.size) (mw cB cI cJ cZ ra M28) := by rw [eM28, ← ma_37 cB cI cJ cZ ra M25 (0 : Int32).toNatClampNeg v26]; exact hD
              refine lv_aload_n hx hb dX12_book_161 rfl (lv_at hl 0 rfl) ?_
              refine km_get hx hb hts hin hown hK hP 37 (by decide) (v := .ref (ra 37)) k_fieldLink_RX12_80__KeyLettersModel___toldAt____I_ rfl dX12_book_162 ?_
              refine lv_iconst (v := 0) hx hb dX12_book_165 (by decide) ?_
              refine va_iald hx hb hK hP 15 1 rfl rfl (show ¬ ((0 : Int32) < 0 ∨ 4 ≤ (0 : Int32).toNatClampNeg) by decide +kernel) dX12_book_166 ?_
              refine lv_if_le (tgt := 175) hx hb dX12_book_167 (by decide) (fun hb30 => ?_) (fun hb30 => ?_)
              · have hf := (if_pos hb30).symm.trans hf
                refine lv_aload_n hx hb dX12_book_175 rfl (lv_at hl 0 rfl) ?_
                refine km_get hx hb hts hin hown hK hP 37 (by decide) (v := .ref (ra 37)) k_fieldLink_RX12_80__KeyLettersModel___toldAt____I_ rfl dX12_book_176 ?_
                refine lv_iconst (v := 1) hx hb dX12_book_179 (by decide) ?_
                refine lv_dup2_11 hx hb dX12_book_180 rfl rfl ?_
                refine va_iald hx hb hK hP 15 1 rfl rfl (show ¬ ((1 : Int32) < 0 ∨ 4 ≤ (1 : Int32).toNatClampNeg) by decide +kernel) dX12_book_181 ?_
                refine lv_iconst (v := 1) hx hb dX12_book_182 (by decide) ?_
                refine lv_iadd hx hb dX12_book_183 ?_
                obtain ⟨M29, eM29, hf⟩ := bd1_e hf
                refine va_iast hx hb hK hP hD hS 15 1 rfl rfl (show ¬ ((1 : Int32) < 0 ∨ 4 ≤ (1 : Int32).toNatClampNeg) by decide +kernel) dX12_book_184 (fun H locs hP hD hS => ?_)
                have hP : va_P (dC, dI) vwCl (mw cB cI cJ cZ ra M29) H := by rw [eM29, ← ma_37 cB cI cJ cZ ra M28 (1 : Int32).toNatClampNeg ((M28.1 37 (1 : Int32).toNatClampNeg) + (1 : Int32))]; exact hP
                have hD : va_D (mA ra s.heap.size) (mw cB cI cJ cZ ra M29) := by rw [eM29, ← ma_37 cB cI cJ cZ ra M28 (1 : Int32).toNatClampNeg ((M28.1 37 (1 : Int32).toNatClampNeg) + (1 : Int32))]; exact hD
                exact h_185 x1_111 x2_111 x3_111 M29 ls _ _ hl hP hD hS hf
              · have hf := (if_neg hb30).symm.trans hf
                refine lv_iload_n hx hb dX12_book_170 rfl (lv_at hl 3 rfl) ?_
                refine lv_istore_n (nL := 4) (lv' := [(2, .int x3_111), (0, .ref (ra 0)), (1, .int x1_111), (3, .int x3_111)]) hx hb dX12_book_171 rfl hl (by decide) rfl (fun ls hl => ?_)
                refine lv_goto (tgt := 185) hx hb dX12_book_172 (by decide) ?_
                exact h_185 x1_111 x3_111 x3_111 M28 ls _ _ (lv_sub hl [1, 2, 0, 3] rfl) hP hD hS hf) 2000
      refine lv_iconst (v := -1) hx hb dX12_book_107 (by decide) ?_
      refine lv_istore_n (nL := 4) (lv' := [(2, .int (-1 : Int32)), (0, .ref (ra 0)), (1, .int x1_107)]) hx hb dX12_book_108 rfl hl (by decide) rfl (fun ls hl => ?_)
      refine lv_iconst (v := 0) hx hb dX12_book_109 (by decide) ?_
      refine lv_istore_n (nL := 4) (lv' := [(3, .int (0 : Int32)), (2, .int (-1 : Int32)), (0, .ref (ra 0)), (1, .int x1_107)]) hx hb dX12_book_110 rfl hl (by decide) rfl (fun ls hl => ?_)
      exact h_111 x1_107 (-1 : Int32) (0 : Int32) M_107 ls _ _ (lv_sub hl [2, 3, 1, 0] rfl) hP hD hS hf
    have h_89 := lp_ind (z := (fun _ _ _ => none)) (b := (g_X12_book_89)) (fun (rc_89 : Int32 → Int32 → kD → Option (Int32 × kD)) => ∀ (x1_89 : Int32) (x2_89 : Int32) (M_89 : kD) (ls : Array Slot) (H : Heap) (locs : List Loc), lv_has ls 4 [(0, .ref (ra 0)), (1, .int x1_89), (2, .int x2_89)] → va_P (dC, dI) vwCl (mw cB cI cJ cZ ra M_89) H → va_D (mA ra s.heap.size) (mw cB cI cJ cZ ra M_89) → va_S (mA ra s.heap.size) s.heap H locs → rc_89 x1_89 x2_89 M_89 = some r → W p l e (headSpec wsX12_book rm_X12_book).room s m args below meth c H locs 0 0 (MQ below (mQi dC dI cB cI cJ cZ ra s.heap.size r) args s 0 0 (mA ra s.heap.size)) (F0 m 89 ls [])) (by
        intro x1_89 x2_89 M_89 ls H locs hl hP hD hS hf
        cases hf) (by
        intro rc_89 ih_89 x1_89 x2_89 M_89 ls H locs hl hP hD hS hf
        unfold g_X12_book_89 at hf
        refine lv_iload_n hx hb dX12_book_89 rfl (lv_at hl 2 rfl) ?_
        refine lv_iconst (v := 4) hx hb dX12_book_90 (by decide) ?_
        refine lv_icmp_ge (tgt := 107) hx hb dX12_book_91 (by decide) (fun hb36 => ?_) (fun hb36 => ?_)
        · have hf := (if_pos hb36).symm.trans hf
          exact h_107 x1_89 M_89 ls _ _ (lv_sub hl [0, 1] rfl) hP hD hS hf
        · have hf := (if_neg hb36).symm.trans hf
          refine lv_aload_n hx hb dX12_book_94 rfl (lv_at hl 0 rfl) ?_
          refine km_get hx hb hts hin hown hK hP 37 (by decide) (v := .ref (ra 37)) k_fieldLink_RX12_80__KeyLettersModel___toldAt____I_ rfl dX12_book_95 ?_
          refine lv_iload_n hx hb dX12_book_98 rfl (lv_at hl 2 rfl) ?_
          refine lv_iconst (v := 0) hx hb dX12_book_99 (by decide) ?_
          obtain ⟨hc33, hf⟩ := ck_e hf
          obtain ⟨M34, eM34, hf⟩ := bd1_e hf
          refine va_iast hx hb hK hP hD hS 15 1 rfl rfl hc33 dX12_book_100 (fun H locs hP hD hS => ?_)
          have hP : va_P (dC, dI) vwCl (mw cB cI cJ cZ ra M34) H := by rw [eM34, ← ma_37 cB cI cJ cZ ra M_89 x2_89.toNatClampNeg (0 : Int32)]; exact hP
          have hD : va_D (mA ra s.heap.size) (mw cB cI cJ cZ ra M34) := by rw [eM34, ← ma_37 cB cI cJ cZ ra M_89 x2_89.toNatClampNeg (0 : Int32)]; exact hD
          obtain ⟨v35, ev35, hf⟩ := bd1_e hf
          refine lv_iinc (k := 2) (x := x2_89) (v := v35) (nL := 4) (lv' := [(2, .int v35), (0, .ref (ra 0)), (1, .int x1_89)]) hx hb dX12_book_101 hl rfl (kt_inc (w := 1) (by decide) ev35) (by decide) rfl (fun ls hl => ?_)
          refine lv_goto (tgt := 89) hx hb dX12_book_104 (by decide) ?_
          exact ih_89 x1_89 v35 M34 ls _ _ (lv_sub hl [1, 2, 0] rfl) hP hD hS hf) 2000
    refine lv_aload_n hx hb dX12_book_83 rfl (lv_at hl 0 rfl) ?_
    obtain ⟨M37, hq38, hf⟩ := bo_e hf
    refine km_callwv (M1 := M37) (km_run (As := []) (rest := []) ⟨hx, hb, hml, hown, hts⟩ (c_X12_tries l dC dI cB cI cJ cZ ra _ M_83  M37 hq38) (cwV 0 hts gX12_book_X12_tries rfl rfl rfl (by decide +kernel) ⟨Nat.le_of_ble_eq_true rfl, Nat.le_of_ble_eq_true rfl⟩) hK hP (fun _ _ _ _ => mPw_bl) (fun U hU hW => ⟨by rw [hU], by rw [hU]; exact hP, va_K.moved hW.alike hK, hD.weaken (fun _ _ _ _ => trivial)⟩) rfl rfl hl.1 rfl (lv_room (Nat.le_of_ble_eq_true rfl)) dX12_book_84 ⟨Nat.le_refl _, Nat.le_refl _⟩) hD hS hA (fun H locs hP hD hS => ?_)
    refine lv_iconst (v := 0) hx hb dX12_book_87 (by decide) ?_
    refine lv_istore_n (nL := 4) (lv' := [(2, .int (0 : Int32)), (0, .ref (ra 0)), (1, .int x1_83)]) hx hb dX12_book_88 rfl hl (by decide) rfl (fun ls hl => ?_)
    exact h_89 x1_83 (0 : Int32) M37 ls _ _ (lv_sub hl [1, 2, 0] rfl) hP hD hS hf
  have h_39 := lp_ind (z := (fun _ _ => none)) (b := (g_X12_book_39)) (fun (rc_39 : Int32 → kD → Option (Int32 × kD)) => ∀ (x1_39 : Int32) (M_39 : kD) (ls : Array Slot) (H : Heap) (locs : List Loc), lv_has ls 4 [(0, .ref (ra 0)), (1, .int x1_39)] → va_P (dC, dI) vwCl (mw cB cI cJ cZ ra M_39) H → va_D (mA ra s.heap.size) (mw cB cI cJ cZ ra M_39) → va_S (mA ra s.heap.size) s.heap H locs → rc_39 x1_39 M_39 = some r → W p l e (headSpec wsX12_book rm_X12_book).room s m args below meth c H locs 0 0 (MQ below (mQi dC dI cB cI cJ cZ ra s.heap.size r) args s 0 0 (mA ra s.heap.size)) (F0 m 39 ls [])) (by
      intro x1_39 M_39 ls H locs hl hP hD hS hf
      cases hf) (by
      intro rc_39 ih_39 x1_39 M_39 ls H locs hl hP hD hS hf
      unfold g_X12_book_39 at hf
      refine lv_aload_n hx hb dX12_book_39 rfl (lv_at hl 0 rfl) ?_
      refine km_get hx hb hts hin hown hK hP 11 (by decide) (v := .int (M_39.1 0 11)) k_fieldLink_RX12_154__KeyLettersModel___token___I_ rfl dX12_book_40 ?_
      refine lv_if_eq (tgt := 83) hx hb dX12_book_43 (by decide) (fun hb48 => ?_) (fun hb48 => ?_)
      · have hf := (if_pos hb48).symm.trans hf
        exact h_83 x1_39 M_39 ls _ _ hl hP hD hS hf
      · have hf := (if_neg hb48).symm.trans hf
        refine lv_aload_n hx hb dX12_book_46 rfl (lv_at hl 0 rfl) ?_
        obtain ⟨v40, M39, hq41, hf⟩ := bo2_e hf
        refine km_callw (v := v40) (M1 := M39) rfl (km_run (As := []) (rest := []) ⟨hx, hb, hml, hown, hts⟩ (c_X12_bookLine l dC dI cB cI cJ cZ ra _ M_39  (v40, M39) hq41) (cwV 0 hts gX12_book_X12_bookLine rfl rfl rfl (by decide +kernel) ⟨Nat.le_of_ble_eq_true rfl, Nat.le_of_ble_eq_true rfl⟩) hK hP (fun _ _ _ _ => mPw_bl) (fun U hU hW => ⟨by rw [hU], by rw [hU]; exact hP, va_K.moved hW.alike hK, hD.weaken (fun _ _ _ _ => trivial)⟩) rfl rfl hl.1 rfl (lv_room (Nat.le_of_ble_eq_true rfl)) dX12_book_47 ⟨Nat.le_refl _, Nat.le_refl _⟩) hD hS hA (fun H locs hP hD hS => ?_)
        refine lv_if_eq (tgt := 62) hx hb dX12_book_50 (by decide) (fun hb47 => ?_) (fun hb47 => ?_)
        · have hf := (if_pos hb47).symm.trans hf
          refine lv_bipush (v := -2) hx hb dX12_book_62 (by decide) ?_
          refine lv_aload_n hx hb dX12_book_64 rfl (lv_at hl 0 rfl) ?_
          refine km_get hx hb hts hin hown hK hP 16 (by decide) (v := .int (M39.1 0 16)) k_fieldLink_RX12_174__KeyLettersModel___faultAt___I_ rfl dX12_book_65 ?_
          refine lv_isub hx hb dX12_book_68 ?_
          have hf := Option.some.inj hf
          subst hf
          exact m_iret hx hb hr hlocks hP hK hD hS dX12_book_69
        · have hf := (if_neg hb47).symm.trans hf
          refine lv_aload_n hx hb dX12_book_53 rfl (lv_at hl 0 rfl) ?_
          refine lv_bipush (v := 59) hx hb dX12_book_54 (by decide) ?_
          obtain ⟨v43, M42, hq44, hf⟩ := bo2_e hf
          refine km_callw (v := v43) (M1 := M42) rfl (km_run (As := [.int (59 : Int32)]) (rest := []) ⟨hx, hb, hml, hown, hts⟩ (c_X12_sign l dC dI cB cI cJ cZ ra _ M39 (59 : Int32) (v43, M42) hq44) (cwV 1 hts gX12_book_X12_sign rfl rfl rfl (by decide +kernel) ⟨Nat.le_of_ble_eq_true rfl, Nat.le_of_ble_eq_true rfl⟩) hK hP (fun _ _ _ _ => mPw_bl) (fun U hU hW => ⟨by rw [hU], by rw [hU]; exact hP, va_K.moved hW.alike hK, hD.weaken (fun _ _ _ _ => trivial)⟩) rfl rfl hl.1 rfl (lv_room (Nat.le_of_ble_eq_true rfl)) dX12_book_56 ⟨Nat.le_refl _, Nat.le_refl _⟩) hD hS hA (fun H locs hP hD hS => ?_)
          refine lv_if_ne (tgt := 70) hx hb dX12_book_59 (by decide) (fun hb46 => ?_) (fun hb46 => ?_)
          · have hf := (if_neg hb46).symm.trans hf
            refine lv_aload_n hx hb dX12_book_70 rfl (lv_at hl 0 rfl) ?_
            refine lv_dup hx hb dX12_book_71 rfl ?_
            refine km_get hx hb hts hin hown hK hP 36 (by decide) (v := .int (M42.1 0 36)) k_fieldLink_RX12_404__KeyLettersModel___toldMany___I_ rfl dX12_book_72 ?_
            refine lv_iconst (v := 1) hx hb dX12_book_75 (by decide) ?_
            refine lv_iadd hx hb dX12_book_76 ?_
            obtain ⟨M45, eM45, hf⟩ := bd1_e hf
            refine km_put hx hb hts hin hown hK hP hD hS 36 (by decide) k_fieldLink_RX12_404__KeyLettersModel___toldMany___I_ rfl (ty := .int) (v := .int ((M42.1 0 36) + (1 : Int32))) (by decide +kernel) rfl rfl (M1 := M45) (by rw [eM45]; exact mo_36 cB cI cJ cZ ra M42 ((M42.1 0 36) + (1 : Int32))) dX12_book_77 (fun H locs hP hD hS => ?_)
            refine lv_goto (tgt := 39) hx hb dX12_book_80 (by decide) ?_
            exact ih_39 x1_39 M45 ls _ _ hl hP hD hS hf
          · have hf := (if_pos hb46).symm.trans hf
            refine lv_bipush (v := -2) hx hb dX12_book_62 (by decide) ?_
            refine lv_aload_n hx hb dX12_book_64 rfl (lv_at hl 0 rfl) ?_
            refine km_get hx hb hts hin hown hK hP 16 (by decide) (v := .int (M42.1 0 16)) k_fieldLink_RX12_174__KeyLettersModel___faultAt___I_ rfl dX12_book_65 ?_
            refine lv_isub hx hb dX12_book_68 ?_
            have hf := Option.some.inj hf
            subst hf
            exact m_iret hx hb hr hlocks hP hK hD hS dX12_book_69) 2000
  refine lv_aload_n hx hb dX12_book_0 rfl (lv_at hl 0 rfl) ?_
  refine lv_iconst (v := 0) hx hb dX12_book_1 (by decide) ?_
  obtain ⟨M49, eM49, hf⟩ := bd1_e hf
  refine km_put hx hb hts hin hown hK hP hD hS 0 (by decide) k_fieldLink_RX12_1__KeyLettersModel___thrown___I_ rfl (ty := .int) (v := .int (0 : Int32)) (by decide +kernel) rfl rfl (M1 := M49) (by rw [eM49]; exact mo_0 cB cI cJ cZ ra M (0 : Int32)) dX12_book_2 (fun H locs hP hD hS => ?_)
  refine lv_iload_n hx hb dX12_book_5 rfl (lv_at hl 1 rfl) ?_
  refine lv_iconst (v := 0) hx hb dX12_book_6 (by decide) ?_
  refine lv_iconst (v := 1) hx hb dX12_book_7 (by decide) ?_
  refine ko_call (v := some (.int (f_X12_isIn a0 (0 : Int32) (1 : Int32)))) (va_runS (As := [.int a0, .int (0 : Int32), .int (1 : Int32)]) (rest := []) ⟨hx, hb, hml, hown, hts⟩ (c_X12_isIn l a0 (0 : Int32) (1 : Int32) _ rfl) (va_cwS 3 hts gX12_book_X12_isIn rfl rfl rfl (by decide +kernel) ⟨Nat.le_of_ble_eq_true rfl, Nat.le_of_ble_eq_true rfl⟩) ⟨fun a U g mk q => q, fun U hU hW => ⟨rfl, trivial⟩⟩ rfl rfl hl.1 rfl (lv_room (Nat.le_of_ble_eq_true rfl)) dX12_book_8 ⟨Nat.le_refl _, Nat.le_refl _⟩) ?_
  refine lv_if_ne (tgt := 18) hx hb dX12_book_11 (by decide) (fun hb56 => ?_) (fun hb56 => ?_)
  · have hf := (if_neg hb56).symm.trans hf
    refine lv_aload_n hx hb dX12_book_18 rfl (lv_at hl 0 rfl) ?_
    refine lv_sipush (v := 400) hx hb dX12_book_19 (by decide) ?_
    obtain ⟨M50, hq51, hf⟩ := bo_e hf
    refine km_callwv (M1 := M50) (km_run (As := [.int (400 : Int32)]) (rest := []) ⟨hx, hb, hml, hown, hts⟩ (c_X12_taken l dC dI cB cI cJ cZ ra _ M49 (400 : Int32) M50 hq51) (cwV 1 hts gX12_book_X12_taken rfl rfl rfl (by decide +kernel) ⟨Nat.le_of_ble_eq_true rfl, Nat.le_of_ble_eq_true rfl⟩) hK hP (fun _ _ _ _ => mPw_bl) (fun U hU hW => ⟨by rw [hU], by rw [hU]; exact hP, va_K.moved hW.alike hK, hD.weaken (fun _ _ _ _ => trivial)⟩) rfl rfl hl.1 rfl (lv_room (Nat.le_of_ble_eq_true rfl)) dX12_book_22 ⟨Nat.le_refl _, Nat.le_refl _⟩) hD hS hA (fun H locs hP hD hS => ?_)
    refine lv_aload_n hx hb dX12_book_25 rfl (lv_at hl 0 rfl) ?_
    refine lv_iconst (v := 0) hx hb dX12_book_26 (by decide) ?_
    obtain ⟨M52, eM52, hf⟩ := bd1_e hf
    refine km_put hx hb hts hin hown hK hP hD hS 15 (by decide) k_fieldLink_RX12_171__KeyLettersModel___fault___I_ rfl (ty := .int) (v := .int (0 : Int32)) (by decide +kernel) rfl rfl (M1 := M52) (by rw [eM52]; exact mo_15 cB cI cJ cZ ra M50 (0 : Int32)) dX12_book_27 (fun H locs hP hD hS => ?_)
    refine lv_aload_n hx hb dX12_book_30 rfl (lv_at hl 0 rfl) ?_
    refine lv_iconst (v := 0) hx hb dX12_book_31 (by decide) ?_
    obtain ⟨M53, eM53, hf⟩ := bd1_e hf
    refine km_put hx hb hts hin hown hK hP hD hS 36 (by decide) k_fieldLink_RX12_404__KeyLettersModel___toldMany___I_ rfl (ty := .int) (v := .int (0 : Int32)) (by decide +kernel) rfl rfl (M1 := M53) (by rw [eM53]; exact mo_36 cB cI cJ cZ ra M52 (0 : Int32)) dX12_book_32 (fun H locs hP hD hS => ?_)
    refine lv_aload_n hx hb dX12_book_35 rfl (lv_at hl 0 rfl) ?_
    obtain ⟨M54, hq55, hf⟩ := bo_e hf
    refine km_callwv (M1 := M54) (km_run (As := []) (rest := []) ⟨hx, hb, hml, hown, hts⟩ (c_X12_next l dC dI cB cI cJ cZ ra _ M53  M54 hq55) (cwV 0 hts gX12_book_X12_next rfl rfl rfl (by decide +kernel) ⟨Nat.le_of_ble_eq_true rfl, Nat.le_of_ble_eq_true rfl⟩) hK hP (fun _ _ _ _ => mPw_bl) (fun U hU hW => ⟨by rw [hU], by rw [hU]; exact hP, va_K.moved hW.alike hK, hD.weaken (fun _ _ _ _ => trivial)⟩) rfl rfl hl.1 rfl (lv_room (Nat.le_of_ble_eq_true rfl)) dX12_book_36 ⟨Nat.le_refl _, Nat.le_refl _⟩) hD hS hA (fun H locs hP hD hS => ?_)
    exact h_39 a0 M54 ls _ _ hl hP hD hS hf
  · have hf := (if_pos hb56).symm.trans hf
    refine lv_sipush (v := -1000) hx hb dX12_book_14 (by decide) ?_
    have hf := Option.some.inj hf
    subst hf
    exact m_iret hx hb hr hlocks hP hK hD hS dX12_book_17

