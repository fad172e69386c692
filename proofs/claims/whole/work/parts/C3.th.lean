/-! throws: what the class's own NoSuchElementException asks -/
def kTh (A : Nat → Prop) (U : State) (H : Heap) : Prop := va_Nw (.castable "java/util/NoSuchElementException" "java/util/NoSuchElementException") U ∧ vx_Zq Bundle.tN "UNASSIGNED_STACK" Bundle.steD A U H ∧ vx_Zq Bundle.tN "SUPPRESSED_SENTINEL" Bundle.listD A U H
theorem kTh.bl {A : Nat → Prop} {as : Array Value} {U : State} {g : JFrame} {mk : MethodId} (h : kTh A U U.heap) : kTh A (U.calling g mk as) (U.calling g mk as).heap := ⟨va_Nw.same rfl rfl h.1, vx_Zq.moved (u := U) (U := U.calling g mk as) (Vm.Alike.refl U.vm) h.2.1, vx_Zq.moved (u := U) (U := U.calling g mk as) (Vm.Alike.refl U.vm) h.2.2⟩
theorem kTh.at {A B : Nat → Prop} {s : State} {H : Heap} {locs : List Loc} (h : kTh A s s.heap) (hS : va_S A s.heap H locs) (hAB : ∀ q, B q → A q) : ∀ U : State, U.heap = H → s.WarmedH U.vm → kTh B U U.heap := fun U hU hW => by
  rw [hU]
  exact ⟨va_Nw.warmC hW h.1, vx_Zq.moved hW.alike ((h.2.1.kept hS.2.1).narrow hAB), vx_Zq.moved hW.alike ((h.2.2.kept hS.2.1).narrow hAB)⟩
abbrev xT : String → State → State → Prop := vx_X (fun _ : Unit => True) (fun E _ _ => E = "java/util/NoSuchElementException") kF
abbrev x0 : String → State → State → Prop := vx_X (fun _ : Unit => False) (fun _ _ _ => True) kF
abbrev qN : Array Value → State → Outcome → State → Prop := va_Qi (fun (_ : Int32) (_ : Unit) => False) (fun _ _ => True) kF

theorem fV_machine_of {a0 a1 v : Int32} {K C O S N : kD} (h : f_X11_machine a0 a1 O S = some (some v)) : fV_machine a0 a1 K C O S N = some v := by
  have key : fV_machine a0 a1 K C O S N = (f_X11_machine a0 a1 O S).bind id := by
    unfold fV_machine f_X11_machine
    by_cases h0 : f_X3_hasMachine a0 O = 0
    · rw [if_pos h0, if_pos h0]; rfl
    rw [if_neg h0, if_neg h0]
    by_cases h1 : a1 = 0
    · rw [if_pos h1, if_pos h1]
      by_cases h9 : a0 < 0 ∨ 6 ≤ a0.toNatClampNeg
      · rw [if_pos h9, if_pos h9]; rfl
      · rw [if_neg h9, if_neg h9]; rfl
    rw [if_neg h1, if_neg h1]
    by_cases h2 : a1 = 1
    · rw [if_pos h2, if_pos h2]
      by_cases h9 : a0 < 0 ∨ 6 ≤ a0.toNatClampNeg
      · rw [if_pos h9, if_pos h9]; rfl
      · rw [if_neg h9, if_neg h9]; rfl
    rw [if_neg h2, if_neg h2]
    by_cases h3 : a1 = 2
    · rw [if_pos h3, if_pos h3]
      by_cases h9 : f_X9_isHeld a0 S = 0
      · rw [if_pos h9, if_pos h9]; rfl
      · rw [if_neg h9, if_neg h9]; rfl
    rw [if_neg h3, if_neg h3]
    by_cases h4 : a1 = 3
    · rw [if_pos h4, if_pos h4]
      by_cases h9 : a0 < 0 ∨ 6 ≤ a0.toNatClampNeg
      · rw [if_pos h9, if_pos h9]; rfl
      · rw [if_neg h9, if_neg h9]; rfl
    rw [if_neg h4, if_neg h4]
    by_cases h5 : a1 = 4
    · rw [if_pos h5, if_pos h5]
      by_cases h9 : a0 < 0 ∨ 6 ≤ a0.toNatClampNeg
      · rw [if_pos h9, if_pos h9]; rfl
      · rw [if_neg h9, if_neg h9]; rfl
    rw [if_neg h5, if_neg h5]
    by_cases h6 : a1 = 5
    · rw [if_pos h6, if_pos h6]
      cases f_X9_phrasesAble a0 S O <;> rfl
    rw [if_neg h6, if_neg h6]
    by_cases h7 : a1 = 6
    · rw [if_pos h7, if_pos h7]
      cases f_X9_owedBy a0 S <;> rfl
    rw [if_neg h7, if_neg h7]
    by_cases h8 : a1 = 7
    · rw [if_pos h8, if_pos h8]
      cases f_X9_owedTo a0 S <;> rfl
    rw [if_neg h8, if_neg h8]
    rfl
  rw [key, h]; rfl
theorem f_machine_T {a0 a1 : Int32} {O S : kD} (h : f_X11_machine a0 a1 O S = some none) : f_X3_hasMachine a0 O = 0 ∨ (¬ f_X3_hasMachine a0 O = 0 ∧ (a1.toInt < 0 ∨ 7 < a1.toInt)) := by
  unfold f_X11_machine at h
  by_cases h0 : f_X3_hasMachine a0 O = 0
  · exact Or.inl h0
  rw [if_neg h0] at h
  by_cases h1 : a1 = 0
  · rw [if_pos h1] at h
    by_cases h9 : a0 < 0 ∨ 6 ≤ a0.toNatClampNeg
    · rw [if_pos h9] at h; cases h
    · rw [if_neg h9] at h; cases h
  rw [if_neg h1] at h
  by_cases h2 : a1 = 1
  · rw [if_pos h2] at h
    by_cases h9 : a0 < 0 ∨ 6 ≤ a0.toNatClampNeg
    · rw [if_pos h9] at h; cases h
    · rw [if_neg h9] at h; cases h
  rw [if_neg h2] at h
  by_cases h3 : a1 = 2
  · rw [if_pos h3] at h
    by_cases h9 : f_X9_isHeld a0 S = 0
    · rw [if_pos h9] at h; cases h
    · rw [if_neg h9] at h; cases h
  rw [if_neg h3] at h
  by_cases h4 : a1 = 3
  · rw [if_pos h4] at h
    by_cases h9 : a0 < 0 ∨ 6 ≤ a0.toNatClampNeg
    · rw [if_pos h9] at h; cases h
    · rw [if_neg h9] at h; cases h
  rw [if_neg h4] at h
  by_cases h5 : a1 = 4
  · rw [if_pos h5] at h
    by_cases h9 : a0 < 0 ∨ 6 ≤ a0.toNatClampNeg
    · rw [if_pos h9] at h; cases h
    · rw [if_neg h9] at h; cases h
  rw [if_neg h5] at h
  by_cases h6 : a1 = 5
  · rw [if_pos h6] at h
    obtain ⟨v, -, h⟩ := bo_e h
    cases h
  rw [if_neg h6] at h
  by_cases h7 : a1 = 6
  · rw [if_pos h7] at h
    obtain ⟨v, -, h⟩ := bo_e h
    cases h
  rw [if_neg h7] at h
  by_cases h8 : a1 = 7
  · rw [if_pos h8] at h
    obtain ⟨v, -, h⟩ := bo_e h
    cases h
  rw [if_neg h8] at h
  refine Or.inr ⟨h0, ?_⟩
  by_cases hr : a1.toInt < 0 ∨ 7 < a1.toInt
  · exact hr
  exfalso
  obtain ⟨j, hj, rfl⟩ : ∃ j : Nat, j < 8 ∧ a1 = nI j := ⟨a1.toInt.toNat, by omega, by rw [← Int32.toInt_inj, nI_toInt (by omega)]; omega⟩
  have hc : j = 0 ∨ j = 1 ∨ j = 2 ∨ j = 3 ∨ j = 4 ∨ j = 5 ∨ j = 6 ∨ j = 7 := by omega
  rcases hc with rfl | rfl | rfl | rfl | rfl | rfl | rfl | rfl
  · exact h1 rfl
  · exact h2 rfl
  · exact h3 rfl
  · exact h4 rfl
  · exact h5 rfl
  · exact h6 rfl
  · exact h7 rfl
  · exact h8 rfl
theorem fV_part_of {a0 a1 v : Int32} {K C O S N : kD} (h : f_X11_part a0 a1 O S = some (some v)) : fV_part a0 a1 K C O S N = some v := by
  unfold f_X11_part at h
  obtain ⟨v1, e1, h⟩ := bo_e h
  unfold fV_part gV_part_41 gV_part_73 bd1
  rw [e1]
  by_cases h0 : f_X3_hasMachine a0 O = 0
  · rw [if_pos h0] at h; cases h
  rw [if_neg h0] at h
  by_cases h1 : a1 < 0
  · rw [if_pos h1] at h; cases h
  rw [if_neg h1] at h
  by_cases h2 : (1 : Int32) < a1
  · rw [if_pos h2] at h; cases h
  rw [if_neg h2] at h
  by_cases h3 : v1 ≤ 0
  · rw [if_pos h3] at h; cases h
  rw [if_neg h3] at h
  have h4 : (0 : Int32) < v1 := Int32.not_le.mp h3
  by_cases h5 : a0 < 0 ∨ 6 ≤ a0.toNatClampNeg
  · rw [if_pos h5] at h; cases h
  rw [if_neg h5] at h
  show (if f_X3_hasMachine a0 O = 0 then none else if a1 < 0 then none else if (1 : Int32) < a1 then none else if 0 < v1 then _ else none) = some v
  rw [if_neg h0, if_neg h1, if_neg h2, if_pos h4, if_neg h5]
  by_cases h6 : a1 = 0
  · rw [if_pos h6] at h
    obtain ⟨v2, e2, h⟩ := bo_e h
    by_cases h7 : v2 = 0
    · rw [if_pos h7] at h; cases h
    rw [if_neg h7] at h
    rw [if_pos h6, e2]
    show (if v2 = 0 then none else _) = _
    rw [if_neg h7]
    exact Option.some.inj h
  · rw [if_neg h6] at h
    obtain ⟨v2, e2, h⟩ := bo_e h
    by_cases h7 : v2 = 0
    · rw [if_pos h7] at h; cases h
    rw [if_neg h7] at h
    rw [if_neg h6, e2]
    show (if v2 = 0 then none else _) = _
    rw [if_neg h7]
    exact Option.some.inj h
theorem f_part_T {a0 a1 : Int32} {O S : kD} (h : f_X11_part a0 a1 O S = some none) : ∃ v, f_X11_sumOf 6 (S.1 7) = some v ∧ (f_X3_hasMachine a0 O = 0 ∨ (¬ f_X3_hasMachine a0 O = 0 ∧ (a1 < 0 ∨ (¬ a1 < 0 ∧ ((1 : Int32) < a1 ∨ (¬ (1 : Int32) < a1 ∧ ¬ (0 : Int32) < v)))))) := by
  unfold f_X11_part at h
  obtain ⟨v1, e1, h⟩ := bo_e h
  refine ⟨v1, e1, ?_⟩
  by_cases h0 : f_X3_hasMachine a0 O = 0
  · exact Or.inl h0
  rw [if_neg h0] at h
  refine Or.inr ⟨h0, ?_⟩
  by_cases h1 : a1 < 0
  · exact Or.inl h1
  rw [if_neg h1] at h
  refine Or.inr ⟨h1, ?_⟩
  by_cases h2 : (1 : Int32) < a1
  · exact Or.inl h2
  rw [if_neg h2] at h
  refine Or.inr ⟨h2, ?_⟩
  by_cases h3 : v1 ≤ 0
  · exact Int32.not_lt.mpr h3
  rw [if_neg h3] at h
  by_cases h5 : a0 < 0 ∨ 6 ≤ a0.toNatClampNeg
  · rw [if_pos h5] at h; cases h
  rw [if_neg h5] at h
  by_cases h6 : a1 = 0
  · rw [if_pos h6] at h
    obtain ⟨v2, e2, h⟩ := bo_e h
    by_cases h7 : v2 = 0
    · rw [if_pos h7] at h; cases h
    · rw [if_neg h7] at h; cases h
  · rw [if_neg h6] at h
    obtain ⟨v2, e2, h⟩ := bo_e h
    by_cases h7 : v2 = 0
    · rw [if_pos h7] at h; cases h
    · rw [if_neg h7] at h; cases h

set_option maxHeartbeats 4000000 in
set_option maxRecDepth 100000 in
theorem c_X11_machineT0 (l : Launch) (hst : l.stackTraces = false) (dC : Nat → ClassId) (dI : Nat → Nat → Nat) (cs : Nat → ClassId) (ad : Nat → Nat) (Z : Nat → Nat → Nat → Nat) (K O S N : kD) (a0 a1 : Int32) (hm : f_X3_hasMachine a0 O = 0) : vx_Met l yX11_machine wsX11_machine (rm_s 8 1 6) (va_Pc [.ref (Z 0 0 0), .int a0, .int a1] (fun U => cPr dC dI cs (wX11 cs ad (Z 0 0) (Z 1 0 0) (Z 2 0 0) (Z 3 0 0) (Z 4 0 0) (Z 5 0 0) (Z 6 0 0) (Z 7 0 0) (Z 8 0 0) (Z 9 0 0) (Z 10 0 0) (Z 11 0 0) (Z 12 0 0) (Z 13 0 0) (Z 14 0 0) (Z 18 0 0) K ++ (wX7 cs ad (Z 3 0) (Z 20 0 0) (Z 21 0 0) (Z 22 0 0) zD ++ (wX3 cs ad (Z 20 0) O ++ (wX9 cs ad (Z 21 0) S ++ wX8 cs ad (Z 22 0) N)))) U ∧ kTh kF U U.heap)) (qN) (xT) 1 6 (kF) := by
  refine vx_ofW (cc := cX11_machine) (maxL := 5) (ret := (some .int)) (by decide) rfl ?_
  intro p e s m args below meth c s₁ B hml hnoh hv
  obtain ⟨hav, ⟨hP, hK, hN⟩, hTh⟩ := hv
  have hx := B.exec
  have hb := B.bytes
  have hr := B.returns
  have hts := atoms_spec (ws := wsX11_machine) B.pre
  have hown : s.vm.findClass RX11 = some m.cls := findClass_of_methodNamed B.named
  have hlocks := B.notSynchronized
  have hinX3 : ∀ w ∈ wsX30, w ∈ wsX11_machine := fun w h => List.mem_cons_of_mem _ (List.mem_append_left _ (List.mem_append_right _ h))
  have hinX9 : ∀ w ∈ wsX90, w ∈ wsX11_machine := fun w h => List.mem_cons_of_mem _ (List.mem_append_left _ (List.mem_append_left _ (List.mem_append_right _ h)))
  have hinX7 : ∀ w ∈ wsX70, w ∈ wsX11_machine := fun w h => List.mem_cons_of_mem _ (List.mem_append_left _ (List.mem_append_left _ (List.mem_append_left _ (List.mem_append_right _ h))))
  have hinX11 : ∀ w ∈ wsX110, w ∈ wsX11_machine := fun w h => List.mem_cons_of_mem _ (List.mem_append_left _ (List.mem_append_left _ (List.mem_append_left _ (List.mem_append_left _ (List.mem_append_right _ h)))))
  have hS : va_S kF s.heap s.heap [] := va_S.rf
  have hat : ∀ w ∈ (vx_at0 RX11 155 "java/util/NoSuchElementException" ["java/lang/RuntimeException", "java/lang/Exception"]), w.before args s = true := vx_hat (B := [.castable "java/util/NoSuchElementException" "java/util/NoSuchElementException"]) (fun w h => hts w (List.mem_cons_of_mem _ (List.mem_append_right _ h))) (by decide +kernel) (vx_c (va_Nw.use rfl hTh.1) vx_n)
  have k1 := hts (.fieldLink RX11 23 "KeyLetters" "scene" "LKeyLetters$Scene;") (by decide +kernel)
  have k2 := hts (.initialized RX3) (by decide +kernel)
  have k3 := hts (.instanceMethod yX3_hasMachine) (by decide +kernel)
  have k4 := hts (.selects RX3 yX3_hasMachine yX3_hasMachine) (by decide +kernel)
  have k5 := hts (.classLink RX11 153 "java/util/NoSuchElementException") (by decide +kernel)
  have k6 := hts (.initialized "java/util/NoSuchElementException") (by decide +kernel)
  have hl := lv_entry ([.ref (Z 0 0 0), .int a0, .int a1]) (n := 5) (Nat.le_of_ble_eq_true rfl)
  rw [show entryFrame m args 5 = entryFrame m ([.ref (Z 0 0 0), .int a0, .int a1] : List Value).toArray 5 from by rw [hav], lg_entry_eq]
  generalize (lg_sl ([.ref (Z 0 0 0), .int a0, .int a1]) ++ List.replicate (5 - (lg_sl ([.ref (Z 0 0 0), .int a0, .int a1])).length) Slot.unset).toArray = ls at hl ⊢
  have hl : lv_has ls 5 [(0, .ref (Z 0 0 0)), (1, .int a0), (2, .int a1)] := hl
  refine lv_aload_n hx hb dX11_machine_0 rfl (lv_at hl 0 rfl) ?_
  refine va_get (D := (dC, dI)) (ci := 11) (C := RX11) (T := TX11) (N := 19) hx hb hts hinX11 hown hK hP 0 rfl rfl 3 (by decide) (v := .ref (Z 3 0 0)) k1 (fun _ h9 => h9) rfl dX11_machine_1 ?_
  refine va_getN (D := (dC, dI)) (ci := 8) (C := RX7) (T := TX7) (N := 3) hx hb hts hinX7 hown hK hP 1 rfl rfl 0 (by decide) (v := .ref (Z 20 0 0)) (va_Nw.use rfl (hN _ (List.mem_of_getElem? (i := 50) rfl))) (fun _ h9 => h9) rfl dX11_machine_4 ?_
  refine lv_astore_n (nL := 5) (lv' := [(3, .ref (Z 20 0 0)), (0, .ref (Z 0 0 0)), (1, .int a0), (2, .int a1)]) hx hb dX11_machine_7 rfl hl (by decide) rfl (fun ls hl => ?_)
  refine lv_aload_n hx hb dX11_machine_8 rfl (lv_at hl 1 rfl) ?_
  refine va_get (D := (dC, dI)) (ci := 11) (C := RX11) (T := TX11) (N := 19) hx hb hts hinX11 hown hK hP 0 rfl rfl 3 (by decide) (v := .ref (Z 3 0 0)) k1 (fun _ h9 => h9) rfl dX11_machine_9 ?_
  refine va_getN (D := (dC, dI)) (ci := 8) (C := RX7) (T := TX7) (N := 3) hx hb hts hinX7 hown hK hP 1 rfl rfl 1 (by decide) (v := .ref (Z 21 0 0)) (va_Nw.use rfl (hN _ (List.mem_of_getElem? (i := 51) rfl))) (fun _ h9 => h9) rfl dX11_machine_12 ?_
  refine lv_astore (nL := 5) (lv' := [(4, .ref (Z 21 0 0)), (3, .ref (Z 20 0 0)), (0, .ref (Z 0 0 0)), (1, .int a0), (2, .int a1)]) hx hb dX11_machine_15 hl (by decide) rfl (fun ls hl => ?_)
  refine lv_aload_n hx hb dX11_machine_17 rfl (lv_at hl 1 rfl) ?_
  refine lv_iload_n hx hb dX11_machine_18 rfl (lv_at hl 3 rfl) ?_
  refine ko_call (v := some (.int (f_X3_hasMachine a0 O))) (va_runVN (As := [.int a0]) (rest := []) ⟨hx, hb, hml, hown, hts⟩ (c_X3_hasMachine l dC dI cs ad (Z 20 0) O a0 _ rfl) ⟨va_cnB 1 hts gX11_machine_X3_hasMachine_n149 rfl rfl rfl (hN _ (List.mem_of_getElem? (i := 93) rfl)) k2 (by decide +kernel) ⟨Nat.le_of_ble_eq_true rfl, Nat.le_of_ble_eq_true rfl⟩, k3, k4⟩ ⟨fun a U g mk q => ⟨q.1, (fun _ _ _ _ => cPr_bl) a U g mk q.2⟩, va_recv hK hP (ci := 4) (q0 := 2) rfl rfl, fun U hU hW => ⟨rfl, ⟨by rw [hU]; exact (hP.sub (ws' := ww_X3_hasMachine cs ad (Z 20 0) O) [2, 3, 4, 5, 6, 7, 8, 9] rfl), va_K.moved hW.alike hK, kN_warm hW hN⟩⟩⟩ rfl rfl hl.1 rfl (lv_room (Nat.le_of_ble_eq_true rfl)) dX11_machine_19 ⟨(by first | exact Nat.le_refl _ | exact Nat.zero_le _ | exact Nat.le_of_ble_eq_true rfl | (show 0 + _ ≤ 200; omega)), (by first | exact Nat.le_refl _ | exact Nat.zero_le _ | exact Nat.le_of_ble_eq_true rfl | (show 0 + _ ≤ 200; omega))⟩) ?_
  refine kt_v (show (.int (f_X3_hasMachine a0 O) : Value) = .int 0 from congrArg Value.int hm) ?_
  refine lv_if_ne (tgt := 33) hx hb dX11_machine_22 (by decide) (fun h => absurd h (fun z => z rfl)) (fun _ => ?_)
  refine vx_throw0 (ik := 153) (ic := 155) (cls := "java/util/NoSuchElementException") (names := ["java/lang/RuntimeException", "java/lang/Exception"]) hx hb hst hown (by decide +kernel) (by decide +kernel) k5 k6 hat (by decide +kernel) hTh.2.1 hTh.2.2 hS (by rw [hml]; exact hl.1) dX11_machine_25 dX11_machine_28 dX11_machine_29 dX11_machine_32 (fun x h => (hnoh x h).elim) (Nat.le_of_ble_eq_true rfl) (Nat.le_of_ble_eq_true rfl) (Nat.le_of_ble_eq_true rfl) (Nat.le_of_ble_eq_true rfl) hlocks (fun t hv h1 h2 => ⟨(), trivial, rfl, h1, fun q hq _ => h2 q hq⟩) (fun _ h => nomatch h) (Nat.le_of_ble_eq_true rfl) (Nat.le_of_ble_eq_true rfl)

set_option maxHeartbeats 4000000 in
set_option maxRecDepth 100000 in
theorem c_X11_machineT1 (l : Launch) (hst : l.stackTraces = false) (dC : Nat → ClassId) (dI : Nat → Nat → Nat) (cs : Nat → ClassId) (ad : Nat → Nat) (Z : Nat → Nat → Nat → Nat) (K O S N : kD) (a0 a1 : Int32) (hm : ¬ f_X3_hasMachine a0 O = 0) (hw : a1.toInt < 0 ∨ 7 < a1.toInt) : vx_Met l yX11_machine wsX11_machine (rm_s 8 1 6) (va_Pc [.ref (Z 0 0 0), .int a0, .int a1] (fun U => cPr dC dI cs (wX11 cs ad (Z 0 0) (Z 1 0 0) (Z 2 0 0) (Z 3 0 0) (Z 4 0 0) (Z 5 0 0) (Z 6 0 0) (Z 7 0 0) (Z 8 0 0) (Z 9 0 0) (Z 10 0 0) (Z 11 0 0) (Z 12 0 0) (Z 13 0 0) (Z 14 0 0) (Z 18 0 0) K ++ (wX7 cs ad (Z 3 0) (Z 20 0 0) (Z 21 0 0) (Z 22 0 0) zD ++ (wX3 cs ad (Z 20 0) O ++ (wX9 cs ad (Z 21 0) S ++ wX8 cs ad (Z 22 0) N)))) U ∧ kTh kF U U.heap)) (qN) (xT) 1 6 (kF) := by
  refine vx_ofW (cc := cX11_machine) (maxL := 5) (ret := (some .int)) (by decide) rfl ?_
  intro p e s m args below meth c s₁ B hml hnoh hv
  obtain ⟨hav, ⟨hP, hK, hN⟩, hTh⟩ := hv
  have hx := B.exec
  have hb := B.bytes
  have hr := B.returns
  have hts := atoms_spec (ws := wsX11_machine) B.pre
  have hown : s.vm.findClass RX11 = some m.cls := findClass_of_methodNamed B.named
  have hlocks := B.notSynchronized
  have hinX3 : ∀ w ∈ wsX30, w ∈ wsX11_machine := fun w h => List.mem_cons_of_mem _ (List.mem_append_left _ (List.mem_append_right _ h))
  have hinX9 : ∀ w ∈ wsX90, w ∈ wsX11_machine := fun w h => List.mem_cons_of_mem _ (List.mem_append_left _ (List.mem_append_left _ (List.mem_append_right _ h)))
  have hinX7 : ∀ w ∈ wsX70, w ∈ wsX11_machine := fun w h => List.mem_cons_of_mem _ (List.mem_append_left _ (List.mem_append_left _ (List.mem_append_left _ (List.mem_append_right _ h))))
  have hinX11 : ∀ w ∈ wsX110, w ∈ wsX11_machine := fun w h => List.mem_cons_of_mem _ (List.mem_append_left _ (List.mem_append_left _ (List.mem_append_left _ (List.mem_append_left _ (List.mem_append_right _ h)))))
  have hS : va_S kF s.heap s.heap [] := va_S.rf
  have hat : ∀ w ∈ (vx_at0 RX11 155 "java/util/NoSuchElementException" ["java/lang/RuntimeException", "java/lang/Exception"]), w.before args s = true := vx_hat (B := [.castable "java/util/NoSuchElementException" "java/util/NoSuchElementException"]) (fun w h => hts w (List.mem_cons_of_mem _ (List.mem_append_right _ h))) (by decide +kernel) (vx_c (va_Nw.use rfl hTh.1) vx_n)
  have k1 := hts (.fieldLink RX11 23 "KeyLetters" "scene" "LKeyLetters$Scene;") (by decide +kernel)
  have k2 := hts (.initialized RX3) (by decide +kernel)
  have k3 := hts (.instanceMethod yX3_hasMachine) (by decide +kernel)
  have k4 := hts (.selects RX3 yX3_hasMachine yX3_hasMachine) (by decide +kernel)
  have k5 := hts (.classLink RX11 153 "java/util/NoSuchElementException") (by decide +kernel)
  have k6 := hts (.initialized "java/util/NoSuchElementException") (by decide +kernel)
  have hl := lv_entry ([.ref (Z 0 0 0), .int a0, .int a1]) (n := 5) (Nat.le_of_ble_eq_true rfl)
  rw [show entryFrame m args 5 = entryFrame m ([.ref (Z 0 0 0), .int a0, .int a1] : List Value).toArray 5 from by rw [hav], lg_entry_eq]
  generalize (lg_sl ([.ref (Z 0 0 0), .int a0, .int a1]) ++ List.replicate (5 - (lg_sl ([.ref (Z 0 0 0), .int a0, .int a1])).length) Slot.unset).toArray = ls at hl ⊢
  have hl : lv_has ls 5 [(0, .ref (Z 0 0 0)), (1, .int a0), (2, .int a1)] := hl
  refine lv_aload_n hx hb dX11_machine_0 rfl (lv_at hl 0 rfl) ?_
  refine va_get (D := (dC, dI)) (ci := 11) (C := RX11) (T := TX11) (N := 19) hx hb hts hinX11 hown hK hP 0 rfl rfl 3 (by decide) (v := .ref (Z 3 0 0)) k1 (fun _ h9 => h9) rfl dX11_machine_1 ?_
  refine va_getN (D := (dC, dI)) (ci := 8) (C := RX7) (T := TX7) (N := 3) hx hb hts hinX7 hown hK hP 1 rfl rfl 0 (by decide) (v := .ref (Z 20 0 0)) (va_Nw.use rfl (hN _ (List.mem_of_getElem? (i := 50) rfl))) (fun _ h9 => h9) rfl dX11_machine_4 ?_
  refine lv_astore_n (nL := 5) (lv' := [(3, .ref (Z 20 0 0)), (0, .ref (Z 0 0 0)), (1, .int a0), (2, .int a1)]) hx hb dX11_machine_7 rfl hl (by decide) rfl (fun ls hl => ?_)
  refine lv_aload_n hx hb dX11_machine_8 rfl (lv_at hl 1 rfl) ?_
  refine va_get (D := (dC, dI)) (ci := 11) (C := RX11) (T := TX11) (N := 19) hx hb hts hinX11 hown hK hP 0 rfl rfl 3 (by decide) (v := .ref (Z 3 0 0)) k1 (fun _ h9 => h9) rfl dX11_machine_9 ?_
  refine va_getN (D := (dC, dI)) (ci := 8) (C := RX7) (T := TX7) (N := 3) hx hb hts hinX7 hown hK hP 1 rfl rfl 1 (by decide) (v := .ref (Z 21 0 0)) (va_Nw.use rfl (hN _ (List.mem_of_getElem? (i := 51) rfl))) (fun _ h9 => h9) rfl dX11_machine_12 ?_
  refine lv_astore (nL := 5) (lv' := [(4, .ref (Z 21 0 0)), (3, .ref (Z 20 0 0)), (0, .ref (Z 0 0 0)), (1, .int a0), (2, .int a1)]) hx hb dX11_machine_15 hl (by decide) rfl (fun ls hl => ?_)
  refine lv_aload_n hx hb dX11_machine_17 rfl (lv_at hl 1 rfl) ?_
  refine lv_iload_n hx hb dX11_machine_18 rfl (lv_at hl 3 rfl) ?_
  refine ko_call (v := some (.int (f_X3_hasMachine a0 O))) (va_runVN (As := [.int a0]) (rest := []) ⟨hx, hb, hml, hown, hts⟩ (c_X3_hasMachine l dC dI cs ad (Z 20 0) O a0 _ rfl) ⟨va_cnB 1 hts gX11_machine_X3_hasMachine_n149 rfl rfl rfl (hN _ (List.mem_of_getElem? (i := 93) rfl)) k2 (by decide +kernel) ⟨Nat.le_of_ble_eq_true rfl, Nat.le_of_ble_eq_true rfl⟩, k3, k4⟩ ⟨fun a U g mk q => ⟨q.1, (fun _ _ _ _ => cPr_bl) a U g mk q.2⟩, va_recv hK hP (ci := 4) (q0 := 2) rfl rfl, fun U hU hW => ⟨rfl, ⟨by rw [hU]; exact (hP.sub (ws' := ww_X3_hasMachine cs ad (Z 20 0) O) [2, 3, 4, 5, 6, 7, 8, 9] rfl), va_K.moved hW.alike hK, kN_warm hW hN⟩⟩⟩ rfl rfl hl.1 rfl (lv_room (Nat.le_of_ble_eq_true rfl)) dX11_machine_19 ⟨(by first | exact Nat.le_refl _ | exact Nat.zero_le _ | exact Nat.le_of_ble_eq_true rfl | (show 0 + _ ≤ 200; omega)), (by first | exact Nat.le_refl _ | exact Nat.zero_le _ | exact Nat.le_of_ble_eq_true rfl | (show 0 + _ ≤ 200; omega))⟩) ?_
  refine lv_if_ne (tgt := 33) hx hb dX11_machine_22 (by decide) (fun _ => ?_) (fun h => absurd h (hm))
  refine lv_iload_n hx hb dX11_machine_33 rfl (lv_at hl 4 rfl) ?_
  refine lv_tableOut (tgt := 148) hx hb dX11_machine_34 hw (by decide) ?_
  refine vx_throw0 (ik := 153) (ic := 155) (cls := "java/util/NoSuchElementException") (names := ["java/lang/RuntimeException", "java/lang/Exception"]) hx hb hst hown (by decide +kernel) (by decide +kernel) k5 k6 hat (by decide +kernel) hTh.2.1 hTh.2.2 hS (by rw [hml]; exact hl.1) dX11_machine_148 dX11_machine_151 dX11_machine_152 dX11_machine_155 (fun x h => (hnoh x h).elim) (Nat.le_of_ble_eq_true rfl) (Nat.le_of_ble_eq_true rfl) (Nat.le_of_ble_eq_true rfl) (Nat.le_of_ble_eq_true rfl) hlocks (fun t hv h1 h2 => ⟨(), trivial, rfl, h1, fun q hq _ => h2 q hq⟩) (fun _ h => nomatch h) (Nat.le_of_ble_eq_true rfl) (Nat.le_of_ble_eq_true rfl)

set_option maxHeartbeats 4000000 in
set_option maxRecDepth 100000 in
theorem c_X11_partT0 (l : Launch) (hst : l.stackTraces = false) (dC : Nat → ClassId) (dI : Nat → Nat → Nat) (cs : Nat → ClassId) (ad : Nat → Nat) (Z : Nat → Nat → Nat → Nat) (K O S N : kD) (a0 a1 : Int32) (v : Int32) (hsum : f_X11_sumOf 6 (S.1 7) = some v) (hm : f_X3_hasMachine a0 O = 0) : vx_Met l yX11_part wsX11_part (rm_s 8 1 6) (va_Pc [.ref (Z 0 0 0), .int a0, .int a1] (fun U => cPr dC dI cs (wX11 cs ad (Z 0 0) (Z 1 0 0) (Z 2 0 0) (Z 3 0 0) (Z 4 0 0) (Z 5 0 0) (Z 6 0 0) (Z 7 0 0) (Z 8 0 0) (Z 9 0 0) (Z 10 0 0) (Z 11 0 0) (Z 12 0 0) (Z 13 0 0) (Z 14 0 0) (Z 18 0 0) K ++ (wX7 cs ad (Z 3 0) (Z 20 0 0) (Z 21 0 0) (Z 22 0 0) zD ++ (wX3 cs ad (Z 20 0) O ++ (wX9 cs ad (Z 21 0) S ++ wX8 cs ad (Z 22 0) N)))) U ∧ kTh kF U U.heap)) (qN) (xT) 1 6 (kF) := by
  refine vx_ofW (cc := cX11_part) (maxL := 5) (ret := (some .int)) (by decide) rfl ?_
  intro p e s m args below meth c s₁ B hml hnoh hv
  obtain ⟨hav, ⟨hP, hK, hN⟩, hTh⟩ := hv
  have hx := B.exec
  have hb := B.bytes
  have hr := B.returns
  have hts := atoms_spec (ws := wsX11_part) B.pre
  have hown : s.vm.findClass RX11 = some m.cls := findClass_of_methodNamed B.named
  have hlocks := B.notSynchronized
  have hinX3 : ∀ w ∈ wsX30, w ∈ wsX11_part := fun w h => List.mem_cons_of_mem _ (List.mem_append_left _ (List.mem_append_right _ h))
  have hinX9 : ∀ w ∈ wsX90, w ∈ wsX11_part := fun w h => List.mem_cons_of_mem _ (List.mem_append_left _ (List.mem_append_left _ (List.mem_append_right _ h)))
  have hinX7 : ∀ w ∈ wsX70, w ∈ wsX11_part := fun w h => List.mem_cons_of_mem _ (List.mem_append_left _ (List.mem_append_left _ (List.mem_append_left _ (List.mem_append_right _ h))))
  have hinX11 : ∀ w ∈ wsX110, w ∈ wsX11_part := fun w h => List.mem_cons_of_mem _ (List.mem_append_left _ (List.mem_append_left _ (List.mem_append_left _ (List.mem_append_left _ (List.mem_append_right _ h)))))
  have hS : va_S kF s.heap s.heap [] := va_S.rf
  have hat : ∀ w ∈ (vx_at0 RX11 155 "java/util/NoSuchElementException" ["java/lang/RuntimeException", "java/lang/Exception"]), w.before args s = true := vx_hat (B := [.castable "java/util/NoSuchElementException" "java/util/NoSuchElementException"]) (fun w h => hts w (List.mem_cons_of_mem _ (List.mem_append_right _ h))) (by decide +kernel) (vx_c (va_Nw.use rfl hTh.1) vx_n)
  have k1 := hts (.fieldLink RX11 23 "KeyLetters" "scene" "LKeyLetters$Scene;") (by decide +kernel)
  have k2 := hts (.initialized RX3) (by decide +kernel)
  have k3 := hts (.instanceMethod yX3_hasMachine) (by decide +kernel)
  have k4 := hts (.selects RX3 yX3_hasMachine yX3_hasMachine) (by decide +kernel)
  have k5 := hts (.classLink RX11 153 "java/util/NoSuchElementException") (by decide +kernel)
  have k6 := hts (.initialized "java/util/NoSuchElementException") (by decide +kernel)
  have hl := lv_entry ([.ref (Z 0 0 0), .int a0, .int a1]) (n := 5) (Nat.le_of_ble_eq_true rfl)
  rw [show entryFrame m args 5 = entryFrame m ([.ref (Z 0 0 0), .int a0, .int a1] : List Value).toArray 5 from by rw [hav], lg_entry_eq]
  generalize (lg_sl ([.ref (Z 0 0 0), .int a0, .int a1]) ++ List.replicate (5 - (lg_sl ([.ref (Z 0 0 0), .int a0, .int a1])).length) Slot.unset).toArray = ls at hl ⊢
  have hl : lv_has ls 5 [(0, .ref (Z 0 0 0)), (1, .int a0), (2, .int a1)] := hl
  refine lv_aload_n hx hb dX11_part_0 rfl (lv_at hl 0 rfl) ?_
  refine va_get (D := (dC, dI)) (ci := 11) (C := RX11) (T := TX11) (N := 19) hx hb hts hinX11 hown hK hP 0 rfl rfl 3 (by decide) (v := .ref (Z 3 0 0)) k1 (fun _ h9 => h9) rfl dX11_part_1 ?_
  refine va_getN (D := (dC, dI)) (ci := 8) (C := RX7) (T := TX7) (N := 3) hx hb hts hinX7 hown hK hP 1 rfl rfl 1 (by decide) (v := .ref (Z 21 0 0)) (va_Nw.use rfl (hN _ (List.mem_of_getElem? (i := 51) rfl))) (fun _ h9 => h9) rfl dX11_part_4 ?_
  refine va_getN (D := (dC, dI)) (ci := 10) (C := RX9) (T := TX9) (N := 9) hx hb hts hinX9 hown hK hP 10 rfl rfl 7 (by decide) (v := .ref (Z 21 0 7)) (va_Nw.use rfl (hN _ (List.mem_of_getElem? (i := 46) rfl))) (fun _ h9 => h9) rfl dX11_part_7 ?_
  refine ko_call (v := some (.int v)) (va_runS (As := [.ref (Z 21 0 7)]) (rest := []) ⟨hx, hb, hml, hown, hts⟩ (c_X11_sumOf l dC dI cs ad (Z 21 0 7) 6 (S.1 7) v hsum) (va_cwS 1 hts gX11_part_X11_sumOf rfl rfl rfl (by decide +kernel) ⟨Nat.le_of_ble_eq_true rfl, Nat.le_of_ble_eq_true rfl⟩) ⟨fun a U g mk q => ⟨q.1, (fun _ _ _ _ => cPr_bl) a U g mk q.2⟩, fun U hU hW => ⟨rfl, ⟨by rw [hU]; exact (hP.sub (ws' := ww_X11_sumOf cs ad (Z 21 0 7) 6 (S.1 7)) [13] rfl), va_K.moved hW.alike hK, kN_warm hW hN⟩⟩⟩ rfl rfl hl.1 rfl (lv_room (Nat.le_of_ble_eq_true rfl)) dX11_part_10 ⟨(by first | exact Nat.le_refl _ | exact Nat.zero_le _ | exact Nat.le_of_ble_eq_true rfl | (show 0 + _ ≤ 200; omega)), (by first | exact Nat.le_refl _ | exact Nat.zero_le _ | exact Nat.le_of_ble_eq_true rfl | (show 0 + _ ≤ 200; omega))⟩) ?_
  refine lv_istore_n (nL := 5) (lv' := [(3, .int v), (0, .ref (Z 0 0 0)), (1, .int a0), (2, .int a1)]) hx hb dX11_part_13 rfl hl (by decide) rfl (fun ls hl => ?_)
  refine lv_aload_n hx hb dX11_part_14 rfl (lv_at hl 1 rfl) ?_
  refine va_get (D := (dC, dI)) (ci := 11) (C := RX11) (T := TX11) (N := 19) hx hb hts hinX11 hown hK hP 0 rfl rfl 3 (by decide) (v := .ref (Z 3 0 0)) k1 (fun _ h9 => h9) rfl dX11_part_15 ?_
  refine va_getN (D := (dC, dI)) (ci := 8) (C := RX7) (T := TX7) (N := 3) hx hb hts hinX7 hown hK hP 1 rfl rfl 0 (by decide) (v := .ref (Z 20 0 0)) (va_Nw.use rfl (hN _ (List.mem_of_getElem? (i := 50) rfl))) (fun _ h9 => h9) rfl dX11_part_18 ?_
  refine lv_iload_n hx hb dX11_part_21 rfl (lv_at hl 2 rfl) ?_
  refine ko_call (v := some (.int (f_X3_hasMachine a0 O))) (va_runVN (As := [.int a0]) (rest := []) ⟨hx, hb, hml, hown, hts⟩ (c_X3_hasMachine l dC dI cs ad (Z 20 0) O a0 _ rfl) ⟨va_cnB 1 hts gX11_part_X3_hasMachine_n149 rfl rfl rfl (hN _ (List.mem_of_getElem? (i := 93) rfl)) k2 (by decide +kernel) ⟨Nat.le_of_ble_eq_true rfl, Nat.le_of_ble_eq_true rfl⟩, k3, k4⟩ ⟨fun a U g mk q => ⟨q.1, (fun _ _ _ _ => cPr_bl) a U g mk q.2⟩, va_recv hK hP (ci := 4) (q0 := 2) rfl rfl, fun U hU hW => ⟨rfl, ⟨by rw [hU]; exact (hP.sub (ws' := ww_X3_hasMachine cs ad (Z 20 0) O) [2, 3, 4, 5, 6, 7, 8, 9] rfl), va_K.moved hW.alike hK, kN_warm hW hN⟩⟩⟩ rfl rfl hl.1 rfl (lv_room (Nat.le_of_ble_eq_true rfl)) dX11_part_22 ⟨(by first | exact Nat.le_refl _ | exact Nat.zero_le _ | exact Nat.le_of_ble_eq_true rfl | (show 0 + _ ≤ 200; omega)), (by first | exact Nat.le_refl _ | exact Nat.zero_le _ | exact Nat.le_of_ble_eq_true rfl | (show 0 + _ ≤ 200; omega))⟩) ?_
  refine kt_v (show (.int (f_X3_hasMachine a0 O) : Value) = .int 0 from congrArg Value.int hm) ?_
  refine lv_if_eq (tgt := 41) hx hb dX11_part_25 (by decide) (fun _ => ?_) (fun h => absurd (rfl) h)
  refine vx_throw0 (ik := 153) (ic := 155) (cls := "java/util/NoSuchElementException") (names := ["java/lang/RuntimeException", "java/lang/Exception"]) hx hb hst hown (by decide +kernel) (by decide +kernel) k5 k6 hat (by decide +kernel) hTh.2.1 hTh.2.2 hS (by rw [hml]; exact hl.1) dX11_part_41 dX11_part_44 dX11_part_45 dX11_part_48 (fun x h => (hnoh x h).elim) (Nat.le_of_ble_eq_true rfl) (Nat.le_of_ble_eq_true rfl) (Nat.le_of_ble_eq_true rfl) (Nat.le_of_ble_eq_true rfl) hlocks (fun t hv h1 h2 => ⟨(), trivial, rfl, h1, fun q hq _ => h2 q hq⟩) (fun _ h => nomatch h) (Nat.le_of_ble_eq_true rfl) (Nat.le_of_ble_eq_true rfl)

set_option maxHeartbeats 4000000 in
set_option maxRecDepth 100000 in
theorem c_X11_partT1 (l : Launch) (hst : l.stackTraces = false) (dC : Nat → ClassId) (dI : Nat → Nat → Nat) (cs : Nat → ClassId) (ad : Nat → Nat) (Z : Nat → Nat → Nat → Nat) (K O S N : kD) (a0 a1 : Int32) (v : Int32) (hsum : f_X11_sumOf 6 (S.1 7) = some v) (hm : ¬ f_X3_hasMachine a0 O = 0) (hw : a1 < 0) : vx_Met l yX11_part wsX11_part (rm_s 8 1 6) (va_Pc [.ref (Z 0 0 0), .int a0, .int a1] (fun U => cPr dC dI cs (wX11 cs ad (Z 0 0) (Z 1 0 0) (Z 2 0 0) (Z 3 0 0) (Z 4 0 0) (Z 5 0 0) (Z 6 0 0) (Z 7 0 0) (Z 8 0 0) (Z 9 0 0) (Z 10 0 0) (Z 11 0 0) (Z 12 0 0) (Z 13 0 0) (Z 14 0 0) (Z 18 0 0) K ++ (wX7 cs ad (Z 3 0) (Z 20 0 0) (Z 21 0 0) (Z 22 0 0) zD ++ (wX3 cs ad (Z 20 0) O ++ (wX9 cs ad (Z 21 0) S ++ wX8 cs ad (Z 22 0) N)))) U ∧ kTh kF U U.heap)) (qN) (xT) 1 6 (kF) := by
  refine vx_ofW (cc := cX11_part) (maxL := 5) (ret := (some .int)) (by decide) rfl ?_
  intro p e s m args below meth c s₁ B hml hnoh hv
  obtain ⟨hav, ⟨hP, hK, hN⟩, hTh⟩ := hv
  have hx := B.exec
  have hb := B.bytes
  have hr := B.returns
  have hts := atoms_spec (ws := wsX11_part) B.pre
  have hown : s.vm.findClass RX11 = some m.cls := findClass_of_methodNamed B.named
  have hlocks := B.notSynchronized
  have hinX3 : ∀ w ∈ wsX30, w ∈ wsX11_part := fun w h => List.mem_cons_of_mem _ (List.mem_append_left _ (List.mem_append_right _ h))
  have hinX9 : ∀ w ∈ wsX90, w ∈ wsX11_part := fun w h => List.mem_cons_of_mem _ (List.mem_append_left _ (List.mem_append_left _ (List.mem_append_right _ h)))
  have hinX7 : ∀ w ∈ wsX70, w ∈ wsX11_part := fun w h => List.mem_cons_of_mem _ (List.mem_append_left _ (List.mem_append_left _ (List.mem_append_left _ (List.mem_append_right _ h))))
  have hinX11 : ∀ w ∈ wsX110, w ∈ wsX11_part := fun w h => List.mem_cons_of_mem _ (List.mem_append_left _ (List.mem_append_left _ (List.mem_append_left _ (List.mem_append_left _ (List.mem_append_right _ h)))))
  have hS : va_S kF s.heap s.heap [] := va_S.rf
  have hat : ∀ w ∈ (vx_at0 RX11 155 "java/util/NoSuchElementException" ["java/lang/RuntimeException", "java/lang/Exception"]), w.before args s = true := vx_hat (B := [.castable "java/util/NoSuchElementException" "java/util/NoSuchElementException"]) (fun w h => hts w (List.mem_cons_of_mem _ (List.mem_append_right _ h))) (by decide +kernel) (vx_c (va_Nw.use rfl hTh.1) vx_n)
  have k1 := hts (.fieldLink RX11 23 "KeyLetters" "scene" "LKeyLetters$Scene;") (by decide +kernel)
  have k2 := hts (.initialized RX3) (by decide +kernel)
  have k3 := hts (.instanceMethod yX3_hasMachine) (by decide +kernel)
  have k4 := hts (.selects RX3 yX3_hasMachine yX3_hasMachine) (by decide +kernel)
  have k5 := hts (.classLink RX11 153 "java/util/NoSuchElementException") (by decide +kernel)
  have k6 := hts (.initialized "java/util/NoSuchElementException") (by decide +kernel)
  have hl := lv_entry ([.ref (Z 0 0 0), .int a0, .int a1]) (n := 5) (Nat.le_of_ble_eq_true rfl)
  rw [show entryFrame m args 5 = entryFrame m ([.ref (Z 0 0 0), .int a0, .int a1] : List Value).toArray 5 from by rw [hav], lg_entry_eq]
  generalize (lg_sl ([.ref (Z 0 0 0), .int a0, .int a1]) ++ List.replicate (5 - (lg_sl ([.ref (Z 0 0 0), .int a0, .int a1])).length) Slot.unset).toArray = ls at hl ⊢
  have hl : lv_has ls 5 [(0, .ref (Z 0 0 0)), (1, .int a0), (2, .int a1)] := hl
  refine lv_aload_n hx hb dX11_part_0 rfl (lv_at hl 0 rfl) ?_
  refine va_get (D := (dC, dI)) (ci := 11) (C := RX11) (T := TX11) (N := 19) hx hb hts hinX11 hown hK hP 0 rfl rfl 3 (by decide) (v := .ref (Z 3 0 0)) k1 (fun _ h9 => h9) rfl dX11_part_1 ?_
  refine va_getN (D := (dC, dI)) (ci := 8) (C := RX7) (T := TX7) (N := 3) hx hb hts hinX7 hown hK hP 1 rfl rfl 1 (by decide) (v := .ref (Z 21 0 0)) (va_Nw.use rfl (hN _ (List.mem_of_getElem? (i := 51) rfl))) (fun _ h9 => h9) rfl dX11_part_4 ?_
  refine va_getN (D := (dC, dI)) (ci := 10) (C := RX9) (T := TX9) (N := 9) hx hb hts hinX9 hown hK hP 10 rfl rfl 7 (by decide) (v := .ref (Z 21 0 7)) (va_Nw.use rfl (hN _ (List.mem_of_getElem? (i := 46) rfl))) (fun _ h9 => h9) rfl dX11_part_7 ?_
  refine ko_call (v := some (.int v)) (va_runS (As := [.ref (Z 21 0 7)]) (rest := []) ⟨hx, hb, hml, hown, hts⟩ (c_X11_sumOf l dC dI cs ad (Z 21 0 7) 6 (S.1 7) v hsum) (va_cwS 1 hts gX11_part_X11_sumOf rfl rfl rfl (by decide +kernel) ⟨Nat.le_of_ble_eq_true rfl, Nat.le_of_ble_eq_true rfl⟩) ⟨fun a U g mk q => ⟨q.1, (fun _ _ _ _ => cPr_bl) a U g mk q.2⟩, fun U hU hW => ⟨rfl, ⟨by rw [hU]; exact (hP.sub (ws' := ww_X11_sumOf cs ad (Z 21 0 7) 6 (S.1 7)) [13] rfl), va_K.moved hW.alike hK, kN_warm hW hN⟩⟩⟩ rfl rfl hl.1 rfl (lv_room (Nat.le_of_ble_eq_true rfl)) dX11_part_10 ⟨(by first | exact Nat.le_refl _ | exact Nat.zero_le _ | exact Nat.le_of_ble_eq_true rfl | (show 0 + _ ≤ 200; omega)), (by first | exact Nat.le_refl _ | exact Nat.zero_le _ | exact Nat.le_of_ble_eq_true rfl | (show 0 + _ ≤ 200; omega))⟩) ?_
  refine lv_istore_n (nL := 5) (lv' := [(3, .int v), (0, .ref (Z 0 0 0)), (1, .int a0), (2, .int a1)]) hx hb dX11_part_13 rfl hl (by decide) rfl (fun ls hl => ?_)
  refine lv_aload_n hx hb dX11_part_14 rfl (lv_at hl 1 rfl) ?_
  refine va_get (D := (dC, dI)) (ci := 11) (C := RX11) (T := TX11) (N := 19) hx hb hts hinX11 hown hK hP 0 rfl rfl 3 (by decide) (v := .ref (Z 3 0 0)) k1 (fun _ h9 => h9) rfl dX11_part_15 ?_
  refine va_getN (D := (dC, dI)) (ci := 8) (C := RX7) (T := TX7) (N := 3) hx hb hts hinX7 hown hK hP 1 rfl rfl 0 (by decide) (v := .ref (Z 20 0 0)) (va_Nw.use rfl (hN _ (List.mem_of_getElem? (i := 50) rfl))) (fun _ h9 => h9) rfl dX11_part_18 ?_
  refine lv_iload_n hx hb dX11_part_21 rfl (lv_at hl 2 rfl) ?_
  refine ko_call (v := some (.int (f_X3_hasMachine a0 O))) (va_runVN (As := [.int a0]) (rest := []) ⟨hx, hb, hml, hown, hts⟩ (c_X3_hasMachine l dC dI cs ad (Z 20 0) O a0 _ rfl) ⟨va_cnB 1 hts gX11_part_X3_hasMachine_n149 rfl rfl rfl (hN _ (List.mem_of_getElem? (i := 93) rfl)) k2 (by decide +kernel) ⟨Nat.le_of_ble_eq_true rfl, Nat.le_of_ble_eq_true rfl⟩, k3, k4⟩ ⟨fun a U g mk q => ⟨q.1, (fun _ _ _ _ => cPr_bl) a U g mk q.2⟩, va_recv hK hP (ci := 4) (q0 := 2) rfl rfl, fun U hU hW => ⟨rfl, ⟨by rw [hU]; exact (hP.sub (ws' := ww_X3_hasMachine cs ad (Z 20 0) O) [2, 3, 4, 5, 6, 7, 8, 9] rfl), va_K.moved hW.alike hK, kN_warm hW hN⟩⟩⟩ rfl rfl hl.1 rfl (lv_room (Nat.le_of_ble_eq_true rfl)) dX11_part_22 ⟨(by first | exact Nat.le_refl _ | exact Nat.zero_le _ | exact Nat.le_of_ble_eq_true rfl | (show 0 + _ ≤ 200; omega)), (by first | exact Nat.le_refl _ | exact Nat.zero_le _ | exact Nat.le_of_ble_eq_true rfl | (show 0 + _ ≤ 200; omega))⟩) ?_
  refine lv_if_eq (tgt := 41) hx hb dX11_part_25 (by decide) (fun h => absurd h (hm)) (fun _ => ?_)
  refine lv_iload_n hx hb dX11_part_28 rfl (lv_at hl 3 rfl) ?_
  refine lv_if_lt (tgt := 41) hx hb dX11_part_29 (by decide) (fun _ => ?_) (fun h => absurd (hw) h)
  refine vx_throw0 (ik := 153) (ic := 155) (cls := "java/util/NoSuchElementException") (names := ["java/lang/RuntimeException", "java/lang/Exception"]) hx hb hst hown (by decide +kernel) (by decide +kernel) k5 k6 hat (by decide +kernel) hTh.2.1 hTh.2.2 hS (by rw [hml]; exact hl.1) dX11_part_41 dX11_part_44 dX11_part_45 dX11_part_48 (fun x h => (hnoh x h).elim) (Nat.le_of_ble_eq_true rfl) (Nat.le_of_ble_eq_true rfl) (Nat.le_of_ble_eq_true rfl) (Nat.le_of_ble_eq_true rfl) hlocks (fun t hv h1 h2 => ⟨(), trivial, rfl, h1, fun q hq _ => h2 q hq⟩) (fun _ h => nomatch h) (Nat.le_of_ble_eq_true rfl) (Nat.le_of_ble_eq_true rfl)

set_option maxHeartbeats 4000000 in
set_option maxRecDepth 100000 in
theorem c_X11_partT2 (l : Launch) (hst : l.stackTraces = false) (dC : Nat → ClassId) (dI : Nat → Nat → Nat) (cs : Nat → ClassId) (ad : Nat → Nat) (Z : Nat → Nat → Nat → Nat) (K O S N : kD) (a0 a1 : Int32) (v : Int32) (hsum : f_X11_sumOf 6 (S.1 7) = some v) (hm : ¬ f_X3_hasMachine a0 O = 0) (hw : ¬ a1 < 0) (hw1 : (1 : Int32) < a1) : vx_Met l yX11_part wsX11_part (rm_s 8 1 6) (va_Pc [.ref (Z 0 0 0), .int a0, .int a1] (fun U => cPr dC dI cs (wX11 cs ad (Z 0 0) (Z 1 0 0) (Z 2 0 0) (Z 3 0 0) (Z 4 0 0) (Z 5 0 0) (Z 6 0 0) (Z 7 0 0) (Z 8 0 0) (Z 9 0 0) (Z 10 0 0) (Z 11 0 0) (Z 12 0 0) (Z 13 0 0) (Z 14 0 0) (Z 18 0 0) K ++ (wX7 cs ad (Z 3 0) (Z 20 0 0) (Z 21 0 0) (Z 22 0 0) zD ++ (wX3 cs ad (Z 20 0) O ++ (wX9 cs ad (Z 21 0) S ++ wX8 cs ad (Z 22 0) N)))) U ∧ kTh kF U U.heap)) (qN) (xT) 1 6 (kF) := by
  refine vx_ofW (cc := cX11_part) (maxL := 5) (ret := (some .int)) (by decide) rfl ?_
  intro p e s m args below meth c s₁ B hml hnoh hv
  obtain ⟨hav, ⟨hP, hK, hN⟩, hTh⟩ := hv
  have hx := B.exec
  have hb := B.bytes
  have hr := B.returns
  have hts := atoms_spec (ws := wsX11_part) B.pre
  have hown : s.vm.findClass RX11 = some m.cls := findClass_of_methodNamed B.named
  have hlocks := B.notSynchronized
  have hinX3 : ∀ w ∈ wsX30, w ∈ wsX11_part := fun w h => List.mem_cons_of_mem _ (List.mem_append_left _ (List.mem_append_right _ h))
  have hinX9 : ∀ w ∈ wsX90, w ∈ wsX11_part := fun w h => List.mem_cons_of_mem _ (List.mem_append_left _ (List.mem_append_left _ (List.mem_append_right _ h)))
  have hinX7 : ∀ w ∈ wsX70, w ∈ wsX11_part := fun w h => List.mem_cons_of_mem _ (List.mem_append_left _ (List.mem_append_left _ (List.mem_append_left _ (List.mem_append_right _ h))))
  have hinX11 : ∀ w ∈ wsX110, w ∈ wsX11_part := fun w h => List.mem_cons_of_mem _ (List.mem_append_left _ (List.mem_append_left _ (List.mem_append_left _ (List.mem_append_left _ (List.mem_append_right _ h)))))
  have hS : va_S kF s.heap s.heap [] := va_S.rf
  have hat : ∀ w ∈ (vx_at0 RX11 155 "java/util/NoSuchElementException" ["java/lang/RuntimeException", "java/lang/Exception"]), w.before args s = true := vx_hat (B := [.castable "java/util/NoSuchElementException" "java/util/NoSuchElementException"]) (fun w h => hts w (List.mem_cons_of_mem _ (List.mem_append_right _ h))) (by decide +kernel) (vx_c (va_Nw.use rfl hTh.1) vx_n)
  have k1 := hts (.fieldLink RX11 23 "KeyLetters" "scene" "LKeyLetters$Scene;") (by decide +kernel)
  have k2 := hts (.initialized RX3) (by decide +kernel)
  have k3 := hts (.instanceMethod yX3_hasMachine) (by decide +kernel)
  have k4 := hts (.selects RX3 yX3_hasMachine yX3_hasMachine) (by decide +kernel)
  have k5 := hts (.classLink RX11 153 "java/util/NoSuchElementException") (by decide +kernel)
  have k6 := hts (.initialized "java/util/NoSuchElementException") (by decide +kernel)
  have hl := lv_entry ([.ref (Z 0 0 0), .int a0, .int a1]) (n := 5) (Nat.le_of_ble_eq_true rfl)
  rw [show entryFrame m args 5 = entryFrame m ([.ref (Z 0 0 0), .int a0, .int a1] : List Value).toArray 5 from by rw [hav], lg_entry_eq]
  generalize (lg_sl ([.ref (Z 0 0 0), .int a0, .int a1]) ++ List.replicate (5 - (lg_sl ([.ref (Z 0 0 0), .int a0, .int a1])).length) Slot.unset).toArray = ls at hl ⊢
  have hl : lv_has ls 5 [(0, .ref (Z 0 0 0)), (1, .int a0), (2, .int a1)] := hl
  refine lv_aload_n hx hb dX11_part_0 rfl (lv_at hl 0 rfl) ?_
  refine va_get (D := (dC, dI)) (ci := 11) (C := RX11) (T := TX11) (N := 19) hx hb hts hinX11 hown hK hP 0 rfl rfl 3 (by decide) (v := .ref (Z 3 0 0)) k1 (fun _ h9 => h9) rfl dX11_part_1 ?_
  refine va_getN (D := (dC, dI)) (ci := 8) (C := RX7) (T := TX7) (N := 3) hx hb hts hinX7 hown hK hP 1 rfl rfl 1 (by decide) (v := .ref (Z 21 0 0)) (va_Nw.use rfl (hN _ (List.mem_of_getElem? (i := 51) rfl))) (fun _ h9 => h9) rfl dX11_part_4 ?_
  refine va_getN (D := (dC, dI)) (ci := 10) (C := RX9) (T := TX9) (N := 9) hx hb hts hinX9 hown hK hP 10 rfl rfl 7 (by decide) (v := .ref (Z 21 0 7)) (va_Nw.use rfl (hN _ (List.mem_of_getElem? (i := 46) rfl))) (fun _ h9 => h9) rfl dX11_part_7 ?_
  refine ko_call (v := some (.int v)) (va_runS (As := [.ref (Z 21 0 7)]) (rest := []) ⟨hx, hb, hml, hown, hts⟩ (c_X11_sumOf l dC dI cs ad (Z 21 0 7) 6 (S.1 7) v hsum) (va_cwS 1 hts gX11_part_X11_sumOf rfl rfl rfl (by decide +kernel) ⟨Nat.le_of_ble_eq_true rfl, Nat.le_of_ble_eq_true rfl⟩) ⟨fun a U g mk q => ⟨q.1, (fun _ _ _ _ => cPr_bl) a U g mk q.2⟩, fun U hU hW => ⟨rfl, ⟨by rw [hU]; exact (hP.sub (ws' := ww_X11_sumOf cs ad (Z 21 0 7) 6 (S.1 7)) [13] rfl), va_K.moved hW.alike hK, kN_warm hW hN⟩⟩⟩ rfl rfl hl.1 rfl (lv_room (Nat.le_of_ble_eq_true rfl)) dX11_part_10 ⟨(by first | exact Nat.le_refl _ | exact Nat.zero_le _ | exact Nat.le_of_ble_eq_true rfl | (show 0 + _ ≤ 200; omega)), (by first | exact Nat.le_refl _ | exact Nat.zero_le _ | exact Nat.le_of_ble_eq_true rfl | (show 0 + _ ≤ 200; omega))⟩) ?_
  refine lv_istore_n (nL := 5) (lv' := [(3, .int v), (0, .ref (Z 0 0 0)), (1, .int a0), (2, .int a1)]) hx hb dX11_part_13 rfl hl (by decide) rfl (fun ls hl => ?_)
  refine lv_aload_n hx hb dX11_part_14 rfl (lv_at hl 1 rfl) ?_
  refine va_get (D := (dC, dI)) (ci := 11) (C := RX11) (T := TX11) (N := 19) hx hb hts hinX11 hown hK hP 0 rfl rfl 3 (by decide) (v := .ref (Z 3 0 0)) k1 (fun _ h9 => h9) rfl dX11_part_15 ?_
  refine va_getN (D := (dC, dI)) (ci := 8) (C := RX7) (T := TX7) (N := 3) hx hb hts hinX7 hown hK hP 1 rfl rfl 0 (by decide) (v := .ref (Z 20 0 0)) (va_Nw.use rfl (hN _ (List.mem_of_getElem? (i := 50) rfl))) (fun _ h9 => h9) rfl dX11_part_18 ?_
  refine lv_iload_n hx hb dX11_part_21 rfl (lv_at hl 2 rfl) ?_
  refine ko_call (v := some (.int (f_X3_hasMachine a0 O))) (va_runVN (As := [.int a0]) (rest := []) ⟨hx, hb, hml, hown, hts⟩ (c_X3_hasMachine l dC dI cs ad (Z 20 0) O a0 _ rfl) ⟨va_cnB 1 hts gX11_part_X3_hasMachine_n149 rfl rfl rfl (hN _ (List.mem_of_getElem? (i := 93) rfl)) k2 (by decide +kernel) ⟨Nat.le_of_ble_eq_true rfl, Nat.le_of_ble_eq_true rfl⟩, k3, k4⟩ ⟨fun a U g mk q => ⟨q.1, (fun _ _ _ _ => cPr_bl) a U g mk q.2⟩, va_recv hK hP (ci := 4) (q0 := 2) rfl rfl, fun U hU hW => ⟨rfl, ⟨by rw [hU]; exact (hP.sub (ws' := ww_X3_hasMachine cs ad (Z 20 0) O) [2, 3, 4, 5, 6, 7, 8, 9] rfl), va_K.moved hW.alike hK, kN_warm hW hN⟩⟩⟩ rfl rfl hl.1 rfl (lv_room (Nat.le_of_ble_eq_true rfl)) dX11_part_22 ⟨(by first | exact Nat.le_refl _ | exact Nat.zero_le _ | exact Nat.le_of_ble_eq_true rfl | (show 0 + _ ≤ 200; omega)), (by first | exact Nat.le_refl _ | exact Nat.zero_le _ | exact Nat.le_of_ble_eq_true rfl | (show 0 + _ ≤ 200; omega))⟩) ?_
  refine lv_if_eq (tgt := 41) hx hb dX11_part_25 (by decide) (fun h => absurd h (hm)) (fun _ => ?_)
  refine lv_iload_n hx hb dX11_part_28 rfl (lv_at hl 3 rfl) ?_
  refine lv_if_lt (tgt := 41) hx hb dX11_part_29 (by decide) (fun h => absurd h (hw)) (fun _ => ?_)
  refine lv_iload_n hx hb dX11_part_32 rfl (lv_at hl 3 rfl) ?_
  refine lv_iconst (v := 1) hx hb dX11_part_33 (by decide) ?_
  refine lv_icmp_gt (tgt := 41) hx hb dX11_part_34 (by decide) (fun _ => ?_) (fun h => absurd (hw1) h)
  refine vx_throw0 (ik := 153) (ic := 155) (cls := "java/util/NoSuchElementException") (names := ["java/lang/RuntimeException", "java/lang/Exception"]) hx hb hst hown (by decide +kernel) (by decide +kernel) k5 k6 hat (by decide +kernel) hTh.2.1 hTh.2.2 hS (by rw [hml]; exact hl.1) dX11_part_41 dX11_part_44 dX11_part_45 dX11_part_48 (fun x h => (hnoh x h).elim) (Nat.le_of_ble_eq_true rfl) (Nat.le_of_ble_eq_true rfl) (Nat.le_of_ble_eq_true rfl) (Nat.le_of_ble_eq_true rfl) hlocks (fun t hv h1 h2 => ⟨(), trivial, rfl, h1, fun q hq _ => h2 q hq⟩) (fun _ h => nomatch h) (Nat.le_of_ble_eq_true rfl) (Nat.le_of_ble_eq_true rfl)

set_option maxHeartbeats 4000000 in
set_option maxRecDepth 100000 in
theorem c_X11_partT3 (l : Launch) (hst : l.stackTraces = false) (dC : Nat → ClassId) (dI : Nat → Nat → Nat) (cs : Nat → ClassId) (ad : Nat → Nat) (Z : Nat → Nat → Nat → Nat) (K O S N : kD) (a0 a1 : Int32) (v : Int32) (hsum : f_X11_sumOf 6 (S.1 7) = some v) (hm : ¬ f_X3_hasMachine a0 O = 0) (hw : ¬ a1 < 0) (hw1 : ¬ (1 : Int32) < a1) (hv0 : ¬ (0 : Int32) < v) : vx_Met l yX11_part wsX11_part (rm_s 8 1 6) (va_Pc [.ref (Z 0 0 0), .int a0, .int a1] (fun U => cPr dC dI cs (wX11 cs ad (Z 0 0) (Z 1 0 0) (Z 2 0 0) (Z 3 0 0) (Z 4 0 0) (Z 5 0 0) (Z 6 0 0) (Z 7 0 0) (Z 8 0 0) (Z 9 0 0) (Z 10 0 0) (Z 11 0 0) (Z 12 0 0) (Z 13 0 0) (Z 14 0 0) (Z 18 0 0) K ++ (wX7 cs ad (Z 3 0) (Z 20 0 0) (Z 21 0 0) (Z 22 0 0) zD ++ (wX3 cs ad (Z 20 0) O ++ (wX9 cs ad (Z 21 0) S ++ wX8 cs ad (Z 22 0) N)))) U ∧ kTh kF U U.heap)) (qN) (xT) 1 6 (kF) := by
  refine vx_ofW (cc := cX11_part) (maxL := 5) (ret := (some .int)) (by decide) rfl ?_
  intro p e s m args below meth c s₁ B hml hnoh hv
  obtain ⟨hav, ⟨hP, hK, hN⟩, hTh⟩ := hv
  have hx := B.exec
  have hb := B.bytes
  have hr := B.returns
  have hts := atoms_spec (ws := wsX11_part) B.pre
  have hown : s.vm.findClass RX11 = some m.cls := findClass_of_methodNamed B.named
  have hlocks := B.notSynchronized
  have hinX3 : ∀ w ∈ wsX30, w ∈ wsX11_part := fun w h => List.mem_cons_of_mem _ (List.mem_append_left _ (List.mem_append_right _ h))
  have hinX9 : ∀ w ∈ wsX90, w ∈ wsX11_part := fun w h => List.mem_cons_of_mem _ (List.mem_append_left _ (List.mem_append_left _ (List.mem_append_right _ h)))
  have hinX7 : ∀ w ∈ wsX70, w ∈ wsX11_part := fun w h => List.mem_cons_of_mem _ (List.mem_append_left _ (List.mem_append_left _ (List.mem_append_left _ (List.mem_append_right _ h))))
  have hinX11 : ∀ w ∈ wsX110, w ∈ wsX11_part := fun w h => List.mem_cons_of_mem _ (List.mem_append_left _ (List.mem_append_left _ (List.mem_append_left _ (List.mem_append_left _ (List.mem_append_right _ h)))))
  have hS : va_S kF s.heap s.heap [] := va_S.rf
  have hat : ∀ w ∈ (vx_at0 RX11 155 "java/util/NoSuchElementException" ["java/lang/RuntimeException", "java/lang/Exception"]), w.before args s = true := vx_hat (B := [.castable "java/util/NoSuchElementException" "java/util/NoSuchElementException"]) (fun w h => hts w (List.mem_cons_of_mem _ (List.mem_append_right _ h))) (by decide +kernel) (vx_c (va_Nw.use rfl hTh.1) vx_n)
  have k1 := hts (.fieldLink RX11 23 "KeyLetters" "scene" "LKeyLetters$Scene;") (by decide +kernel)
  have k2 := hts (.initialized RX3) (by decide +kernel)
  have k3 := hts (.instanceMethod yX3_hasMachine) (by decide +kernel)
  have k4 := hts (.selects RX3 yX3_hasMachine yX3_hasMachine) (by decide +kernel)
  have k5 := hts (.classLink RX11 153 "java/util/NoSuchElementException") (by decide +kernel)
  have k6 := hts (.initialized "java/util/NoSuchElementException") (by decide +kernel)
  have hl := lv_entry ([.ref (Z 0 0 0), .int a0, .int a1]) (n := 5) (Nat.le_of_ble_eq_true rfl)
  rw [show entryFrame m args 5 = entryFrame m ([.ref (Z 0 0 0), .int a0, .int a1] : List Value).toArray 5 from by rw [hav], lg_entry_eq]
  generalize (lg_sl ([.ref (Z 0 0 0), .int a0, .int a1]) ++ List.replicate (5 - (lg_sl ([.ref (Z 0 0 0), .int a0, .int a1])).length) Slot.unset).toArray = ls at hl ⊢
  have hl : lv_has ls 5 [(0, .ref (Z 0 0 0)), (1, .int a0), (2, .int a1)] := hl
  refine lv_aload_n hx hb dX11_part_0 rfl (lv_at hl 0 rfl) ?_
  refine va_get (D := (dC, dI)) (ci := 11) (C := RX11) (T := TX11) (N := 19) hx hb hts hinX11 hown hK hP 0 rfl rfl 3 (by decide) (v := .ref (Z 3 0 0)) k1 (fun _ h9 => h9) rfl dX11_part_1 ?_
  refine va_getN (D := (dC, dI)) (ci := 8) (C := RX7) (T := TX7) (N := 3) hx hb hts hinX7 hown hK hP 1 rfl rfl 1 (by decide) (v := .ref (Z 21 0 0)) (va_Nw.use rfl (hN _ (List.mem_of_getElem? (i := 51) rfl))) (fun _ h9 => h9) rfl dX11_part_4 ?_
  refine va_getN (D := (dC, dI)) (ci := 10) (C := RX9) (T := TX9) (N := 9) hx hb hts hinX9 hown hK hP 10 rfl rfl 7 (by decide) (v := .ref (Z 21 0 7)) (va_Nw.use rfl (hN _ (List.mem_of_getElem? (i := 46) rfl))) (fun _ h9 => h9) rfl dX11_part_7 ?_
  refine ko_call (v := some (.int v)) (va_runS (As := [.ref (Z 21 0 7)]) (rest := []) ⟨hx, hb, hml, hown, hts⟩ (c_X11_sumOf l dC dI cs ad (Z 21 0 7) 6 (S.1 7) v hsum) (va_cwS 1 hts gX11_part_X11_sumOf rfl rfl rfl (by decide +kernel) ⟨Nat.le_of_ble_eq_true rfl, Nat.le_of_ble_eq_true rfl⟩) ⟨fun a U g mk q => ⟨q.1, (fun _ _ _ _ => cPr_bl) a U g mk q.2⟩, fun U hU hW => ⟨rfl, ⟨by rw [hU]; exact (hP.sub (ws' := ww_X11_sumOf cs ad (Z 21 0 7) 6 (S.1 7)) [13] rfl), va_K.moved hW.alike hK, kN_warm hW hN⟩⟩⟩ rfl rfl hl.1 rfl (lv_room (Nat.le_of_ble_eq_true rfl)) dX11_part_10 ⟨(by first | exact Nat.le_refl _ | exact Nat.zero_le _ | exact Nat.le_of_ble_eq_true rfl | (show 0 + _ ≤ 200; omega)), (by first | exact Nat.le_refl _ | exact Nat.zero_le _ | exact Nat.le_of_ble_eq_true rfl | (show 0 + _ ≤ 200; omega))⟩) ?_
  refine lv_istore_n (nL := 5) (lv' := [(3, .int v), (0, .ref (Z 0 0 0)), (1, .int a0), (2, .int a1)]) hx hb dX11_part_13 rfl hl (by decide) rfl (fun ls hl => ?_)
  refine lv_aload_n hx hb dX11_part_14 rfl (lv_at hl 1 rfl) ?_
  refine va_get (D := (dC, dI)) (ci := 11) (C := RX11) (T := TX11) (N := 19) hx hb hts hinX11 hown hK hP 0 rfl rfl 3 (by decide) (v := .ref (Z 3 0 0)) k1 (fun _ h9 => h9) rfl dX11_part_15 ?_
  refine va_getN (D := (dC, dI)) (ci := 8) (C := RX7) (T := TX7) (N := 3) hx hb hts hinX7 hown hK hP 1 rfl rfl 0 (by decide) (v := .ref (Z 20 0 0)) (va_Nw.use rfl (hN _ (List.mem_of_getElem? (i := 50) rfl))) (fun _ h9 => h9) rfl dX11_part_18 ?_
  refine lv_iload_n hx hb dX11_part_21 rfl (lv_at hl 2 rfl) ?_
  refine ko_call (v := some (.int (f_X3_hasMachine a0 O))) (va_runVN (As := [.int a0]) (rest := []) ⟨hx, hb, hml, hown, hts⟩ (c_X3_hasMachine l dC dI cs ad (Z 20 0) O a0 _ rfl) ⟨va_cnB 1 hts gX11_part_X3_hasMachine_n149 rfl rfl rfl (hN _ (List.mem_of_getElem? (i := 93) rfl)) k2 (by decide +kernel) ⟨Nat.le_of_ble_eq_true rfl, Nat.le_of_ble_eq_true rfl⟩, k3, k4⟩ ⟨fun a U g mk q => ⟨q.1, (fun _ _ _ _ => cPr_bl) a U g mk q.2⟩, va_recv hK hP (ci := 4) (q0 := 2) rfl rfl, fun U hU hW => ⟨rfl, ⟨by rw [hU]; exact (hP.sub (ws' := ww_X3_hasMachine cs ad (Z 20 0) O) [2, 3, 4, 5, 6, 7, 8, 9] rfl), va_K.moved hW.alike hK, kN_warm hW hN⟩⟩⟩ rfl rfl hl.1 rfl (lv_room (Nat.le_of_ble_eq_true rfl)) dX11_part_22 ⟨(by first | exact Nat.le_refl _ | exact Nat.zero_le _ | exact Nat.le_of_ble_eq_true rfl | (show 0 + _ ≤ 200; omega)), (by first | exact Nat.le_refl _ | exact Nat.zero_le _ | exact Nat.le_of_ble_eq_true rfl | (show 0 + _ ≤ 200; omega))⟩) ?_
  refine lv_if_eq (tgt := 41) hx hb dX11_part_25 (by decide) (fun h => absurd h (hm)) (fun _ => ?_)
  refine lv_iload_n hx hb dX11_part_28 rfl (lv_at hl 3 rfl) ?_
  refine lv_if_lt (tgt := 41) hx hb dX11_part_29 (by decide) (fun h => absurd h (hw)) (fun _ => ?_)
  refine lv_iload_n hx hb dX11_part_32 rfl (lv_at hl 3 rfl) ?_
  refine lv_iconst (v := 1) hx hb dX11_part_33 (by decide) ?_
  refine lv_icmp_gt (tgt := 41) hx hb dX11_part_34 (by decide) (fun h => absurd h (hw1)) (fun _ => ?_)
  refine lv_iload_n hx hb dX11_part_37 rfl (lv_at hl 0 rfl) ?_
  refine lv_if_gt (tgt := 49) hx hb dX11_part_38 (by decide) (fun h => absurd h (hv0)) (fun _ => ?_)
  refine vx_throw0 (ik := 153) (ic := 155) (cls := "java/util/NoSuchElementException") (names := ["java/lang/RuntimeException", "java/lang/Exception"]) hx hb hst hown (by decide +kernel) (by decide +kernel) k5 k6 hat (by decide +kernel) hTh.2.1 hTh.2.2 hS (by rw [hml]; exact hl.1) dX11_part_41 dX11_part_44 dX11_part_45 dX11_part_48 (fun x h => (hnoh x h).elim) (Nat.le_of_ble_eq_true rfl) (Nat.le_of_ble_eq_true rfl) (Nat.le_of_ble_eq_true rfl) (Nat.le_of_ble_eq_true rfl) hlocks (fun t hv h1 h2 => ⟨(), trivial, rfl, h1, fun q hq _ => h2 q hq⟩) (fun _ h => nomatch h) (Nat.le_of_ble_eq_true rfl) (Nat.le_of_ble_eq_true rfl)

set_option maxHeartbeats 4000000 in
set_option maxRecDepth 100000 in
theorem c_L_machineV (l : Launch) (dC : Nat → ClassId) (dI : Nat → Nat → Nat) (cs : Nat → ClassId) (ad : Nat → Nat) (Z : Nat → Nat → Nat → Nat) (K O S N : kD) (a0 a1 : Int32) (q3 : Nat) (out : Nat → Int64) (v : Int32) (sz : Nat) (hf : fV_machine a0 a1 K zD O S N = some v) : vx_Met l yL_machine wsL_machine (rm_s 9 0 0) (va_Pc [.ref (Z 0 0 0), .int a0, .int a1, .ref q3] (fun U => cPw dC dI cs sz [(q3, .inl (cs 2, 1, .inr (.inl out)))] U ∧ cPr dC dI cs (wX11 cs ad (Z 0 0) (Z 1 0 0) (Z 2 0 0) (Z 3 0 0) (Z 4 0 0) (Z 5 0 0) (Z 6 0 0) (Z 7 0 0) (Z 8 0 0) (Z 9 0 0) (Z 10 0 0) (Z 11 0 0) (Z 12 0 0) (Z 13 0 0) (Z 14 0 0) (Z 18 0 0) K ++ (wX7 cs ad (Z 3 0) (Z 20 0 0) (Z 21 0 0) (Z 22 0 0) zD ++ (wX3 cs ad (Z 20 0) O ++ (wX9 cs ad (Z 21 0) S ++ wX8 cs ad (Z 22 0) N)))) U)) (va_Qi (fun (r : Int32) (_ : Unit) => r = 0) (fun _ t => cB dC dI cs (va_A [(q3, .inl (cs 2, 1, .inr (.inl out)))] sz) [(q3, .inl (cs 2, 1, .inr (.inl (vp_updL out 0 v.toInt64))))] t) (va_A [(q3, .inl (cs 2, 1, .inr (.inl out)))] sz)) (x0) 0 0 (va_A [(q3, .inl (cs 2, 1, .inr (.inl out)))] sz) := by
  refine vx_ofWH (cc := cL_machine) (maxL := 5) (ret := (some .int)) (by decide) rfl ?_
  intro p e s m args below meth c s₁ B hml hv
  obtain ⟨hav, ⟨hsz, hP, hK, hD0, hN⟩, hPM, -, -⟩ := hv
  subst hsz
  have hx := B.exec
  have hb := B.bytes
  have hr := B.returns
  have hts := atoms_spec (ws := wsL_machine) B.pre
  have hown : s.vm.findClass RL = some m.cls := findClass_of_methodNamed B.named
  have hlocks := B.notSynchronized
  have hS : va_S (va_A [(q3, .inl (cs 2, 1, .inr (.inl out)))] s.heap.size) s.heap s.heap [] := va_S.rf
  have hD : va_D (va_A [(q3, .inl (cs 2, 1, .inr (.inl out)))] s.heap.size) [(q3, .inl (cs 2, 1, .inr (.inl out)))] := hD0.self
  have hl := lv_entry ([.ref (Z 0 0 0), .int a0, .int a1, .ref q3]) (n := 5) (Nat.le_of_ble_eq_true rfl)
  rw [show entryFrame m args 5 = entryFrame m ([.ref (Z 0 0 0), .int a0, .int a1, .ref q3] : List Value).toArray 5 from by rw [hav], lg_entry_eq]
  generalize (lg_sl ([.ref (Z 0 0 0), .int a0, .int a1, .ref q3]) ++ List.replicate (5 - (lg_sl ([.ref (Z 0 0 0), .int a0, .int a1, .ref q3])).length) Slot.unset).toArray = ls at hl ⊢
  have hl : lv_has ls 5 [(0, .ref (Z 0 0 0)), (1, .int a0), (2, .int a1), (3, .ref q3)] := hl
  refine lv_aload_n hx hb dL_machine_0 rfl (lv_at hl 3 rfl) ?_
  refine lv_iconst (v := 0) hx hb dL_machine_1 (by decide) ?_
  refine lv_aload_n hx hb dL_machine_2 rfl (lv_at hl 0 rfl) ?_
  refine lv_iload_n hx hb dL_machine_3 rfl (lv_at hl 1 rfl) ?_
  refine lv_iload_n hx hb dL_machine_4 rfl (lv_at hl 2 rfl) ?_
  refine ko_call (v := some (.int v)) (va_runV (As := [.int a0, .int a1]) (rest := [.int 0, .ref q3]) ⟨hx, hb, hml, hown, hts⟩ (c_X11_machine l dC dI cs ad (Z 0 0) (Z 3 0) (Z 20 0) (Z 21 0) (Z 22 0) (Z 1 0 0) (Z 2 0 0) (Z 4 0 0) (Z 5 0 0) (Z 6 0 0) (Z 7 0 0) (Z 8 0 0) (Z 9 0 0) (Z 10 0 0) (Z 11 0 0) (Z 12 0 0) (Z 13 0 0) (Z 14 0 0) (Z 18 0 0) K zD O S N a0 a1 v hf) (cwV 2 hts gL_machine_X11_machine rfl rfl rfl (by decide +kernel) ⟨Nat.le_of_ble_eq_true rfl, Nat.le_of_ble_eq_true rfl⟩) ⟨fun a U g mk q => ⟨q.1, (fun _ _ _ _ => cPr_bl) a U g mk q.2⟩, va_recv hK hPM (ci := 11) (q0 := 0) rfl rfl, fun U hU hW => ⟨rfl, ⟨by rw [hU]; exact hPM.sub (ws' := (ww_X11_machine cs ad (Z 0 0) (Z 3 0) (Z 20 0) (Z 21 0) (Z 22 0) (Z 1 0 0) (Z 2 0 0) (Z 4 0 0) (Z 5 0 0) (Z 6 0 0) (Z 7 0 0) (Z 8 0 0) (Z 9 0 0) (Z 10 0 0) (Z 11 0 0) (Z 12 0 0) (Z 13 0 0) (Z 14 0 0) (Z 18 0 0) K zD O S N)) [0, 1, 2, 3, 4, 5, 6, 7, 8, 9, 10, 11, 12, 13, 14, 15, 16, 17, 18, 19] rfl, va_K.moved hW.alike hK, kN_warm hW hN⟩⟩⟩ rfl rfl hl.1 rfl (lv_room (Nat.le_of_ble_eq_true rfl)) dL_machine_5 ⟨(by first | exact Nat.le_refl _ | exact Nat.zero_le _ | exact Nat.le_of_ble_eq_true rfl | (show 0 + _ ≤ 200; omega)), (by first | exact Nat.le_refl _ | exact Nat.zero_le _ | exact Nat.le_of_ble_eq_true rfl | (show 0 + _ ≤ 200; omega))⟩) ?_
  refine lv_i2l (v := v.toInt64) hx hb dL_machine_8 rfl ?_
  refine va_last hx hb hK hP hD hS 0 2 rfl rfl (show vp_in (0 : Int32) 1 from vp_in_nI (n := 0) (by decide) (by decide)) dL_machine_9 (fun H locs hP hD hS => ?_)
  refine lv_goto (tgt := 17) hx hb dL_machine_10 (by decide) ?_
  refine lv_iconst (v := 0) hx hb dL_machine_17 (by decide) ?_
  exact vx_ret (W.iret (v := (0 : Int32)) hx hb hr (fun t ht hW => ⟨⟨0, (), rfl, rfl, by rw [ht]; exact hP, va_K.moved hW.alike hK, hD⟩, hS.F ht⟩) hS.2.2 dL_machine_18)

set_option maxHeartbeats 4000000 in
set_option maxRecDepth 100000 in
theorem c_L_machineT (l : Launch) (hst : l.stackTraces = false) (dC : Nat → ClassId) (dI : Nat → Nat → Nat) (cs : Nat → ClassId) (ad : Nat → Nat) (Z : Nat → Nat → Nat → Nat) (K O S N : kD) (a0 a1 : Int32) (q3 : Nat) (hM : vx_Met l yX11_machine wsX11_machine (rm_s 8 1 6) (va_Pc [.ref (Z 0 0 0), .int a0, .int a1] (fun U => cPr dC dI cs (wX11 cs ad (Z 0 0) (Z 1 0 0) (Z 2 0 0) (Z 3 0 0) (Z 4 0 0) (Z 5 0 0) (Z 6 0 0) (Z 7 0 0) (Z 8 0 0) (Z 9 0 0) (Z 10 0 0) (Z 11 0 0) (Z 12 0 0) (Z 13 0 0) (Z 14 0 0) (Z 18 0 0) K ++ (wX7 cs ad (Z 3 0) (Z 20 0 0) (Z 21 0 0) (Z 22 0 0) zD ++ (wX3 cs ad (Z 20 0) O ++ (wX9 cs ad (Z 21 0) S ++ wX8 cs ad (Z 22 0) N)))) U ∧ kTh kF U U.heap)) (qN) (xT) 1 6 (kF)) : vx_Met l yL_machine wsL_machine (rm_s 9 1 6) (va_Pc [.ref (Z 0 0 0), .int a0, .int a1, .ref q3] (fun U => cPr dC dI cs (wX11 cs ad (Z 0 0) (Z 1 0 0) (Z 2 0 0) (Z 3 0 0) (Z 4 0 0) (Z 5 0 0) (Z 6 0 0) (Z 7 0 0) (Z 8 0 0) (Z 9 0 0) (Z 10 0 0) (Z 11 0 0) (Z 12 0 0) (Z 13 0 0) (Z 14 0 0) (Z 18 0 0) K ++ (wX7 cs ad (Z 3 0) (Z 20 0 0) (Z 21 0 0) (Z 22 0 0) zD ++ (wX3 cs ad (Z 20 0) O ++ (wX9 cs ad (Z 21 0) S ++ wX8 cs ad (Z 22 0) N)))) U ∧ kTh kF U U.heap)) (va_Qi (fun (r : Int32) (_ : Unit) => r = 1) (fun _ _ => True) kF) (x0) 1 6 (kF) := by
  refine vx_ofWH (cc := cL_machine) (maxL := 5) (ret := (some .int)) (by decide) rfl ?_
  intro p e s m args below meth c s₁ B hml hv
  obtain ⟨hav, ⟨hP, hK, hN⟩, hTh⟩ := hv
  have hx := B.exec
  have hb := B.bytes
  have hr := B.returns
  have hts := atoms_spec (ws := wsL_machine) B.pre
  have hown : s.vm.findClass RL = some m.cls := findClass_of_methodNamed B.named
  have hlocks := B.notSynchronized
  have hS : va_S kF s.heap s.heap [] := va_S.rf
  have k1 := hts (.classLink RL 13 "java/util/NoSuchElementException") (by decide +kernel)
  have hl := lv_entry ([.ref (Z 0 0 0), .int a0, .int a1, .ref q3]) (n := 5) (Nat.le_of_ble_eq_true rfl)
  rw [show entryFrame m args 5 = entryFrame m ([.ref (Z 0 0 0), .int a0, .int a1, .ref q3] : List Value).toArray 5 from by rw [hav], lg_entry_eq]
  generalize (lg_sl ([.ref (Z 0 0 0), .int a0, .int a1, .ref q3]) ++ List.replicate (5 - (lg_sl ([.ref (Z 0 0 0), .int a0, .int a1, .ref q3])).length) Slot.unset).toArray = ls at hl ⊢
  have hl : lv_has ls 5 [(0, .ref (Z 0 0 0)), (1, .int a0), (2, .int a1), (3, .ref q3)] := hl
  refine lv_aload_n hx hb dL_machine_0 rfl (lv_at hl 3 rfl) ?_
  refine lv_iconst (v := 0) hx hb dL_machine_1 (by decide) ?_
  refine lv_aload_n hx hb dL_machine_2 rfl (lv_at hl 0 rfl) ?_
  refine lv_iload_n hx hb dL_machine_3 rfl (lv_at hl 1 rfl) ?_
  refine lv_iload_n hx hb dL_machine_4 rfl (lv_at hl 2 rfl) ?_
  refine vx_calli (vx_runV (As := [.int a0, .int a1]) (rest := [.int 0, .ref q3]) ⟨hx, hb, hml, hown, hts⟩ hM (cwV 2 hts gL_machine_X11_machine rfl rfl rfl (by decide +kernel) ⟨Nat.le_of_ble_eq_true rfl, Nat.le_of_ble_eq_true rfl⟩) ⟨fun a U g mk q => ⟨q.1, cPr_bl q.2.1, kTh.bl q.2.2⟩, va_recv hK hP (ci := 11) (q0 := 0) rfl rfl, fun U hU hW => ⟨rfl, ⟨by rw [hU]; exact hP, va_K.moved hW.alike hK, kN_warm hW hN⟩, kTh.at hTh hS (fun _ h => h) U hU hW⟩⟩ rfl rfl hl.1 rfl (lv_room (Nat.le_of_ble_eq_true rfl)) dL_machine_5 ⟨(by first | exact Nat.le_refl _ | exact Nat.zero_le _ | exact Nat.le_of_ble_eq_true rfl | (show 0 + _ ≤ 200; omega)), (by first | exact Nat.le_refl _ | exact Nat.zero_le _ | exact Nat.le_of_ble_eq_true rfl | (show 0 + _ ≤ 200; omega))⟩) hS (fun q _ h => h) (fun q h => h) (fun q _ h => h) (fun E ce q9 u t H1 locs1 ht hvm hu hE hz hk hS hc1 hc2 hc3 => ?_) (fun r u t H1 locs1 ht hvm hu hB hz hk hS => False.elim hu)
  have hE : E = "java/util/NoSuchElementException" := hE
  subst hE
  have htab := vx_table B (hts _ List.mem_cons_self)
  refine vx_catch (name := "java/util/NoSuchElementException") hown [] _ [] (by rw [htab]; rfl) (fun z h => nomatch h) rfl (by decide) k1 (va_Nw.use rfl hTh.1) hc1 hc2 hc3 ?_
  refine lv_astore (nL := 5) (lv' := [(4, .ref q9), (0, .ref (Z 0 0 0)), (1, .int a0), (2, .int a1), (3, .ref q3)]) hx hb dL_machine_13 hl (by decide) rfl (fun ls hl => ?_)
  refine lv_iconst (v := 1) hx hb dL_machine_15 (by decide) ?_
  refine W.widen (k := 1) (n := 6) (Nat.le_of_ble_eq_true rfl) (Nat.le_of_ble_eq_true rfl) ?_
  exact vx_ret (W.iret (v := (1 : Int32)) hx hb hr (fun t ht hW => ⟨⟨1, (), rfl, rfl, trivial⟩, hS.F ht⟩) hS.2.2 dL_machine_16)

set_option maxHeartbeats 4000000 in
set_option maxRecDepth 100000 in
theorem c_L_partV (l : Launch) (dC : Nat → ClassId) (dI : Nat → Nat → Nat) (cs : Nat → ClassId) (ad : Nat → Nat) (Z : Nat → Nat → Nat → Nat) (K O S N : kD) (a0 a1 : Int32) (q3 : Nat) (out : Nat → Int64) (v : Int32) (sz : Nat) (hf : fV_part a0 a1 K zD O S N = some v) : vx_Met l yL_part wsL_part (rm_s 9 0 0) (va_Pc [.ref (Z 0 0 0), .int a0, .int a1, .ref q3] (fun U => cPw dC dI cs sz [(q3, .inl (cs 2, 1, .inr (.inl out)))] U ∧ cPr dC dI cs (wX11 cs ad (Z 0 0) (Z 1 0 0) (Z 2 0 0) (Z 3 0 0) (Z 4 0 0) (Z 5 0 0) (Z 6 0 0) (Z 7 0 0) (Z 8 0 0) (Z 9 0 0) (Z 10 0 0) (Z 11 0 0) (Z 12 0 0) (Z 13 0 0) (Z 14 0 0) (Z 18 0 0) K ++ (wX7 cs ad (Z 3 0) (Z 20 0 0) (Z 21 0 0) (Z 22 0 0) zD ++ (wX3 cs ad (Z 20 0) O ++ (wX9 cs ad (Z 21 0) S ++ wX8 cs ad (Z 22 0) N)))) U)) (va_Qi (fun (r : Int32) (_ : Unit) => r = 0) (fun _ t => cB dC dI cs (va_A [(q3, .inl (cs 2, 1, .inr (.inl out)))] sz) [(q3, .inl (cs 2, 1, .inr (.inl (vp_updL out 0 v.toInt64))))] t) (va_A [(q3, .inl (cs 2, 1, .inr (.inl out)))] sz)) (x0) 0 0 (va_A [(q3, .inl (cs 2, 1, .inr (.inl out)))] sz) := by
  refine vx_ofWH (cc := cL_part) (maxL := 5) (ret := (some .int)) (by decide) rfl ?_
  intro p e s m args below meth c s₁ B hml hv
  obtain ⟨hav, ⟨hsz, hP, hK, hD0, hN⟩, hPM, -, -⟩ := hv
  subst hsz
  have hx := B.exec
  have hb := B.bytes
  have hr := B.returns
  have hts := atoms_spec (ws := wsL_part) B.pre
  have hown : s.vm.findClass RL = some m.cls := findClass_of_methodNamed B.named
  have hlocks := B.notSynchronized
  have hS : va_S (va_A [(q3, .inl (cs 2, 1, .inr (.inl out)))] s.heap.size) s.heap s.heap [] := va_S.rf
  have hD : va_D (va_A [(q3, .inl (cs 2, 1, .inr (.inl out)))] s.heap.size) [(q3, .inl (cs 2, 1, .inr (.inl out)))] := hD0.self
  have hl := lv_entry ([.ref (Z 0 0 0), .int a0, .int a1, .ref q3]) (n := 5) (Nat.le_of_ble_eq_true rfl)
  rw [show entryFrame m args 5 = entryFrame m ([.ref (Z 0 0 0), .int a0, .int a1, .ref q3] : List Value).toArray 5 from by rw [hav], lg_entry_eq]
  generalize (lg_sl ([.ref (Z 0 0 0), .int a0, .int a1, .ref q3]) ++ List.replicate (5 - (lg_sl ([.ref (Z 0 0 0), .int a0, .int a1, .ref q3])).length) Slot.unset).toArray = ls at hl ⊢
  have hl : lv_has ls 5 [(0, .ref (Z 0 0 0)), (1, .int a0), (2, .int a1), (3, .ref q3)] := hl
  refine lv_aload_n hx hb dL_part_0 rfl (lv_at hl 3 rfl) ?_
  refine lv_iconst (v := 0) hx hb dL_part_1 (by decide) ?_
  refine lv_aload_n hx hb dL_part_2 rfl (lv_at hl 0 rfl) ?_
  refine lv_iload_n hx hb dL_part_3 rfl (lv_at hl 1 rfl) ?_
  refine lv_iload_n hx hb dL_part_4 rfl (lv_at hl 2 rfl) ?_
  refine ko_call (v := some (.int v)) (va_runV (As := [.int a0, .int a1]) (rest := [.int 0, .ref q3]) ⟨hx, hb, hml, hown, hts⟩ (c_X11_part l dC dI cs ad (Z 0 0) (Z 3 0) (Z 20 0) (Z 21 0) (Z 22 0) (Z 1 0 0) (Z 2 0 0) (Z 4 0 0) (Z 5 0 0) (Z 6 0 0) (Z 7 0 0) (Z 8 0 0) (Z 9 0 0) (Z 10 0 0) (Z 11 0 0) (Z 12 0 0) (Z 13 0 0) (Z 14 0 0) (Z 18 0 0) K zD O S N a0 a1 v hf) (cwV 2 hts gL_part_X11_part rfl rfl rfl (by decide +kernel) ⟨Nat.le_of_ble_eq_true rfl, Nat.le_of_ble_eq_true rfl⟩) ⟨fun a U g mk q => ⟨q.1, (fun _ _ _ _ => cPr_bl) a U g mk q.2⟩, va_recv hK hPM (ci := 11) (q0 := 0) rfl rfl, fun U hU hW => ⟨rfl, ⟨by rw [hU]; exact hPM.sub (ws' := (ww_X11_part cs ad (Z 0 0) (Z 3 0) (Z 20 0) (Z 21 0) (Z 22 0) (Z 1 0 0) (Z 2 0 0) (Z 4 0 0) (Z 5 0 0) (Z 6 0 0) (Z 7 0 0) (Z 8 0 0) (Z 9 0 0) (Z 10 0 0) (Z 11 0 0) (Z 12 0 0) (Z 13 0 0) (Z 14 0 0) (Z 18 0 0) K zD O S N)) [0, 1, 2, 3, 4, 5, 6, 7, 8, 9, 10, 11, 12, 13, 14, 15, 16, 17, 18, 19] rfl, va_K.moved hW.alike hK, kN_warm hW hN⟩⟩⟩ rfl rfl hl.1 rfl (lv_room (Nat.le_of_ble_eq_true rfl)) dL_part_5 ⟨(by first | exact Nat.le_refl _ | exact Nat.zero_le _ | exact Nat.le_of_ble_eq_true rfl | (show 0 + _ ≤ 200; omega)), (by first | exact Nat.le_refl _ | exact Nat.zero_le _ | exact Nat.le_of_ble_eq_true rfl | (show 0 + _ ≤ 200; omega))⟩) ?_
  refine lv_i2l (v := v.toInt64) hx hb dL_part_8 rfl ?_
  refine va_last hx hb hK hP hD hS 0 2 rfl rfl (show vp_in (0 : Int32) 1 from vp_in_nI (n := 0) (by decide) (by decide)) dL_part_9 (fun H locs hP hD hS => ?_)
  refine lv_goto (tgt := 17) hx hb dL_part_10 (by decide) ?_
  refine lv_iconst (v := 0) hx hb dL_part_17 (by decide) ?_
  exact vx_ret (W.iret (v := (0 : Int32)) hx hb hr (fun t ht hW => ⟨⟨0, (), rfl, rfl, by rw [ht]; exact hP, va_K.moved hW.alike hK, hD⟩, hS.F ht⟩) hS.2.2 dL_part_18)

set_option maxHeartbeats 4000000 in
set_option maxRecDepth 100000 in
theorem c_L_partT (l : Launch) (hst : l.stackTraces = false) (dC : Nat → ClassId) (dI : Nat → Nat → Nat) (cs : Nat → ClassId) (ad : Nat → Nat) (Z : Nat → Nat → Nat → Nat) (K O S N : kD) (a0 a1 : Int32) (q3 : Nat) (hM : vx_Met l yX11_part wsX11_part (rm_s 8 1 6) (va_Pc [.ref (Z 0 0 0), .int a0, .int a1] (fun U => cPr dC dI cs (wX11 cs ad (Z 0 0) (Z 1 0 0) (Z 2 0 0) (Z 3 0 0) (Z 4 0 0) (Z 5 0 0) (Z 6 0 0) (Z 7 0 0) (Z 8 0 0) (Z 9 0 0) (Z 10 0 0) (Z 11 0 0) (Z 12 0 0) (Z 13 0 0) (Z 14 0 0) (Z 18 0 0) K ++ (wX7 cs ad (Z 3 0) (Z 20 0 0) (Z 21 0 0) (Z 22 0 0) zD ++ (wX3 cs ad (Z 20 0) O ++ (wX9 cs ad (Z 21 0) S ++ wX8 cs ad (Z 22 0) N)))) U ∧ kTh kF U U.heap)) (qN) (xT) 1 6 (kF)) : vx_Met l yL_part wsL_part (rm_s 9 1 6) (va_Pc [.ref (Z 0 0 0), .int a0, .int a1, .ref q3] (fun U => cPr dC dI cs (wX11 cs ad (Z 0 0) (Z 1 0 0) (Z 2 0 0) (Z 3 0 0) (Z 4 0 0) (Z 5 0 0) (Z 6 0 0) (Z 7 0 0) (Z 8 0 0) (Z 9 0 0) (Z 10 0 0) (Z 11 0 0) (Z 12 0 0) (Z 13 0 0) (Z 14 0 0) (Z 18 0 0) K ++ (wX7 cs ad (Z 3 0) (Z 20 0 0) (Z 21 0 0) (Z 22 0 0) zD ++ (wX3 cs ad (Z 20 0) O ++ (wX9 cs ad (Z 21 0) S ++ wX8 cs ad (Z 22 0) N)))) U ∧ kTh kF U U.heap)) (va_Qi (fun (r : Int32) (_ : Unit) => r = 1) (fun _ _ => True) kF) (x0) 1 6 (kF) := by
  refine vx_ofWH (cc := cL_part) (maxL := 5) (ret := (some .int)) (by decide) rfl ?_
  intro p e s m args below meth c s₁ B hml hv
  obtain ⟨hav, ⟨hP, hK, hN⟩, hTh⟩ := hv
  have hx := B.exec
  have hb := B.bytes
  have hr := B.returns
  have hts := atoms_spec (ws := wsL_part) B.pre
  have hown : s.vm.findClass RL = some m.cls := findClass_of_methodNamed B.named
  have hlocks := B.notSynchronized
  have hS : va_S kF s.heap s.heap [] := va_S.rf
  have k1 := hts (.classLink RL 13 "java/util/NoSuchElementException") (by decide +kernel)
  have hl := lv_entry ([.ref (Z 0 0 0), .int a0, .int a1, .ref q3]) (n := 5) (Nat.le_of_ble_eq_true rfl)
  rw [show entryFrame m args 5 = entryFrame m ([.ref (Z 0 0 0), .int a0, .int a1, .ref q3] : List Value).toArray 5 from by rw [hav], lg_entry_eq]
  generalize (lg_sl ([.ref (Z 0 0 0), .int a0, .int a1, .ref q3]) ++ List.replicate (5 - (lg_sl ([.ref (Z 0 0 0), .int a0, .int a1, .ref q3])).length) Slot.unset).toArray = ls at hl ⊢
  have hl : lv_has ls 5 [(0, .ref (Z 0 0 0)), (1, .int a0), (2, .int a1), (3, .ref q3)] := hl
  refine lv_aload_n hx hb dL_part_0 rfl (lv_at hl 3 rfl) ?_
  refine lv_iconst (v := 0) hx hb dL_part_1 (by decide) ?_
  refine lv_aload_n hx hb dL_part_2 rfl (lv_at hl 0 rfl) ?_
  refine lv_iload_n hx hb dL_part_3 rfl (lv_at hl 1 rfl) ?_
  refine lv_iload_n hx hb dL_part_4 rfl (lv_at hl 2 rfl) ?_
  refine vx_calli (vx_runV (As := [.int a0, .int a1]) (rest := [.int 0, .ref q3]) ⟨hx, hb, hml, hown, hts⟩ hM (cwV 2 hts gL_part_X11_part rfl rfl rfl (by decide +kernel) ⟨Nat.le_of_ble_eq_true rfl, Nat.le_of_ble_eq_true rfl⟩) ⟨fun a U g mk q => ⟨q.1, cPr_bl q.2.1, kTh.bl q.2.2⟩, va_recv hK hP (ci := 11) (q0 := 0) rfl rfl, fun U hU hW => ⟨rfl, ⟨by rw [hU]; exact hP, va_K.moved hW.alike hK, kN_warm hW hN⟩, kTh.at hTh hS (fun _ h => h) U hU hW⟩⟩ rfl rfl hl.1 rfl (lv_room (Nat.le_of_ble_eq_true rfl)) dL_part_5 ⟨(by first | exact Nat.le_refl _ | exact Nat.zero_le _ | exact Nat.le_of_ble_eq_true rfl | (show 0 + _ ≤ 200; omega)), (by first | exact Nat.le_refl _ | exact Nat.zero_le _ | exact Nat.le_of_ble_eq_true rfl | (show 0 + _ ≤ 200; omega))⟩) hS (fun q _ h => h) (fun q h => h) (fun q _ h => h) (fun E ce q9 u t H1 locs1 ht hvm hu hE hz hk hS hc1 hc2 hc3 => ?_) (fun r u t H1 locs1 ht hvm hu hB hz hk hS => False.elim hu)
  have hE : E = "java/util/NoSuchElementException" := hE
  subst hE
  have htab := vx_table B (hts _ List.mem_cons_self)
  refine vx_catch (name := "java/util/NoSuchElementException") hown [] _ [] (by rw [htab]; rfl) (fun z h => nomatch h) rfl (by decide) k1 (va_Nw.use rfl hTh.1) hc1 hc2 hc3 ?_
  refine lv_astore (nL := 5) (lv' := [(4, .ref q9), (0, .ref (Z 0 0 0)), (1, .int a0), (2, .int a1), (3, .ref q3)]) hx hb dL_part_13 hl (by decide) rfl (fun ls hl => ?_)
  refine lv_iconst (v := 1) hx hb dL_part_15 (by decide) ?_
  refine W.widen (k := 1) (n := 6) (Nat.le_of_ble_eq_true rfl) (Nat.le_of_ble_eq_true rfl) ?_
  exact vx_ret (W.iret (v := (1 : Int32)) hx hb hr (fun t ht hW => ⟨⟨1, (), rfl, rfl, trivial⟩, hS.F ht⟩) hS.2.2 dL_part_16)

