set_option maxHeartbeats 4000000 in
set_option maxRecDepth 100000 in
theorem c_L_machineT (l : Launch) (hst : l.stackTraces = false) (dC : Nat → ClassId) (dI : Nat → Nat → Nat) (cs : Nat → ClassId) (ad : Nat → Nat) (Z : Nat → Nat → Nat → Nat) (K O S N : kD) (a0 a1 : Int32) (q3 : Nat) (hM : vx_Met l yX11_machine wsX11_machine (rm_s 8 1 6) (va_Pc [.ref (Z 0 0 0), .int a0, .int a1] (fun U => cPr dC dI cs (wX11 cs ad (Z 0 0) (Z 1 0 0) (Z 2 0 0) (Z 3 0 0) (Z 4 0 0) (Z 5 0 0) (Z 6 0 0) (Z 7 0 0) (Z 8 0 0) (Z 9 0 0) (Z 10 0 0) (Z 11 0 0) (Z 12 0 0) (Z 13 0 0) (Z 14 0 0) (Z 18 0 0) K ++ (wX7 cs ad (Z 3 0) (Z 20 0 0) (Z 21 0 0) (Z 22 0 0) zD ++ (wX3 cs ad (Z 20 0) O ++ (wX9 cs ad (Z 21 0) S ++ wX8 cs ad (Z 22 0) N)))) U ∧ kTh kF U U.heap)) (qN) (xT) 1 6 (kF)) : vx_Met l yL_machine wsL_machine (rm_s 9 1 6) (va_Pc [.ref (Z 0 0 0), .int a0, .int a1, .ref q3] (fun U => cPr dC dI cs (wX11 cs ad (Z 0 0) (Z 1 0 0) (Z 2 0 0) (Z 3 0 0) (Z 4 0 0) (Z 5 0 0) (Z 6 0 0) (Z 7 0 0) (Z 8 0 0) (Z 9 0 0) (Z 10 0 0) (Z 11 0 0) (Z 12 0 0) (Z 13 0 0) (Z 14 0 0) (Z 18 0 0) K ++ (wX7 cs ad (Z 3 0) (Z 20 0 0) (Z 21 0 0) (Z 22 0 0) zD ++ (wX3 cs ad (Z 20 0) O ++ (wX9 cs ad (Z 21 0) S ++ wX8 cs ad (Z 22 0) N)))) U ∧ kTh kF U U.heap)) (va_Qi (fun (r : Int32) (_ : Unit) => r = 1) (fun _ _ => True) kF) (x0) 1 6 (kF) := by
  refine vx_ofWH (cc := cL_machine) (maxL := 5) (ret := (some .int)) (by decide) rfl ?_
  intro p e s m args below meth c s₁ B hml hv
  obtain ⟨hav, ⟨hP, hK, hN⟩, hTh⟩ := hv
  have hx := B.exec
  have hb := B.bytes
  have hr := B.returns
  have hts := atoms_spec (ws := wsL_machine) B.pre
  have hown : s.vm.findClass RL = some m.cls := findClass_of_methodNamed B.named
  have hlocks := B.notSynchronized
  have hS : va_S kF s.heap s.heap [] := va_S.rf
  have k1 := hts (.classLink RL 13 "java/util/NoSuchElementException") (by decide +kernel)
  have hl := lv_entry ([.ref (Z 0 0 0), .int a0, .int a1, .ref q3]) (n := 5) (Nat.le_of_ble_eq_true rfl)
  rw [show entryFrame m args 5 = entryFrame m ([.ref (Z 0 0 0), .int a0, .int a1, .ref q3] : List Value).toArray 5 from by rw [hav], lg_entry_eq]
  generalize (lg_sl ([.ref (Z 0 0 0), .int a0, .int a1, .ref q3]) ++ List.replicate (5 - (lg_sl ([.ref (Z 0 0 0), .int a0, .int a1, .ref q3])).length) Slot.unset).toArray = ls at hl ⊢
  have hl : lv_has ls 5 [(0, .ref (Z 0 0 0)), (1, .int a0), (2, .int a1), (3, .ref q3)] := hl
  refine lv_aload_n hx hb dL_machine_0 rfl (lv_at hl 3 rfl) ?_
  refine lv_iconst (v := 0) hx hb dL_machine_1 (by decide) ?_
  refine lv_aload_n hx hb dL_machine_2 rfl (lv_at hl 0 rfl) ?_
  refine lv_iload_n hx hb dL_machine_3 rfl (lv_at hl 1 rfl) ?_
  refine lv_iload_n hx hb dL_machine_4 rfl (lv_at hl 2 rfl) ?_
  refine vx_calli (vx_runV (As := [.int a0, .int a1]) (rest := [.int 0, .ref q3]) ⟨hx, hb, hml, hown, hts⟩ hM (cwV 2 hts gL_machine_X11_machine rfl rfl rfl (by decide +kernel) ⟨Nat.le_of_ble_eq_true rfl, Nat.le_of_ble_eq_true rfl⟩) ⟨fun a U g mk q => ⟨q.1, cPr_bl q.2.1, kTh.bl q.2.2⟩, va_recv hK hP (ci := 11) (q0 := 0) rfl rfl, fun U hU hW => ⟨rfl, ⟨by rw [hU]; exact hP, va_K.moved hW.alike hK, kN_warm hW hN⟩, kTh.at hTh hS (fun _ h => h) U hU hW⟩⟩ rfl rfl hl.1 rfl (lv_room (Nat.le_of_ble_eq_true rfl)) dL_machine_5 ⟨(by first | exact Nat.le_refl _ | exact Nat.zero_le _ | exact Nat.le_of_ble_eq_true rfl | (show 0 + _ ≤ 200; omega)), (by first | exact Nat.le_refl _ | exact Nat.zero_le _ | exact Nat.le_of_ble_eq_true rfl | (show 0 + _ ≤ 200; omega))⟩) hS (fun q _ h => h) (fun q h => h) (fun q _ h => h) (fun E ce q9 u t H1 locs1 ht hvm hu hE hz hk hS hc1 hc2 hc3 => ?_) (fun r u t H1 locs1 ht hvm hu hB hz hk hS => False.elim hu)
  have hE : E = "java/util/NoSuchElementException" := hE
  subst hE
  have htab : c.exceptionTable.toList = [⟨0, 10, 13, 13⟩] := vx_table (x := yX11_machine) (y := yL_machine) (bytes := cL_machine) (maxL' := 5) (ret' := some .int) (hh := [(0, 10, 13, 13)]) B (hts _ List.mem_cons_self)
  refine vx_catch (name := "java/util/NoSuchElementException") hown [] ⟨0, 10, 13, 13⟩ [] htab (fun z h => nomatch h) rfl (by decide) k1 (va_Nw.use rfl hTh.1.1) hc1 hc2 hc3 ?_
  refine W.eq (g2 := F0 m 13 ls [.ref q9]) rfl ?_
  refine lv_astore (nL := 5) (lv' := [(4, .ref q9), (0, .ref (Z 0 0 0)), (1, .int a0), (2, .int a1), (3, .ref q3)]) hx hb dL_machine_13 hl (by decide) rfl (fun ls hl => ?_)
  refine lv_iconst (v := 1) hx hb dL_machine_15 (by decide) ?_
  refine W.widen (k := 1) (n := 6) (Nat.le_of_ble_eq_true rfl) (Nat.le_of_ble_eq_true rfl) ?_
  exact vx_ret (W.iret (v := (1 : Int32)) hx hb hr (fun t ht hW => ⟨⟨1, (), rfl, rfl, trivial⟩, hS.F ht⟩) hS.2.2 dL_machine_16)
