/-! StringBuilder: its own small world, walked by hand-written scripts (wip/whole/genjb.py) -/
def kC (A : Nat → Prop) (U : State) (H : Heap) : Prop := va_Z "java/lang/String" "COMPACT_STRINGS" "Z" (.int 1) A U H ∧ kY A U H
theorem kC.moved {A : Nat → Prop} {u U : State} {H : Heap} (hvm : u.vm.Alike U.vm) (h : kC A u H) : kC A U H := ⟨va_Z.moved hvm h.1, h.2.moved hvm⟩
theorem kC.kept {A : Nat → Prop} {U : State} {H H1 : Heap} (h : kC A U H) (hq : ∀ a : Nat, a < H.size → ¬ A a → H1[a]? = H[a]?) : kC A U H1 := ⟨h.1.kept hq, h.2.kept hq⟩
theorem kC.narrow {A B : Nat → Prop} {U : State} {H : Heap} (h : kC A U H) (hAB : ∀ q, B q → A q) : kC B U H := ⟨h.1.narrow hAB, h.2.narrow hAB⟩
theorem kC.at {A B : Nat → Prop} {s : State} {H : Heap} {locs : List Loc} (h : kC A s s.heap) (hS : va_S A s.heap H locs) (hAB : ∀ q, B q → A q) : ∀ U : State, U.heap = H → s.WarmedH U.vm → kC B U U.heap := fun U hU hW => by
  rw [hU]; exact kC.moved hW.alike ((h.kept hS.2.1).narrow hAB)
def sPr (dC : Nat → ClassId) (dI : Nat → Nat → Nat) (cs : Nat → ClassId) (w : va_W) : State → Prop := fun U => va_P (dC, dI) vwCl w U.heap ∧ va_K (dC, dI) vwCl (ct cs) U ∧ kC kF U U.heap
def sPw (dC : Nat → ClassId) (dI : Nat → Nat → Nat) (cs : Nat → ClassId) (sz : Nat) (w : va_W) : State → Prop := fun U => U.heap.size = sz ∧ va_P (dC, dI) vwCl w U.heap ∧ va_K (dC, dI) vwCl (ct cs) U ∧ va_D (fun _ => True) w ∧ kC (va_A w sz) U U.heap
section SBB
variable {dC : Nat → ClassId} {dI : Nat → Nat → Nat} {cs : Nat → ClassId} {w : va_W}
theorem sPr_bl {a : Array Value} {U : State} {g : JFrame} {mk : MethodId} (q : sPr dC dI cs w U) : sPr dC dI cs w (U.calling g mk a) := ⟨q.1, va_K.moved (u := U) (U := U.calling g mk a) (Vm.Alike.refl U.vm) q.2.1, kC.moved (u := U) (U := U.calling g mk a) (Vm.Alike.refl U.vm) q.2.2⟩
theorem sPw_bl {sz : Nat} {a : Array Value} {U : State} {g : JFrame} {mk : MethodId} (q : sPw dC dI cs sz w U) : sPw dC dI cs sz w (U.calling g mk a) := ⟨q.1, q.2.1, va_K.moved (u := U) (U := U.calling g mk a) (Vm.Alike.refl U.vm) q.2.2.1, q.2.2.2.1, kC.moved (u := U) (U := U.calling g mk a) (Vm.Alike.refl U.vm) q.2.2.2.2⟩
end SBB
abbrev sW (cs : Nat → ClassId) (h q m : Nat) (n b : Int32) (a : Nat → Int32) : va_W := [(h, .inr (0, [.ref q, .int 0, .int b, .int n])), (q, .inl (cs 0, m, .inl a))]
abbrev rm_s (d c w : Nat) : Room := { frames := d, cells := c, slots := w, locals := 40 * d }
theorem sb_max {y z : Nat} (hy : y < 2 ^ 31) (hz : z < 2 ^ 31) : (if nI y < nI z then nI z else nI y) = nI (if y < z then z else y) := by
  by_cases h : y < z
  · rw [if_pos h, if_pos (nI_lt h hz)]
  · rw [if_neg h, if_neg (nI_nlt (by omega) hy)]
/-- its text: the letters L -/
def sI (L : List Nat) (m : Nat) (a : Nat → Int32) : Prop := L.length ≤ m ∧ m ≤ 200 ∧ sb_Fit a ∧ sb_Lat (fun i => L.getD i 0) L.length a
/-- what a builder's own method leaves behind: the same object, its row, a text -/
abbrev sQv (dC : Nat → ClassId) (dI : Nat → Nat → Nat) (cs : Nat → ClassId) (A : Nat → Prop) (h : Nat) (L : List Nat) : Array Value → State → Outcome → State → Prop := va_Qv (fun u : Nat × Nat × Int32 × (Nat → Int32) => sI L u.2.1 u.2.2.2) (fun u t => cB dC dI cs A (sW cs h u.1 u.2.1 (nI L.length) u.2.2.1 u.2.2.2) t) A
abbrev sQr (dC : Nat → ClassId) (dI : Nat → Nat → Nat) (cs : Nat → ClassId) (A : Nat → Prop) (h : Nat) (L : List Nat) : Array Value → State → Outcome → State → Prop := va_Qr (fun u : Nat × Nat × Int32 × (Nat → Int32) => sI L u.2.1 u.2.2.2) (fun u ra t => ra = h ∧ cB dC dI cs A (sW cs h u.1 u.2.1 (nI L.length) u.2.2.1 u.2.2.2) t) A
theorem sI_app {L : List Nat} {m m' w : Nat} {a a' : Nat → Int32} {s : List Nat} (h : sI L m a) (hw : s.length = w) (hm : L.length + w ≤ m') (hm2 : m' ≤ 200) (hf : sb_Fit a') (hk : ∀ j, j < L.length → a' j = a j) (hs : ∀ i, i < w → s.getD i 0 < 256 ∧ a' (L.length + i) = sb_b (s.getD i 0)) : sI (L ++ s) m' a' := by
  obtain ⟨h1, h2, h3, h4⟩ := h
  refine ⟨by rw [List.length_append, hw]; exact hm, hm2, hf, ?_⟩
  intro j hj
  rw [List.length_append, hw] at hj
  show (L ++ s).getD j 0 < 256 ∧ a' j = sb_b ((L ++ s).getD j 0)
  rw [List.getD_eq_getElem?_getD]
  by_cases e : j < L.length
  · rw [List.getElem?_append_left e, ← List.getD_eq_getElem?_getD, hk j e]
    exact h4 j e
  · rw [List.getElem?_append_right (by omega), ← List.getD_eq_getElem?_getD]
    have h9 := hs (j - L.length) (by omega)
    rw [show L.length + (j - L.length) = j by omega] at h9
    exact h9

set_option maxHeartbeats 4000000 in
set_option maxRecDepth 100000 in
theorem c_J5_isLatin1 (l : Launch) (dC : Nat → ClassId) (dI : Nat → Nat → Nat) (cs : Nat → ClassId) (h q z : Nat) (n b : Int32) (a : Nat → Int32) : Met l yJ5_isLatin1_aae02 wsJ5_isLatin1_aae02 (rm_s 1 0 0) (va_Pc [.ref h] (sPr dC dI cs (sW cs h q z n b a))) (kQ (some (.int 1))) 0 0 (kF) := by
  refine Met.ofW (cc := cJ5_isLatin1_aae02) (maxL := 1) (ret := (some .boolean)) (by decide) rfl ?_
  intro p e s m args below meth c s₁ B hml hv
  obtain ⟨hav, hP, hK, hC⟩ := hv
  have hin : ∀ w ∈ wsJ40, w ∈ wsJ5_isLatin1_aae02 := fun w h => List.mem_cons_of_mem _ (List.mem_append_right _ h)
  have hS : va_S kF s.heap s.heap [] := va_S.rf
  have hx := B.exec
  have hb := B.bytes
  have hr := B.returns
  have hts := atoms_spec (ws := wsJ5_isLatin1_aae02) B.pre
  have hown : s.vm.findClass RJ5 = some m.cls := findClass_of_methodNamed B.named
  have hlocks := B.notSynchronized
  have k1 := hts (.fieldLink RJ5 18 "java/lang/String" "COMPACT_STRINGS" "Z") (by decide +kernel)
  have k2 := hts (.fieldLink RJ5 22 "java/lang/AbstractStringBuilder" "coder" "B") (by decide +kernel)
  have hl := lv_entry ([.ref h]) (n := 1) (Nat.le_of_ble_eq_true rfl)
  rw [show entryFrame m args 1 = entryFrame m ([.ref h] : List Value).toArray 1 from by rw [hav], lg_entry_eq]
  generalize (lg_sl ([.ref h]) ++ List.replicate (1 - (lg_sl ([.ref h])).length) Slot.unset).toArray = ls at hl ⊢
  have hl : lv_has ls 1 [(0, .ref h)] := hl
  refine va_gets hx hb hC.1 va_S.rf hown k1 (fun _ h9 => h9) dJ5_isLatin1_aae02_0 ?_
  refine lv_if_eq (tgt := 17) hx hb dJ5_isLatin1_aae02_3 (by decide) (fun h => absurd h (by decide)) (fun _ => ?_)
  refine lv_aload_n hx hb dJ5_isLatin1_aae02_6 rfl (lv_at hl 0 rfl) ?_
  refine va_get (D := (dC, dI)) (ci := 0) (C := RJ4) (T := TJ4) (N := 4) hx hb hts hin hown hK hP 0 rfl rfl 1 (by decide) (v := .int 0) k2 (fun _ h9 => h9) rfl dJ5_isLatin1_aae02_7 ?_
  refine lv_if_ne (tgt := 17) hx hb dJ5_isLatin1_aae02_10 (by decide) (fun h => absurd h (fun z => z rfl)) (fun _ => ?_)
  refine lv_iconst (v := 1) hx hb dJ5_isLatin1_aae02_13 (by decide) ?_
  refine lv_goto (tgt := 18) hx hb dJ5_isLatin1_aae02_14 (by decide) ?_
  exact W.zret (v := (1 : Int32)) (ty := .boolean) hx hb hr rfl (fun t ht hW => ⟨rfl, ht⟩) (fun _ h => nomatch h) dJ5_isLatin1_aae02_18

set_option maxHeartbeats 4000000 in
set_option maxRecDepth 100000 in
theorem c_J5_length (l : Launch) (dC : Nat → ClassId) (dI : Nat → Nat → Nat) (cs : Nat → ClassId) (h q z : Nat) (n b : Int32) (a : Nat → Int32) : Met l yJ5_length_8abf5 wsJ5_length_8abf5 (rm_s 1 0 0) (va_Pc [.ref h] (sPr dC dI cs (sW cs h q z n b a))) (kQ (some (.int n))) 0 0 (kF) := by
  refine Met.ofW (cc := cJ5_length_8abf5) (maxL := 1) (ret := (some .int)) (by decide) rfl ?_
  intro p e s m args below meth c s₁ B hml hv
  obtain ⟨hav, hP, hK, hC⟩ := hv
  have hin : ∀ w ∈ wsJ40, w ∈ wsJ5_length_8abf5 := fun w h => List.mem_cons_of_mem _ (List.mem_append_right _ h)
  have hS : va_S kF s.heap s.heap [] := va_S.rf
  have hx := B.exec
  have hb := B.bytes
  have hr := B.returns
  have hts := atoms_spec (ws := wsJ5_length_8abf5) B.pre
  have hown : s.vm.findClass RJ5 = some m.cls := findClass_of_methodNamed B.named
  have hlocks := B.notSynchronized
  have k1 := hts (.fieldLink RJ5 79 "java/lang/AbstractStringBuilder" "count" "I") (by decide +kernel)
  have hl := lv_entry ([.ref h]) (n := 1) (Nat.le_of_ble_eq_true rfl)
  rw [show entryFrame m args 1 = entryFrame m ([.ref h] : List Value).toArray 1 from by rw [hav], lg_entry_eq]
  generalize (lg_sl ([.ref h]) ++ List.replicate (1 - (lg_sl ([.ref h])).length) Slot.unset).toArray = ls at hl ⊢
  have hl : lv_has ls 1 [(0, .ref h)] := hl
  refine lv_aload_n hx hb dJ5_length_8abf5_0 rfl (lv_at hl 0 rfl) ?_
  refine va_get (D := (dC, dI)) (ci := 0) (C := RJ4) (T := TJ4) (N := 4) hx hb hts hin hown hK hP 0 rfl rfl 3 (by decide) (v := .int n) k1 (fun _ h9 => h9) rfl dJ5_length_8abf5_1 ?_
  exact W.iret (v := n) hx hb hr (fun t ht hW => ⟨rfl, ht⟩) (fun _ h => nomatch h) dJ5_length_8abf5_4

theorem dJ4_length_8abf5_0 : decode cJ4_length_8abf5 0 = .ok (.aload_n 0, 1) := by decide +kernel
theorem dJ4_length_8abf5_1 : decode cJ4_length_8abf5 1 = .ok (.invokespecial 343, 3) := by decide +kernel
set_option maxRecDepth 20000 in
theorem ggJ4_length_8abf5_J5_length_8abf5 : GoodIn wsJ4_length_8abf5 wsJ5_length_8abf5 := goodIn_r _ [6, 7, 8, 9, 10, 11] (by decide +kernel) (by decide +kernel)
set_option maxRecDepth 20000 in
theorem gJ4_length_8abf5_J5_length_8abf5_s343 : GoodIn wsJ4_length_8abf5 (va_wsSU RJ4 343 yJ5_length_8abf5 wsJ5_length_8abf5) := goodIn_app (goodIn_of _ (by decide +kernel)) ggJ4_length_8abf5_J5_length_8abf5
theorem dJ4_length_8abf5_4 : decode cJ4_length_8abf5 4 = .ok (.ireturn, 1) := by decide +kernel
set_option maxHeartbeats 4000000 in
set_option maxRecDepth 100000 in
theorem c_J4_length (l : Launch) (dC : Nat → ClassId) (dI : Nat → Nat → Nat) (cs : Nat → ClassId) (h q z : Nat) (n b : Int32) (a : Nat → Int32) : Met l yJ4_length_8abf5 wsJ4_length_8abf5 (rm_s 2 0 0) (va_Pc [.ref h] (sPr dC dI cs (sW cs h q z n b a))) (kQ (some (.int n))) 0 0 (kF) := by
  refine Met.ofW (cc := cJ4_length_8abf5) (maxL := 1) (ret := (some .int)) (by decide) rfl ?_
  intro p e s m args below meth c s₁ B hml hv
  obtain ⟨hav, hP, hK, hC⟩ := hv
  have hin : ∀ w ∈ wsJ40, w ∈ wsJ4_length_8abf5 := fun w h => List.mem_cons_of_mem _ (List.mem_append_right _ h)
  have hS : va_S kF s.heap s.heap [] := va_S.rf
  have hx := B.exec
  have hb := B.bytes
  have hr := B.returns
  have hts := atoms_spec (ws := wsJ4_length_8abf5) B.pre
  have hown : s.vm.findClass RJ4 = some m.cls := findClass_of_methodNamed B.named
  have hlocks := B.notSynchronized
  have hl := lv_entry ([.ref h]) (n := 1) (Nat.le_of_ble_eq_true rfl)
  rw [show entryFrame m args 1 = entryFrame m ([.ref h] : List Value).toArray 1 from by rw [hav], lg_entry_eq]
  generalize (lg_sl ([.ref h]) ++ List.replicate (1 - (lg_sl ([.ref h])).length) Slot.unset).toArray = ls at hl ⊢
  have hl : lv_has ls 1 [(0, .ref h)] := hl
  refine lv_aload_n hx hb dJ4_length_8abf5_0 rfl (lv_at hl 0 rfl) ?_
  refine ko_call (v := some (.int n)) (va_runSU (hK.1 0 _ rfl).2 (As := []) (rest := []) ⟨hx, hb, hml, hown, hts⟩ (c_J5_length l dC dI cs h q z n b a) (va_cwSU 0 hts gJ4_length_8abf5_J5_length_8abf5_s343 rfl rfl rfl (by decide +kernel) ⟨Nat.le_of_ble_eq_true rfl, Nat.le_of_ble_eq_true rfl⟩) ⟨fun a U g mk q => ⟨q.1, sPr_bl q.2⟩, va_recv hK hP (ci := 0) (q0 := 0) rfl rfl, fun U hU hW => ⟨rfl, ⟨by rw [hU]; exact hP, va_K.moved hW.alike hK, kC.at hC hS (fun _ h => h.elim) U hU hW⟩⟩⟩ rfl rfl hl.1 rfl (lv_room (Nat.le_of_ble_eq_true rfl)) dJ4_length_8abf5_1 ⟨(by first | exact Nat.le_refl _ | exact Nat.zero_le _ | exact Nat.le_of_ble_eq_true rfl | (show 0 + _ ≤ 200; omega)), (by first | exact Nat.le_refl _ | exact Nat.zero_le _ | exact Nat.le_of_ble_eq_true rfl | (show 0 + _ ≤ 200; omega))⟩) ?_
  exact W.iret (v := n) hx hb hr (fun t ht hW => ⟨rfl, ht⟩) (fun _ h => nomatch h) dJ4_length_8abf5_4

theorem dJ8_newLength_cabcc_0 : decode cJ8_newLength_cabcc 0 = .ok (.iload_n 0, 1) := by decide +kernel
theorem dJ8_newLength_cabcc_1 : decode cJ8_newLength_cabcc 1 = .ok (.iload_n 1, 1) := by decide +kernel
theorem dJ8_newLength_cabcc_2 : decode cJ8_newLength_cabcc 2 = .ok (.iload_n 2, 1) := by decide +kernel
theorem dJ8_newLength_cabcc_3 : decode cJ8_newLength_cabcc 3 = .ok (.invokestatic 194, 3) := by decide +kernel
theorem dJ8_newLength_cabcc_6 : decode cJ8_newLength_cabcc 6 = .ok (.iadd, 1) := by decide +kernel
theorem dJ8_newLength_cabcc_7 : decode cJ8_newLength_cabcc 7 = .ok (.istore_n 3, 1) := by decide +kernel
theorem dJ8_newLength_cabcc_8 : decode cJ8_newLength_cabcc 8 = .ok (.iconst 0, 1) := by decide +kernel
theorem dJ8_newLength_cabcc_9 : decode cJ8_newLength_cabcc 9 = .ok (.iload_n 3, 1) := by decide +kernel
theorem dJ8_newLength_cabcc_10 : decode cJ8_newLength_cabcc 10 = .ok (.if_icmp .ge 11, 3) := by decide +kernel
theorem dJ8_newLength_cabcc_13 : decode cJ8_newLength_cabcc 13 = .ok (.iload_n 3, 1) := by decide +kernel
theorem dJ8_newLength_cabcc_14 : decode cJ8_newLength_cabcc 14 = .ok (.ldc 200, 2) := by decide +kernel
theorem dJ8_newLength_cabcc_16 : decode cJ8_newLength_cabcc 16 = .ok (.if_icmp .gt 5, 3) := by decide +kernel
theorem dJ8_newLength_cabcc_19 : decode cJ8_newLength_cabcc 19 = .ok (.iload_n 3, 1) := by decide +kernel
theorem dJ8_newLength_cabcc_20 : decode cJ8_newLength_cabcc 20 = .ok (.ireturn, 1) := by decide +kernel
set_option maxHeartbeats 4000000 in
set_option maxRecDepth 100000 in
theorem c_J8_newLength (l : Launch) (x y z w : Nat) (hx0 : x < 65536) (hy0 : y < 65536) (hz0 : z < 65536) (h0 : 0 < y) (ew : w = x + if y < z then z else y) : Met l yJ8_newLength_cabcc wsJ8_newLength_cabcc (rm_s 1 0 0) (va_Pc [.int (nI x), .int (nI y), .int (nI z)] (fun _ => True)) (kQ (some (.int (nI w)))) 0 0 (kF) := by
  refine Met.ofW (cc := cJ8_newLength_cabcc) (maxL := 4) (ret := (some .int)) (by decide) rfl ?_
  intro p e s m args below meth c s₁ B hml hv
  obtain ⟨hav, -⟩ := hv
  have hx := B.exec
  have hb := B.bytes
  have hr := B.returns
  have hts := atoms_spec (ws := wsJ8_newLength_cabcc) B.pre
  have hown : s.vm.findClass RJ8 = some m.cls := findClass_of_methodNamed B.named
  have hlocks := B.notSynchronized
  have k1 := hts (.methodLink RJ8 194 Lib.Math.max.name) (by decide +kernel)
  have k2 := hts (.static Lib.Math.max.name) (by decide +kernel)
  have k3 := hts (.initialized "java/lang/Math") (by decide +kernel)
  have k4 := hts (.code Lib.Math.max.name Lib.Math.max.code 2 (some .int)) (by decide +kernel)
  have k5 := hts (.constant RJ8 200 (2147483639)) (by decide +kernel)
  have hl := lv_entry ([.int (nI x), .int (nI y), .int (nI z)]) (n := 4) (Nat.le_of_ble_eq_true rfl)
  rw [show entryFrame m args 4 = entryFrame m ([.int (nI x), .int (nI y), .int (nI z)] : List Value).toArray 4 from by rw [hav], lg_entry_eq]
  generalize (lg_sl ([.int (nI x), .int (nI y), .int (nI z)]) ++ List.replicate (4 - (lg_sl ([.int (nI x), .int (nI y), .int (nI z)])).length) Slot.unset).toArray = ls at hl ⊢
  have hl : lv_has ls 4 [(0, .int (nI x)), (1, .int (nI y)), (2, .int (nI z))] := hl
  have hw : 0 < w ∧ w < 200000 := by subst ew; split <;> omega
  refine lv_iload_n hx hb dJ8_newLength_cabcc_0 rfl (lv_at hl 0 rfl) ?_
  refine lv_iload_n hx hb dJ8_newLength_cabcc_1 rfl (lv_at hl 1 rfl) ?_
  refine lv_iload_n hx hb dJ8_newLength_cabcc_2 rfl (lv_at hl 2 rfl) ?_
  refine va_mmax hx hb (by rw [hml]; exact hl.1.symm) hown k1 k2 k3 k4 (by first | decide | exact Nat.le_of_ble_eq_true rfl) (by first | decide | exact Nat.le_of_ble_eq_true rfl) (by first | exact Nat.le_refl _ | exact Nat.zero_le _ | exact Nat.le_of_ble_eq_true rfl | (show 0 + _ ≤ 200; omega)) (by first | exact Nat.le_refl _ | exact Nat.zero_le _ | exact Nat.le_of_ble_eq_true rfl | (show 0 + _ ≤ 200; omega)) dJ8_newLength_cabcc_3 ?_
  refine kt_v (show (.int (if (nI y) < (nI z) then (nI z) else (nI y)) : Value) = .int (nI (if y < z then z else y)) from congrArg Value.int (sb_max (by omega) (by omega))) ?_
  refine lv_iadd hx hb dJ8_newLength_cabcc_6 ?_
  refine kt_v (show (.int ((nI x) + (nI (if y < z then z else y))) : Value) = .int (nI w) from congrArg Value.int (by rw [nI_add, ← ew])) ?_
  refine lv_istore_n (nL := 4) (lv' := [(3, .int (nI w)), (0, .int (nI x)), (1, .int (nI y)), (2, .int (nI z))]) hx hb dJ8_newLength_cabcc_7 rfl hl (by decide) rfl (fun ls hl => ?_)
  refine lv_iconst (v := 0) hx hb dJ8_newLength_cabcc_8 (by decide) ?_
  refine lv_iload_n hx hb dJ8_newLength_cabcc_9 rfl (lv_at hl 0 rfl) ?_
  refine lv_icmp_ge (tgt := 21) hx hb dJ8_newLength_cabcc_10 (by decide) (fun h => absurd h (nI_nle hw.1 (by omega))) (fun _ => ?_)
  refine lv_iload_n hx hb dJ8_newLength_cabcc_13 rfl (lv_at hl 0 rfl) ?_
  refine lv_ldc (v := 2147483639) hx hb hown k5 dJ8_newLength_cabcc_14 ?_
  refine lv_icmp_gt (tgt := 21) hx hb dJ8_newLength_cabcc_16 (by decide) (fun h => absurd h (nI_nlt (a := 2147483639) (b := w) (by omega) (by decide))) (fun _ => ?_)
  refine lv_iload_n hx hb dJ8_newLength_cabcc_19 rfl (lv_at hl 0 rfl) ?_
  exact W.iret (v := nI w) hx hb hr (fun t ht hW => ⟨rfl, ht⟩) (fun _ h => nomatch h) dJ8_newLength_cabcc_20

set_option maxHeartbeats 4000000 in
set_option maxRecDepth 100000 in
theorem c_J5_newCapacity (l : Launch) (dC : Nat → ClassId) (dI : Nat → Nat → Nat) (cs : Nat → ClassId) (h q z : Nat) (n b : Int32) (a : Nat → Int32) (k w : Nat) (hm : z < k) (hk : k ≤ 64) (ew : w = z + if k - z < z + 2 then z + 2 else k - z) : Met l yJ5_newCapacity_0f7a4 wsJ5_newCapacity_0f7a4 (rm_s 2 0 0) (va_Pc [.ref h, .int (nI k)] (sPr dC dI cs (sW cs h q z n b a))) (kQ (some (.int (nI w)))) 0 0 (kF) := by
  refine Met.ofW (cc := cJ5_newCapacity_0f7a4) (maxL := 6) (ret := (some .int)) (by decide) rfl ?_
  intro p e s m args below meth c s₁ B hml hv
  obtain ⟨hav, hP, hK, hC⟩ := hv
  have hin : ∀ w ∈ wsJ40, w ∈ wsJ5_newCapacity_0f7a4 := fun w h => List.mem_cons_of_mem _ (List.mem_append_right _ h)
  have hS : va_S kF s.heap s.heap [] := va_S.rf
  have hx := B.exec
  have hb := B.bytes
  have hr := B.returns
  have hts := atoms_spec (ws := wsJ5_newCapacity_0f7a4) B.pre
  have hown : s.vm.findClass RJ5 = some m.cls := findClass_of_methodNamed B.named
  have hlocks := B.notSynchronized
  have k1 := hts (.fieldLink RJ5 15 "java/lang/AbstractStringBuilder" "value" "[B") (by decide +kernel)
  have k2 := hts (.fieldLink RJ5 22 "java/lang/AbstractStringBuilder" "coder" "B") (by decide +kernel)
  have k3 := hts (.constant RJ5 39 (2147483647)) (by decide +kernel)
  have hl := lv_entry ([.ref h, .int (nI k)]) (n := 6) (Nat.le_of_ble_eq_true rfl)
  rw [show entryFrame m args 6 = entryFrame m ([.ref h, .int (nI k)] : List Value).toArray 6 from by rw [hav], lg_entry_eq]
  generalize (lg_sl ([.ref h, .int (nI k)]) ++ List.replicate (6 - (lg_sl ([.ref h, .int (nI k)])).length) Slot.unset).toArray = ls at hl ⊢
  have hl : lv_has ls 6 [(0, .ref h), (1, .int (nI k))] := hl
  have hw : w < 200000 := by subst ew; split <;> omega
  refine lv_aload_n hx hb dJ5_newCapacity_0f7a4_0 rfl (lv_at hl 0 rfl) ?_
  refine va_get (D := (dC, dI)) (ci := 0) (C := RJ4) (T := TJ4) (N := 4) hx hb hts hin hown hK hP 0 rfl rfl 0 (by decide) (v := .ref q) k1 (fun _ h9 => h9) rfl dJ5_newCapacity_0f7a4_1 ?_
  refine va_alen hx hb hK hP 1 0 rfl rfl (v := (nI z)) rfl dJ5_newCapacity_0f7a4_4 ?_
  refine lv_istore_n (nL := 6) (lv' := [(2, .int (nI z)), (0, .ref h), (1, .int (nI k))]) hx hb dJ5_newCapacity_0f7a4_5 rfl hl (by decide) rfl (fun ls hl => ?_)
  refine lv_iload_n hx hb dJ5_newCapacity_0f7a4_6 rfl (lv_at hl 2 rfl) ?_
  refine lv_aload_n hx hb dJ5_newCapacity_0f7a4_7 rfl (lv_at hl 1 rfl) ?_
  refine va_get (D := (dC, dI)) (ci := 0) (C := RJ4) (T := TJ4) (N := 4) hx hb hts hin hown hK hP 0 rfl rfl 1 (by decide) (v := .int 0) k2 (fun _ h9 => h9) rfl dJ5_newCapacity_0f7a4_8 ?_
  refine lv_ishl hx hb dJ5_newCapacity_0f7a4_11 ?_
  refine kt_v (show (.int (((nI k) : Int32) <<< ((0 : Int32) &&& 31)) : Value) = .int (nI k) from congrArg Value.int (sb_shl0 _)) ?_
  refine lv_istore_n (nL := 6) (lv' := [(3, .int (nI k)), (2, .int (nI z)), (0, .ref h), (1, .int (nI k))]) hx hb dJ5_newCapacity_0f7a4_12 rfl hl (by decide) rfl (fun ls hl => ?_)
  refine lv_iload_n hx hb dJ5_newCapacity_0f7a4_13 rfl (lv_at hl 0 rfl) ?_
  refine lv_iload_n hx hb dJ5_newCapacity_0f7a4_14 rfl (lv_at hl 1 rfl) ?_
  refine lv_isub hx hb dJ5_newCapacity_0f7a4_15 ?_
  refine kt_v (show (.int ((nI k) - (nI z)) : Value) = .int (nI (k - z)) from congrArg Value.int (pk_sub (by omega))) ?_
  refine lv_istore (nL := 6) (lv' := [(4, .int (nI (k - z))), (3, .int (nI k)), (2, .int (nI z)), (0, .ref h), (1, .int (nI k))]) hx hb dJ5_newCapacity_0f7a4_16 hl (by decide) rfl (fun ls hl => ?_)
  refine lv_iload_n hx hb dJ5_newCapacity_0f7a4_18 rfl (lv_at hl 2 rfl) ?_
  refine lv_iload hx hb dJ5_newCapacity_0f7a4_19 (lv_at hl 0 rfl) ?_
  refine lv_iload_n hx hb dJ5_newCapacity_0f7a4_21 rfl (lv_at hl 2 rfl) ?_
  refine lv_iconst (v := 2) hx hb dJ5_newCapacity_0f7a4_22 (by decide) ?_
  refine lv_aload_n hx hb dJ5_newCapacity_0f7a4_23 rfl (lv_at hl 3 rfl) ?_
  refine va_get (D := (dC, dI)) (ci := 0) (C := RJ4) (T := TJ4) (N := 4) hx hb hts hin hown hK hP 0 rfl rfl 1 (by decide) (v := .int 0) k2 (fun _ h9 => h9) rfl dJ5_newCapacity_0f7a4_24 ?_
  refine lv_ishl hx hb dJ5_newCapacity_0f7a4_27 ?_
  refine kt_v (show (.int ((2 : Int32) <<< ((0 : Int32) &&& 31)) : Value) = .int 2 from congrArg Value.int (sb_shl0 _)) ?_
  refine lv_iadd hx hb dJ5_newCapacity_0f7a4_28 ?_
  refine kt_v (show (.int ((nI z) + 2) : Value) = .int (nI (z + 2)) from congrArg Value.int (nI_add z 2)) ?_
  refine ko_call (v := some (.int (nI w))) (va_runS (As := [.int (nI z), .int (nI (k - z)), .int (nI (z + 2))]) (rest := []) ⟨hx, hb, hml, hown, hts⟩ (c_J8_newLength l z (k - z) (z + 2) w (by omega) (by omega) (by omega) (by omega) ew) (va_cwS 3 hts gJ5_newCapacity_0f7a4_J8_newLength_cabcc rfl rfl rfl (by decide +kernel) ⟨Nat.le_of_ble_eq_true rfl, Nat.le_of_ble_eq_true rfl⟩) ⟨fun a U g mk q => ⟨q.1, trivial⟩, fun U hU hW => ⟨rfl, trivial⟩⟩ rfl rfl hl.1 rfl (lv_room (Nat.le_of_ble_eq_true rfl)) dJ5_newCapacity_0f7a4_29 ⟨(by first | exact Nat.le_refl _ | exact Nat.zero_le _ | exact Nat.le_of_ble_eq_true rfl | (show 0 + _ ≤ 200; omega)), (by first | exact Nat.le_refl _ | exact Nat.zero_le _ | exact Nat.le_of_ble_eq_true rfl | (show 0 + _ ≤ 200; omega))⟩) ?_
  refine lv_istore (nL := 6) (lv' := [(5, .int (nI w)), (4, .int (nI (k - z))), (3, .int (nI k)), (2, .int (nI z)), (0, .ref h), (1, .int (nI k))]) hx hb dJ5_newCapacity_0f7a4_32 hl (by decide) rfl (fun ls hl => ?_)
  refine lv_iload hx hb dJ5_newCapacity_0f7a4_34 (lv_at hl 0 rfl) ?_
  refine lv_ldc (v := 2147483647) hx hb hown k3 dJ5_newCapacity_0f7a4_36 ?_
  refine lv_icmp_ne (tgt := 51) hx hb dJ5_newCapacity_0f7a4_38 (by decide) (fun _ => ?_) (fun h => absurd h (fun e => by have := (nI_eq (a := w) (b := 2147483647) (by omega) (by decide)).mp e; omega))
  refine lv_iload hx hb dJ5_newCapacity_0f7a4_51 (lv_at hl 0 rfl) ?_
  refine lv_aload_n hx hb dJ5_newCapacity_0f7a4_53 rfl (lv_at hl 4 rfl) ?_
  refine va_get (D := (dC, dI)) (ci := 0) (C := RJ4) (T := TJ4) (N := 4) hx hb hts hin hown hK hP 0 rfl rfl 1 (by decide) (v := .int 0) k2 (fun _ h9 => h9) rfl dJ5_newCapacity_0f7a4_54 ?_
  refine lv_ishr hx hb dJ5_newCapacity_0f7a4_57 ?_
  refine kt_v (show (.int (((nI w) : Int32) >>> ((0 : Int32) &&& 31)) : Value) = .int (nI w) from congrArg Value.int (sb_shr0 _)) ?_
  exact W.iret (v := nI w) hx hb hr (fun t ht hW => ⟨rfl, ht⟩) (fun _ h => nomatch h) dJ5_newCapacity_0f7a4_58

theorem dJ7_copyOf_9075b_0 : decode cJ7_copyOf_9075b 0 = .ok (.iload_n 1, 1) := by decide +kernel
theorem dJ7_copyOf_9075b_1 : decode cJ7_copyOf_9075b 1 = .ok (.aload_n 0, 1) := by decide +kernel
theorem dJ7_copyOf_9075b_2 : decode cJ7_copyOf_9075b 2 = .ok (.arraylength, 1) := by decide +kernel
theorem dJ7_copyOf_9075b_3 : decode cJ7_copyOf_9075b 3 = .ok (.if_icmp .ne 11, 3) := by decide +kernel
theorem dJ7_copyOf_9075b_14 : decode cJ7_copyOf_9075b 14 = .ok (.iload_n 1, 1) := by decide +kernel
theorem dJ7_copyOf_9075b_15 : decode cJ7_copyOf_9075b 15 = .ok (.newarray .byte, 2) := by decide +kernel
theorem dJ7_copyOf_9075b_17 : decode cJ7_copyOf_9075b 17 = .ok (.astore_n 2, 1) := by decide +kernel
theorem dJ7_copyOf_9075b_18 : decode cJ7_copyOf_9075b 18 = .ok (.aload_n 0, 1) := by decide +kernel
theorem dJ7_copyOf_9075b_19 : decode cJ7_copyOf_9075b 19 = .ok (.iconst 0, 1) := by decide +kernel
theorem dJ7_copyOf_9075b_20 : decode cJ7_copyOf_9075b 20 = .ok (.aload_n 2, 1) := by decide +kernel
theorem dJ7_copyOf_9075b_21 : decode cJ7_copyOf_9075b 21 = .ok (.iconst 0, 1) := by decide +kernel
theorem dJ7_copyOf_9075b_22 : decode cJ7_copyOf_9075b 22 = .ok (.aload_n 0, 1) := by decide +kernel
theorem dJ7_copyOf_9075b_23 : decode cJ7_copyOf_9075b 23 = .ok (.arraylength, 1) := by decide +kernel
theorem dJ7_copyOf_9075b_24 : decode cJ7_copyOf_9075b 24 = .ok (.iload_n 1, 1) := by decide +kernel
theorem dJ7_copyOf_9075b_25 : decode cJ7_copyOf_9075b 25 = .ok (.invokestatic 304, 3) := by decide +kernel
theorem dJ7_copyOf_9075b_28 : decode cJ7_copyOf_9075b 28 = .ok (.invokestatic 150, 3) := by decide +kernel
theorem dJ7_copyOf_9075b_31 : decode cJ7_copyOf_9075b 31 = .ok (.aload_n 2, 1) := by decide +kernel
theorem dJ7_copyOf_9075b_32 : decode cJ7_copyOf_9075b 32 = .ok (.areturn, 1) := by decide +kernel
set_option maxHeartbeats 4000000 in
set_option maxRecDepth 100000 in
theorem c_J7_copyOf (l : Launch) (dC : Nat → ClassId) (dI : Nat → Nat → Nat) (cs : Nat → ClassId) (q z : Nat) (a : Nat → Int32) (k sz : Nat) (hm : z < k) (hk : k ≤ 200) (hf : sb_Fit a) : Met l yJ7_copyOf_9075b wsJ7_copyOf_9075b (rm_s 1 1 200) (va_Pc [.ref q, .int (nI k)] (sPw dC dI cs sz [(q, .inl (cs 0, z, .inl a))])) (va_Qr (fun u : Nat → Int32 => (∀ j, j < z → u j = a j) ∧ sb_Fit u) (fun u ra t => cB dC dI cs (va_A [(q, .inl (cs 0, z, .inl a))] sz) [(q, .inl (cs 0, z, .inl a)), (ra, .inl (cs 0, k, .inl u))] t) (va_A [(q, .inl (cs 0, z, .inl a))] sz)) 1 200 (va_A [(q, .inl (cs 0, z, .inl a))] sz) := by
  refine Met.ofW (cc := cJ7_copyOf_9075b) (maxL := 3) (ret := (some (.array .byte))) (by decide) rfl ?_
  intro p e s m args below meth c s₁ B hml hv
  obtain ⟨hav, hsz, hP, hK, hD0, hC⟩ := hv
  subst hsz
  have hA : ∀ q9, s.heap.size ≤ q9 → va_A [(q, .inl (cs 0, z, .inl a))] s.heap.size q9 := fun q9 h => Or.inr h
  have hS : va_S (va_A [(q, .inl (cs 0, z, .inl a))] s.heap.size) s.heap s.heap [] := va_S.rf
  have hD : va_D (va_A [(q, .inl (cs 0, z, .inl a))] s.heap.size) [(q, .inl (cs 0, z, .inl a))] := hD0.self
  have hx := B.exec
  have hb := B.bytes
  have hr := B.returns
  have hts := atoms_spec (ws := wsJ7_copyOf_9075b) B.pre
  have hown : s.vm.findClass RJ7 = some m.cls := findClass_of_methodNamed B.named
  have hlocks := B.notSynchronized
  have k1 := hts (.arrayClass .byte) (by decide +kernel)
  have k2 := hts (.methodLink RJ7 304 Lib.Math.min.name) (by decide +kernel)
  have k3 := hts (.static Lib.Math.min.name) (by decide +kernel)
  have k4 := hts (.initialized "java/lang/Math") (by decide +kernel)
  have k5 := hts (.code Lib.Math.min.name Lib.Math.min.code 2 (some .int)) (by decide +kernel)
  have k6 := hts (.methodLink RJ7 150 arraycopyName) (by decide +kernel)
  have k7 := hts (.native arraycopyName) (by decide +kernel)
  have k8 := hts (.static arraycopyName) (by decide +kernel)
  have k9 := hts (.initialized "java/lang/System") (by decide +kernel)
  have hl := lv_entry ([.ref q, .int (nI k)]) (n := 3) (Nat.le_of_ble_eq_true rfl)
  rw [show entryFrame m args 3 = entryFrame m ([.ref q, .int (nI k)] : List Value).toArray 3 from by rw [hav], lg_entry_eq]
  generalize (lg_sl ([.ref q, .int (nI k)]) ++ List.replicate (3 - (lg_sl ([.ref q, .int (nI k)])).length) Slot.unset).toArray = ls at hl ⊢
  have hl : lv_has ls 3 [(0, .ref q), (1, .int (nI k))] := hl
  refine lv_iload_n hx hb dJ7_copyOf_9075b_0 rfl (lv_at hl 1 rfl) ?_
  refine lv_aload_n hx hb dJ7_copyOf_9075b_1 rfl (lv_at hl 0 rfl) ?_
  refine va_alen hx hb hK hP 0 0 rfl rfl (v := (nI z)) rfl dJ7_copyOf_9075b_2 ?_
  refine lv_icmp_ne (tgt := 14) hx hb dJ7_copyOf_9075b_3 (by decide) (fun _ => ?_) (fun h => absurd h (fun e => by have := (nI_eq (a := k) (b := z) (by omega) (by omega)).mp e; omega))
  refine lv_iload_n hx hb dJ7_copyOf_9075b_14 rfl (lv_at hl 1 rfl) ?_
  refine va_newa (atype := .byte) (a0 := (k, .inl (fun _ => 0))) (N' := k) hx hb k1 (ty := .byte) rfl hK hP hD hS hA (fun _ => rfl) (nI_pos (by omega)) (nI_clamp (by omega)) (show k * 1 ≤ 536870912 by omega) (Nat.le_refl _) (show 0 + k ≤ 200 by omega) dJ7_copyOf_9075b_15 (fun q2 cA H hK2 hP hD hS => ?_)
  have ecA : cA = cs 0 := Option.some.inj (((hK2.2 8 _ rfl).2 : s.vm.findClass _ = some _).symm.trans ((hK.2 0 _ rfl).2 : s.vm.findClass _ = some _))
  subst ecA
  have hP : va_P (dC, dI) vwCl [(q, .inl (cs 0, z, .inl a)), (q2, .inl (cs 0, k, .inl (fun _ => 0)))] H := hP
  have hD : va_D (va_A [(q, .inl (cs 0, z, .inl a))] s.heap.size) [(q, .inl (cs 0, z, .inl a)), (q2, .inl (cs 0, k, .inl (fun _ => 0)))] := hD
  refine lv_astore_n (nL := 3) (lv' := [(2, .ref q2), (0, .ref q), (1, .int (nI k))]) hx hb dJ7_copyOf_9075b_17 rfl hl (by decide) rfl (fun ls hl => ?_)
  refine lv_aload_n hx hb dJ7_copyOf_9075b_18 rfl (lv_at hl 1 rfl) ?_
  refine lv_iconst (v := 0) hx hb dJ7_copyOf_9075b_19 (by decide) ?_
  refine lv_aload_n hx hb dJ7_copyOf_9075b_20 rfl (lv_at hl 0 rfl) ?_
  refine lv_iconst (v := 0) hx hb dJ7_copyOf_9075b_21 (by decide) ?_
  refine lv_aload_n hx hb dJ7_copyOf_9075b_22 rfl (lv_at hl 1 rfl) ?_
  refine va_alen hx hb hK hP 0 0 rfl rfl (v := (nI z)) rfl dJ7_copyOf_9075b_23 ?_
  refine lv_iload_n hx hb dJ7_copyOf_9075b_24 rfl (lv_at hl 2 rfl) ?_
  refine va_mmin hx hb (by rw [hml]; exact hl.1.symm) hown k2 k3 k4 k5 (by first | decide | exact Nat.le_of_ble_eq_true rfl) (by first | decide | exact Nat.le_of_ble_eq_true rfl) (by first | exact Nat.le_refl _ | exact Nat.zero_le _ | exact Nat.le_of_ble_eq_true rfl | (show 0 + _ ≤ 200; omega)) (by first | exact Nat.le_refl _ | exact Nat.zero_le _ | exact Nat.le_of_ble_eq_true rfl | (show 0 + _ ≤ 200; omega)) dJ7_copyOf_9075b_25 ?_
  refine kt_v (show (.int (if (nI k) < (nI z) then (nI k) else (nI z)) : Value) = .int (nI z) from congrArg Value.int (if_neg (nI_nlt (by omega) (by omega)))) ?_
  refine va_copyi hx hb (by rw [hml]; exact hl.1.symm) hown k6 k7 k8 k9 hK hP hD hS 0 1 0 0 rfl rfl rfl rfl rfl (by decide) (by decide) (nI_pos (by omega)) (show (0 : Int32).toNatClampNeg + (nI z).toNatClampNeg ≤ z by rw [sb_cl0, nI_clamp (by omega)]; omega) (show (0 : Int32).toNatClampNeg + (nI z).toNatClampNeg ≤ k by rw [sb_cl0, nI_clamp (by omega)]; omega) (fun i _ => hf _) (by first | decide | exact Nat.le_of_ble_eq_true rfl) (by first | decide | exact Nat.le_of_ble_eq_true rfl) dJ7_copyOf_9075b_28 (fun H locs hP hD hS => ?_)
  have hP : va_P (dC, dI) vwCl [(q, .inl (cs 0, z, .inl a)), (q2, .inl (cs 0, k, .inl (va_cpy a (fun _ => 0) 0 0 z)))] H := by rw [sb_cl0, nI_clamp (n := z) (by omega)] at hP; exact hP
  have hD : va_D (va_A [(q, .inl (cs 0, z, .inl a))] s.heap.size) [(q, .inl (cs 0, z, .inl a)), (q2, .inl (cs 0, k, .inl (va_cpy a (fun _ => 0) 0 0 z)))] := by rw [sb_cl0, nI_clamp (n := z) (by omega)] at hD; exact hD
  refine lv_aload_n hx hb dJ7_copyOf_9075b_31 rfl (lv_at hl 0 rfl) ?_
  refine W.widen (k := 1) (n := 200) (Nat.le_refl _) (show 0 + k ≤ 200 by omega) ?_
  exact W.aret (v := .ref q2) (rt := .array .byte) hx hb hr (Or.inr ⟨_, rfl⟩) (Or.inr ⟨_, rfl⟩) (fun t ht hW => ⟨⟨va_cpy a (fun _ => 0) 0 0 z, q2, rfl, ⟨fun j hj => sb_cpy0 hj, sb_fitC hf sb_fit0⟩, by rw [ht]; exact hP, va_K.moved hW.alike hK, hD⟩, hS.F ht⟩) hS.2.2 dJ7_copyOf_9075b_32

set_option maxHeartbeats 4000000 in
set_option maxRecDepth 100000 in
theorem c_J5_ens (l : Launch) (dC : Nat → ClassId) (dI : Nat → Nat → Nat) (cs : Nat → ClassId) (h q z : Nat) (n b : Int32) (a : Nat → Int32) (k sz : Nat) (hm : z ≤ 200) (hk : k ≤ 64) (hf : sb_Fit a) : Met l yJ5_ensureCapacityInternal_d00df wsJ5_ensureCapacityInternal_d00df (rm_s 3 1 200) (va_Pc [.ref h, .int (nI k)] (sPw dC dI cs sz (sW cs h q z n b a))) (va_Qv (fun u : Nat × Nat × (Nat → Int32) => k ≤ u.2.1 ∧ z ≤ u.2.1 ∧ u.2.1 ≤ 200 ∧ sb_Fit u.2.2 ∧ ∀ j, j < z → u.2.2 j = a j) (fun u t => cB dC dI cs (va_A (sW cs h q z n b a) sz) (sW cs h u.1 u.2.1 n b u.2.2) t) (va_A (sW cs h q z n b a) sz)) 1 200 (va_A (sW cs h q z n b a) sz) := by
  refine Met.ofW (cc := cJ5_ensureCapacityInternal_d00df) (maxL := 3) (ret := none) (by decide) rfl ?_
  intro p e s m args below meth c s₁ B hml hv
  obtain ⟨hav, hsz, hP, hK, hD0, hC⟩ := hv
  subst hsz
  have hin : ∀ w ∈ wsJ40, w ∈ wsJ5_ensureCapacityInternal_d00df := fun w h => List.mem_cons_of_mem _ (List.mem_append_right _ h)
  have hA : ∀ q9, s.heap.size ≤ q9 → va_A (sW cs h q z n b a) s.heap.size q9 := fun q9 h => Or.inr h
  have hS : va_S (va_A (sW cs h q z n b a) s.heap.size) s.heap s.heap [] := va_S.rf
  have hD : va_D (va_A (sW cs h q z n b a) s.heap.size) (sW cs h q z n b a) := hD0.self
  have hx := B.exec
  have hb := B.bytes
  have hr := B.returns
  have hts := atoms_spec (ws := wsJ5_ensureCapacityInternal_d00df) B.pre
  have hown : s.vm.findClass RJ5 = some m.cls := findClass_of_methodNamed B.named
  have hlocks := B.notSynchronized
  have k1 := hts (.fieldLink RJ5 15 "java/lang/AbstractStringBuilder" "value" "[B") (by decide +kernel)
  have k2 := hts (.fieldLink RJ5 22 "java/lang/AbstractStringBuilder" "coder" "B") (by decide +kernel)
  have hl := lv_entry ([.ref h, .int (nI k)]) (n := 3) (Nat.le_of_ble_eq_true rfl)
  rw [show entryFrame m args 3 = entryFrame m ([.ref h, .int (nI k)] : List Value).toArray 3 from by rw [hav], lg_entry_eq]
  generalize (lg_sl ([.ref h, .int (nI k)]) ++ List.replicate (3 - (lg_sl ([.ref h, .int (nI k)])).length) Slot.unset).toArray = ls at hl ⊢
  have hl : lv_has ls 3 [(0, .ref h), (1, .int (nI k))] := hl
  refine lv_aload_n hx hb dJ5_ensureCapacityInternal_d00df_0 rfl (lv_at hl 0 rfl) ?_
  refine va_get (D := (dC, dI)) (ci := 0) (C := RJ4) (T := TJ4) (N := 4) hx hb hts hin hown hK hP 0 rfl rfl 0 (by decide) (v := .ref q) k1 (fun _ h9 => h9) rfl dJ5_ensureCapacityInternal_d00df_1 ?_
  refine va_alen hx hb hK hP 1 0 rfl rfl (v := (nI z)) rfl dJ5_ensureCapacityInternal_d00df_4 ?_
  refine lv_aload_n hx hb dJ5_ensureCapacityInternal_d00df_5 rfl (lv_at hl 0 rfl) ?_
  refine va_get (D := (dC, dI)) (ci := 0) (C := RJ4) (T := TJ4) (N := 4) hx hb hts hin hown hK hP 0 rfl rfl 1 (by decide) (v := .int 0) k2 (fun _ h9 => h9) rfl dJ5_ensureCapacityInternal_d00df_6 ?_
  refine lv_ishr hx hb dJ5_ensureCapacityInternal_d00df_9 ?_
  refine kt_v (show (.int (((nI z) : Int32) >>> ((0 : Int32) &&& 31)) : Value) = .int (nI z) from congrArg Value.int (sb_shr0 _)) ?_
  refine lv_istore_n (nL := 3) (lv' := [(2, .int (nI z)), (0, .ref h), (1, .int (nI k))]) hx hb dJ5_ensureCapacityInternal_d00df_10 rfl hl (by decide) rfl (fun ls hl => ?_)
  refine lv_iload_n hx hb dJ5_ensureCapacityInternal_d00df_11 rfl (lv_at hl 2 rfl) ?_
  refine lv_iload_n hx hb dJ5_ensureCapacityInternal_d00df_12 rfl (lv_at hl 0 rfl) ?_
  refine lv_isub hx hb dJ5_ensureCapacityInternal_d00df_13 ?_
  by_cases hkm : k ≤ z
  · refine lv_if_le (tgt := 38) hx hb dJ5_ensureCapacityInternal_d00df_14 (by decide) (fun _ => ?_) (fun h => absurd (by rw [Int32.le_iff_toInt_le, pk_sub_toInt (by omega) (by omega), Int32.toInt_zero]; omega) h)
    refine W.widen (k := 1) (n := 200) (Nat.zero_le _) (Nat.zero_le _) ?_
    exact W.vret hx hb hr (fun t ht hW => ⟨⟨(q, z, a), rfl, ⟨hkm, Nat.le_refl _, hm, hf, fun _ _ => rfl⟩, by rw [ht]; exact hP, va_K.moved hW.alike hK, hD⟩, hS.F ht⟩) hS.2.2 dJ5_ensureCapacityInternal_d00df_38
  · refine lv_if_le (tgt := 38) hx hb dJ5_ensureCapacityInternal_d00df_14 (by decide) (fun h => absurd h (by rw [Int32.le_iff_toInt_le, pk_sub_toInt (by omega) (by omega), Int32.toInt_zero]; omega)) (fun _ => ?_)
    obtain ⟨w, ew⟩ : ∃ w : Nat, w = z + (if k - z < z + 2 then z + 2 else k - z) := ⟨_, rfl⟩
    have hw : k ≤ w ∧ z < w ∧ w ≤ 200 := by subst ew; split <;> omega
    refine lv_aload_n hx hb dJ5_ensureCapacityInternal_d00df_17 rfl (lv_at hl 1 rfl) ?_
    refine lv_aload_n hx hb dJ5_ensureCapacityInternal_d00df_18 rfl (lv_at hl 1 rfl) ?_
    refine va_get (D := (dC, dI)) (ci := 0) (C := RJ4) (T := TJ4) (N := 4) hx hb hts hin hown hK hP 0 rfl rfl 0 (by decide) (v := .ref q) k1 (fun _ h9 => h9) rfl dJ5_ensureCapacityInternal_d00df_19 ?_
    refine lv_aload_n hx hb dJ5_ensureCapacityInternal_d00df_22 rfl (lv_at hl 1 rfl) ?_
    refine lv_iload_n hx hb dJ5_ensureCapacityInternal_d00df_23 rfl (lv_at hl 2 rfl) ?_
    refine ko_call (v := some (.int (nI w))) (va_runU (C := RJ4) (As := [.int (nI k)]) (rest := [.ref q, .ref h]) ⟨hx, hb, hml, hown, hts⟩ (c_J5_newCapacity l dC dI cs h q z n b a k w (by omega) hk ew) (va_cwU 1 hts gJ5_ensureCapacityInternal_d00df_J5_newCapacity_0f7a4_u104J4 rfl rfl rfl rfl (by decide +kernel) ⟨Nat.le_of_ble_eq_true rfl, Nat.le_of_ble_eq_true rfl⟩) ⟨fun a U g mk q => ⟨q.1, sPr_bl q.2⟩, va_recv hK hP (ci := 0) (q0 := 0) rfl rfl, fun U hU hW => ⟨rfl, ⟨by rw [hU]; exact hP, va_K.moved hW.alike hK, kC.at hC hS (fun _ h => h.elim) U hU hW⟩⟩⟩ rfl rfl hl.1 rfl (lv_room (Nat.le_of_ble_eq_true rfl)) dJ5_ensureCapacityInternal_d00df_24 ⟨(by first | exact Nat.le_refl _ | exact Nat.zero_le _ | exact Nat.le_of_ble_eq_true rfl | (show 0 + _ ≤ 200; omega)), (by first | exact Nat.le_refl _ | exact Nat.zero_le _ | exact Nat.le_of_ble_eq_true rfl | (show 0 + _ ≤ 200; omega))⟩) ?_
    refine lv_aload_n hx hb dJ5_ensureCapacityInternal_d00df_27 rfl (lv_at hl 1 rfl) ?_
    refine va_get (D := (dC, dI)) (ci := 0) (C := RJ4) (T := TJ4) (N := 4) hx hb hts hin hown hK hP 0 rfl rfl 1 (by decide) (v := .int 0) k2 (fun _ h9 => h9) rfl dJ5_ensureCapacityInternal_d00df_28 ?_
    refine lv_ishl hx hb dJ5_ensureCapacityInternal_d00df_31 ?_
    refine kt_v (show (.int (((nI w) : Int32) <<< ((0 : Int32) &&& 31)) : Value) = .int (nI w) from congrArg Value.int (sb_shl0 _)) ?_
    have hF := va_free (wc := [(q, .inl (cs 0, z, .inl a))]) hD hS hA [1] rfl
    refine va_callr (va_runS (As := [.ref q, .int (nI w)]) (rest := [.ref h]) ⟨hx, hb, hml, hown, hts⟩ (c_J7_copyOf l dC dI cs q z a w s.heap.size hw.2.1 hw.2.2 hf) (va_cwS 2 hts gJ5_ensureCapacityInternal_d00df_J7_copyOf_9075b rfl rfl rfl (by decide +kernel) ⟨Nat.le_of_ble_eq_true rfl, Nat.le_of_ble_eq_true rfl⟩) ⟨fun a U g mk q => ⟨q.1, sPw_bl q.2⟩, fun U hU hW => ⟨rfl, by rw [hU], by rw [hU]; exact hP.sub [1] rfl, va_K.moved hW.alike hK, (hD.sub (ws' := [(q, .inl (cs 0, z, .inl a))]) [1] (by decide) rfl).weaken (fun _ _ _ _ => trivial), kC.at hC hS hF U hU hW⟩⟩ rfl rfl hl.1 rfl (lv_room (Nat.le_of_ble_eq_true rfl)) dJ5_ensureCapacityInternal_d00df_32 ⟨(by first | exact Nat.le_refl _ | exact Nat.zero_le _ | exact Nat.le_of_ble_eq_true rfl | (show 0 + _ ≤ 200; omega)), (by first | exact Nat.le_refl _ | exact Nat.zero_le _ | exact Nat.le_of_ble_eq_true rfl | (show 0 + _ ≤ 200; omega))⟩) hS (fun q _ h => hF q h) hF (fun u ra t H1 locs ht hvm hu hB hz hk hS => ?_)
    obtain ⟨hP1, hK1, hD1⟩ := hB
    rw [ht] at hP1
    obtain ⟨hP, hD⟩ := va_join (wr := [(h, .inr (0, [.ref q, .int 0, .int b, .int n]))]) (w1 := [(q, .inl (cs 0, z, .inl a)), (ra, .inl (cs 0, w, .inl u))]) hP hD [1] [0] rfl rfl (by decide) (by decide) hk hF hP1 hD1
    generalize H1 = H at hP hS ⊢
    have hP : va_P (dC, dI) vwCl [(h, .inr (0, [.ref q, .int 0, .int b, .int n])), (q, .inl (cs 0, z, .inl a)), (ra, .inl (cs 0, w, .inl u))] H := hP
    have hD : va_D (va_A (sW cs h q z n b a) s.heap.size) [(h, .inr (0, [.ref q, .int 0, .int b, .int n])), (q, .inl (cs 0, z, .inl a)), (ra, .inl (cs 0, w, .inl u))] := hD
    refine va_put (D := (dC, dI)) (ci := 0) (v := .ref ra) (ty := .array .byte) (C := RJ4) (T := TJ4) (N := 4) hx hb hts hin tyJ4 tyJ4_ok nmJ4 hown hK hP hD hS 0 rfl rfl 0 (by decide) k1 (fun _ h9 => h9) rfl (by decide +kernel) rfl rfl (Nat.le_of_ble_eq_true rfl) dJ5_ensureCapacityInternal_d00df_35 (fun H locs hP hD hS => ?_)
    have hP : va_P (dC, dI) vwCl [(h, .inr (0, [.ref ra, .int 0, .int b, .int n])), (q, .inl (cs 0, z, .inl a)), (ra, .inl (cs 0, w, .inl u))] H := hP
    have hD : va_D (va_A (sW cs h q z n b a) s.heap.size) [(h, .inr (0, [.ref ra, .int 0, .int b, .int n])), (q, .inl (cs 0, z, .inl a)), (ra, .inl (cs 0, w, .inl u))] := hD
    have hP := hP.sub (ws' := sW cs h ra w n b u) [0, 2] rfl
    have hD := hD.sub (ws' := sW cs h ra w n b u) [0, 2] (by decide) rfl
    refine W.widen (k := 1) (n := 200) (Nat.le_refl _) (Nat.le_refl _) ?_
    exact W.vret hx hb hr (fun t ht hW => ⟨⟨(ra, w, u), rfl, ⟨hw.1, Nat.le_of_lt hw.2.1, hw.2.2, hu.2, hu.1⟩, by rw [ht]; exact hP, va_K.moved hW.alike hK, hD⟩, hS.F ht⟩) hS.2.2 dJ5_ensureCapacityInternal_d00df_38

set_option maxHeartbeats 4000000 in
set_option maxRecDepth 100000 in
theorem c_J5_setLength (l : Launch) (dC : Nat → ClassId) (dI : Nat → Nat → Nat) (cs : Nat → ClassId) (h q z : Nat) (L : List Nat) (b : Int32) (a : Nat → Int32) (sz : Nat) (hI : sI L z a) : Met l yJ5_setLength_d00df wsJ5_setLength_d00df (rm_s 4 1 200) (va_Pc [.ref h, .int 0] (sPw dC dI cs sz (sW cs h q z (nI L.length) b a))) (sQv dC dI cs (va_A (sW cs h q z (nI L.length) b a) sz) h []) 1 200 (va_A (sW cs h q z (nI L.length) b a) sz) := by
  refine Met.ofW (cc := cJ5_setLength_d00df) (maxL := 2) (ret := none) (by decide) rfl ?_
  intro p e s m args below meth c s₁ B hml hv
  obtain ⟨hav, hsz, hP, hK, hD0, hC⟩ := hv
  subst hsz
  have hin : ∀ w ∈ wsJ40, w ∈ wsJ5_setLength_d00df := fun w h => List.mem_cons_of_mem _ (List.mem_append_right _ h)
  have hA : ∀ q9, s.heap.size ≤ q9 → va_A (sW cs h q z (nI L.length) b a) s.heap.size q9 := fun q9 h => Or.inr h
  have hS : va_S (va_A (sW cs h q z (nI L.length) b a) s.heap.size) s.heap s.heap [] := va_S.rf
  have hD : va_D (va_A (sW cs h q z (nI L.length) b a) s.heap.size) (sW cs h q z (nI L.length) b a) := hD0.self
  have hx := B.exec
  have hb := B.bytes
  have hr := B.returns
  have hts := atoms_spec (ws := wsJ5_setLength_d00df) B.pre
  have hown : s.vm.findClass RJ5 = some m.cls := findClass_of_methodNamed B.named
  have hlocks := B.notSynchronized
  have k1 := hts (.fieldLink RJ5 79 "java/lang/AbstractStringBuilder" "count" "I") (by decide +kernel)
  have k2 := hts (.fieldLink RJ5 73 "java/lang/AbstractStringBuilder" "maybeLatin1" "Z") (by decide +kernel)
  have hl := lv_entry ([.ref h, .int 0]) (n := 2) (Nat.le_of_ble_eq_true rfl)
  rw [show entryFrame m args 2 = entryFrame m ([.ref h, .int 0] : List Value).toArray 2 from by rw [hav], lg_entry_eq]
  generalize (lg_sl ([.ref h, .int 0]) ++ List.replicate (2 - (lg_sl ([.ref h, .int 0])).length) Slot.unset).toArray = ls at hl ⊢
  have hl : lv_has ls 2 [(0, .ref h), (1, .int 0)] := hl
  have hL := hI.1
  have hm := hI.2.1
  refine lv_iload_n hx hb dJ5_setLength_d00df_0 rfl (lv_at hl 1 rfl) ?_
  refine lv_if_ge (tgt := 13) hx hb dJ5_setLength_d00df_1 (by decide) (fun _ => ?_) (fun h => absurd (by decide) h)
  refine lv_aload_n hx hb dJ5_setLength_d00df_13 rfl (lv_at hl 0 rfl) ?_
  refine lv_iload_n hx hb dJ5_setLength_d00df_14 rfl (lv_at hl 1 rfl) ?_
  have hF := va_free (wc := (sW cs h q z (nI L.length) b a)) hD hS hA [0, 1] rfl
  refine va_callv (va_runU (C := RJ4) (As := [.int 0]) (rest := []) ⟨hx, hb, hml, hown, hts⟩ (c_J5_ens l dC dI cs h q z (nI L.length) b a 0 s.heap.size hI.2.1 (by omega) hI.2.2.1) (va_cwU 1 hts gJ5_setLength_d00df_J5_ensureCapacityInternal_d00df_u100J4 rfl rfl rfl rfl (by decide +kernel) ⟨Nat.le_of_ble_eq_true rfl, Nat.le_of_ble_eq_true rfl⟩) ⟨fun a U g mk q => ⟨q.1, sPw_bl q.2⟩, va_recv hK hP (ci := 0) (q0 := 0) rfl rfl, fun U hU hW => ⟨rfl, ⟨by rw [hU], by rw [hU]; exact hP, va_K.moved hW.alike hK, hD.weaken (fun _ _ _ _ => trivial), kC.at hC hS hF U hU hW⟩⟩⟩ rfl rfl hl.1 rfl (lv_room (Nat.le_of_ble_eq_true rfl)) dJ5_setLength_d00df_15 ⟨(by first | exact Nat.le_refl _ | exact Nat.zero_le _ | exact Nat.le_of_ble_eq_true rfl | (show 0 + _ ≤ 200; omega)), (by first | exact Nat.le_refl _ | exact Nat.zero_le _ | exact Nat.le_of_ble_eq_true rfl | (show 0 + _ ≤ 200; omega))⟩) hS (fun q _ h => hF q h) hF (fun u t9 H1 locs ht hvm hu hB hz hk hS => ?_)
  obtain ⟨q1, m1, a1⟩ := u
  obtain ⟨hP1, hK1, hD1⟩ := hB
  rw [ht] at hP1
  have hP := hP1
  have hD := hD1.weaken (fun _ _ _ h => hF _ h)
  generalize H1 = H at hP hS ⊢
  have hP : va_P (dC, dI) vwCl [(h, .inr (0, [.ref q1, .int 0, .int b, .int (nI L.length)])), (q1, .inl (cs 0, m1, .inl a1))] H := hP
  have hD : va_D (va_A (sW cs h q z (nI L.length) b a) s.heap.size) [(h, .inr (0, [.ref q1, .int 0, .int b, .int (nI L.length)])), (q1, .inl (cs 0, m1, .inl a1))] := hD
  obtain ⟨hu1, hu2, hu3, hu4, hu5⟩ := hu
  dsimp only at hu1 hu2 hu3 hu4 hu5
  refine lv_aload_n hx hb dJ5_setLength_d00df_18 rfl (lv_at hl 0 rfl) ?_
  refine va_get (D := (dC, dI)) (ci := 0) (C := RJ4) (T := TJ4) (N := 4) hx hb hts hin hown hK hP 0 rfl rfl 3 (by decide) (v := .int (nI L.length)) k1 (fun _ h9 => h9) rfl dJ5_setLength_d00df_19 ?_
  refine lv_iload_n hx hb dJ5_setLength_d00df_22 rfl (lv_at hl 1 rfl) ?_
  refine lv_icmp_ge (tgt := 63) hx hb dJ5_setLength_d00df_23 (by decide) (fun _ => ?_) (fun h => absurd (nI_pos' (by omega)) h)
  refine lv_aload_n hx hb dJ5_setLength_d00df_63 rfl (lv_at hl 0 rfl) ?_
  refine va_get (D := (dC, dI)) (ci := 0) (C := RJ4) (T := TJ4) (N := 4) hx hb hts hin hown hK hP 0 rfl rfl 3 (by decide) (v := .int (nI L.length)) k1 (fun _ h9 => h9) rfl dJ5_setLength_d00df_64 ?_
  refine lv_iload_n hx hb dJ5_setLength_d00df_67 rfl (lv_at hl 1 rfl) ?_
  by_cases h0 : L.length = 0
  · refine lv_icmp_le (tgt := 76) hx hb dJ5_setLength_d00df_68 (by decide) (fun _ => ?_) (fun h => absurd (by rw [h0]; decide) h)
    refine lv_aload_n hx hb dJ5_setLength_d00df_76 rfl (lv_at hl 0 rfl) ?_
    refine lv_iload_n hx hb dJ5_setLength_d00df_77 rfl (lv_at hl 1 rfl) ?_
    refine va_put (D := (dC, dI)) (ci := 0) (v := .int 0) (ty := .int) (C := RJ4) (T := TJ4) (N := 4) hx hb hts hin tyJ4 tyJ4_ok nmJ4 hown hK hP hD hS 0 rfl rfl 3 (by decide) k1 (fun _ h9 => h9) rfl (by decide +kernel) rfl rfl (Nat.le_of_ble_eq_true rfl) dJ5_setLength_d00df_78 (fun H locs hP hD hS => ?_)
    have hP : va_P (dC, dI) vwCl [(h, .inr (0, [.ref q1, .int 0, .int b, .int 0])), (q1, .inl (cs 0, m1, .inl a1))] H := hP
    have hD : va_D (va_A (sW cs h q z (nI L.length) b a) s.heap.size) [(h, .inr (0, [.ref q1, .int 0, .int b, .int 0])), (q1, .inl (cs 0, m1, .inl a1))] := hD
    exact W.vret hx hb hr (fun t ht hW => ⟨⟨(q1, m1, b, a1), rfl, ⟨Nat.zero_le _, hu3, hu4, fun j hj => absurd hj (Nat.not_lt_zero _)⟩, by rw [ht]; exact hP, va_K.moved hW.alike hK, hD⟩, hS.F ht⟩) hS.2.2 dJ5_setLength_d00df_81
  · refine lv_icmp_le (tgt := 76) hx hb dJ5_setLength_d00df_68 (by decide) (fun h => absurd h (nI_nle (by omega) (by omega))) (fun _ => ?_)
    refine lv_aload_n hx hb dJ5_setLength_d00df_71 rfl (lv_at hl 0 rfl) ?_
    refine lv_iconst (v := 1) hx hb dJ5_setLength_d00df_72 (by decide) ?_
    refine va_put (D := (dC, dI)) (ci := 0) (v := .int 1) (ty := .boolean) (C := RJ4) (T := TJ4) (N := 4) hx hb hts hin tyJ4 tyJ4_ok nmJ4 hown hK hP hD hS 0 rfl rfl 2 (by decide) k2 (fun _ h9 => h9) rfl (by decide +kernel) rfl rfl (Nat.le_of_ble_eq_true rfl) dJ5_setLength_d00df_73 (fun H locs hP hD hS => ?_)
    have hP : va_P (dC, dI) vwCl [(h, .inr (0, [.ref q1, .int 0, .int 1, .int (nI L.length)])), (q1, .inl (cs 0, m1, .inl a1))] H := hP
    have hD : va_D (va_A (sW cs h q z (nI L.length) b a) s.heap.size) [(h, .inr (0, [.ref q1, .int 0, .int 1, .int (nI L.length)])), (q1, .inl (cs 0, m1, .inl a1))] := hD
    refine lv_aload_n hx hb dJ5_setLength_d00df_76 rfl (lv_at hl 0 rfl) ?_
    refine lv_iload_n hx hb dJ5_setLength_d00df_77 rfl (lv_at hl 1 rfl) ?_
    refine va_put (D := (dC, dI)) (ci := 0) (v := .int 0) (ty := .int) (C := RJ4) (T := TJ4) (N := 4) hx hb hts hin tyJ4 tyJ4_ok nmJ4 hown hK hP hD hS 0 rfl rfl 3 (by decide) k1 (fun _ h9 => h9) rfl (by decide +kernel) rfl rfl (Nat.le_of_ble_eq_true rfl) dJ5_setLength_d00df_78 (fun H locs hP hD hS => ?_)
    have hP : va_P (dC, dI) vwCl [(h, .inr (0, [.ref q1, .int 0, .int 1, .int 0])), (q1, .inl (cs 0, m1, .inl a1))] H := hP
    have hD : va_D (va_A (sW cs h q z (nI L.length) b a) s.heap.size) [(h, .inr (0, [.ref q1, .int 0, .int 1, .int 0])), (q1, .inl (cs 0, m1, .inl a1))] := hD
    exact W.vret hx hb hr (fun t ht hW => ⟨⟨(q1, m1, 1, a1), rfl, ⟨Nat.zero_le _, hu3, hu4, fun j hj => absurd hj (Nat.not_lt_zero _)⟩, by rw [ht]; exact hP, va_K.moved hW.alike hK, hD⟩, hS.F ht⟩) hS.2.2 dJ5_setLength_d00df_81

theorem dJ4_setLength_d00df_0 : decode cJ4_setLength_d00df 0 = .ok (.aload_n 0, 1) := by decide +kernel
theorem dJ4_setLength_d00df_1 : decode cJ4_setLength_d00df 1 = .ok (.iload_n 1, 1) := by decide +kernel
theorem dJ4_setLength_d00df_2 : decode cJ4_setLength_d00df 2 = .ok (.invokespecial 333, 3) := by decide +kernel
set_option maxRecDepth 20000 in
theorem ggJ4_setLength_d00df_J5_setLength_d00df : GoodIn wsJ4_setLength_d00df wsJ5_setLength_d00df := goodIn_r _ [6, 7, 8, 9, 10, 11, 12, 13, 5, 14, 15, 16, 17, 18, 19, 20, 21, 22, 23, 24, 25, 26, 27, 28, 29, 30, 31, 32, 33, 34, 35, 36, 37, 38, 39, 40, 41, 42, 43, 44, 45, 46, 47, 48, 49, 50, 51, 52, 53, 54, 55, 56, 57, 58, 59, 60, 61, 62, 63, 64, 65, 66, 67, 68, 69, 70, 71, 72, 73, 74, 75, 76] (by decide +kernel) (by decide +kernel)
set_option maxRecDepth 20000 in
theorem gJ4_setLength_d00df_J5_setLength_d00df_s333 : GoodIn wsJ4_setLength_d00df (va_wsSU RJ4 333 yJ5_setLength_d00df wsJ5_setLength_d00df) := goodIn_app (goodIn_of _ (by decide +kernel)) ggJ4_setLength_d00df_J5_setLength_d00df
theorem dJ4_setLength_d00df_5 : decode cJ4_setLength_d00df 5 = .ok (.return_, 1) := by decide +kernel
set_option maxHeartbeats 4000000 in
set_option maxRecDepth 100000 in
theorem c_J4_setLength (l : Launch) (dC : Nat → ClassId) (dI : Nat → Nat → Nat) (cs : Nat → ClassId) (h q z : Nat) (L : List Nat) (b : Int32) (a : Nat → Int32) (sz : Nat) (hI : sI L z a) : Met l yJ4_setLength_d00df wsJ4_setLength_d00df (rm_s 5 1 200) (va_Pc [.ref h, .int 0] (sPw dC dI cs sz (sW cs h q z (nI L.length) b a))) (sQv dC dI cs (va_A (sW cs h q z (nI L.length) b a) sz) h []) 1 200 (va_A (sW cs h q z (nI L.length) b a) sz) := by
  refine Met.ofW (cc := cJ4_setLength_d00df) (maxL := 2) (ret := none) (by decide) rfl ?_
  intro p e s m args below meth c s₁ B hml hv
  obtain ⟨hav, hsz, hP, hK, hD0, hC⟩ := hv
  subst hsz
  have hin : ∀ w ∈ wsJ40, w ∈ wsJ4_setLength_d00df := fun w h => List.mem_cons_of_mem _ (List.mem_append_right _ h)
  have hA : ∀ q9, s.heap.size ≤ q9 → va_A (sW cs h q z (nI L.length) b a) s.heap.size q9 := fun q9 h => Or.inr h
  have hS : va_S (va_A (sW cs h q z (nI L.length) b a) s.heap.size) s.heap s.heap [] := va_S.rf
  have hD : va_D (va_A (sW cs h q z (nI L.length) b a) s.heap.size) (sW cs h q z (nI L.length) b a) := hD0.self
  have hx := B.exec
  have hb := B.bytes
  have hr := B.returns
  have hts := atoms_spec (ws := wsJ4_setLength_d00df) B.pre
  have hown : s.vm.findClass RJ4 = some m.cls := findClass_of_methodNamed B.named
  have hlocks := B.notSynchronized
  have hl := lv_entry ([.ref h, .int 0]) (n := 2) (Nat.le_of_ble_eq_true rfl)
  rw [show entryFrame m args 2 = entryFrame m ([.ref h, .int 0] : List Value).toArray 2 from by rw [hav], lg_entry_eq]
  generalize (lg_sl ([.ref h, .int 0]) ++ List.replicate (2 - (lg_sl ([.ref h, .int 0])).length) Slot.unset).toArray = ls at hl ⊢
  have hl : lv_has ls 2 [(0, .ref h), (1, .int 0)] := hl
  refine lv_aload_n hx hb dJ4_setLength_d00df_0 rfl (lv_at hl 0 rfl) ?_
  refine lv_iload_n hx hb dJ4_setLength_d00df_1 rfl (lv_at hl 1 rfl) ?_
  have hF := va_free (wc := (sW cs h q z (nI L.length) b a)) hD hS hA [0, 1] rfl
  refine va_callv (va_runSU (hK.1 0 _ rfl).2 (As := [.int 0]) (rest := []) ⟨hx, hb, hml, hown, hts⟩ (c_J5_setLength l dC dI cs h q z L b a s.heap.size hI) (va_cwSU 1 hts gJ4_setLength_d00df_J5_setLength_d00df_s333 rfl rfl rfl (by decide +kernel) ⟨Nat.le_of_ble_eq_true rfl, Nat.le_of_ble_eq_true rfl⟩) ⟨fun a U g mk q => ⟨q.1, sPw_bl q.2⟩, va_recv hK hP (ci := 0) (q0 := 0) rfl rfl, fun U hU hW => ⟨rfl, ⟨by rw [hU], by rw [hU]; exact hP, va_K.moved hW.alike hK, hD.weaken (fun _ _ _ _ => trivial), kC.at hC hS hF U hU hW⟩⟩⟩ rfl rfl hl.1 rfl (lv_room (Nat.le_of_ble_eq_true rfl)) dJ4_setLength_d00df_2 ⟨(by first | exact Nat.le_refl _ | exact Nat.zero_le _ | exact Nat.le_of_ble_eq_true rfl | (show 0 + _ ≤ 200; omega)), (by first | exact Nat.le_refl _ | exact Nat.zero_le _ | exact Nat.le_of_ble_eq_true rfl | (show 0 + _ ≤ 200; omega))⟩) hS (fun q _ h => hF q h) hF (fun u t9 H1 locs ht hvm hu hB hz hk hS => ?_)
  obtain ⟨q1, m1, b1, a1⟩ := u
  obtain ⟨hP1, hK1, hD1⟩ := hB
  rw [ht] at hP1
  have hP := hP1
  have hD := hD1.weaken (fun _ _ _ h => hF _ h)
  generalize H1 = H at hP hS ⊢
  exact W.vret hx hb hr (fun t ht hW => ⟨⟨(q1, m1, b1, a1), rfl, hu, by rw [ht]; exact hP, va_K.moved hW.alike hK, hD⟩, hS.F ht⟩) hS.2.2 dJ4_setLength_d00df_5

theorem dJ1_canEncode_fc78d_0 : decode cJ1_canEncode_fc78d 0 = .ok (.iload_n 0, 1) := by decide +kernel
theorem dJ1_canEncode_fc78d_1 : decode cJ1_canEncode_fc78d 1 = .ok (.sipush 255, 3) := by decide +kernel
theorem dJ1_canEncode_fc78d_4 : decode cJ1_canEncode_fc78d 4 = .ok (.if_icmp .gt 7, 3) := by decide +kernel
theorem dJ1_canEncode_fc78d_7 : decode cJ1_canEncode_fc78d 7 = .ok (.iconst 1, 1) := by decide +kernel
theorem dJ1_canEncode_fc78d_8 : decode cJ1_canEncode_fc78d 8 = .ok (.goto 4, 3) := by decide +kernel
theorem dJ1_canEncode_fc78d_12 : decode cJ1_canEncode_fc78d 12 = .ok (.ireturn, 1) := by decide +kernel
set_option maxHeartbeats 4000000 in
set_option maxRecDepth 100000 in
theorem c_J1_canEncode (l : Launch) (ch : Nat) (hc : ch < 128) : Met l yJ1_canEncode_fc78d wsJ1_canEncode_fc78d (rm_s 0 0 0) (va_Pc [.int (nI ch)] (fun _ => True)) (kQ (some (.int 1))) 0 0 (kF) := by
  refine Met.ofW (cc := cJ1_canEncode_fc78d) (maxL := 1) (ret := (some .boolean)) (by decide) rfl ?_
  intro p e s m args below meth c s₁ B hml hv
  obtain ⟨hav, -⟩ := hv
  have hx := B.exec
  have hb := B.bytes
  have hr := B.returns
  have hts := atoms_spec (ws := wsJ1_canEncode_fc78d) B.pre
  have hown : s.vm.findClass RJ1 = some m.cls := findClass_of_methodNamed B.named
  have hlocks := B.notSynchronized
  have hl := lv_entry ([.int (nI ch)]) (n := 1) (Nat.le_of_ble_eq_true rfl)
  rw [show entryFrame m args 1 = entryFrame m ([.int (nI ch)] : List Value).toArray 1 from by rw [hav], lg_entry_eq]
  generalize (lg_sl ([.int (nI ch)]) ++ List.replicate (1 - (lg_sl ([.int (nI ch)])).length) Slot.unset).toArray = ls at hl ⊢
  have hl : lv_has ls 1 [(0, .int (nI ch))] := hl
  refine lv_iload_n hx hb dJ1_canEncode_fc78d_0 rfl (lv_at hl 0 rfl) ?_
  refine lv_sipush (v := 255) hx hb dJ1_canEncode_fc78d_1 (by decide) ?_
  refine lv_icmp_gt (tgt := 11) hx hb dJ1_canEncode_fc78d_4 (by decide) (fun h => absurd h (nI_nlt (a := 255) (b := ch) (by omega) (by decide))) (fun _ => ?_)
  refine lv_iconst (v := 1) hx hb dJ1_canEncode_fc78d_7 (by decide) ?_
  refine lv_goto (tgt := 12) hx hb dJ1_canEncode_fc78d_8 (by decide) ?_
  exact W.zret (v := (1 : Int32)) (ty := .boolean) hx hb hr rfl (fun t ht hW => ⟨rfl, ht⟩) (fun _ h => nomatch h) dJ1_canEncode_fc78d_12

set_option maxHeartbeats 4000000 in
set_option maxRecDepth 100000 in
theorem c_J5_appendC (l : Launch) (dC : Nat → ClassId) (dI : Nat → Nat → Nat) (cs : Nat → ClassId) (h q z : Nat) (L : List Nat) (b : Int32) (a : Nat → Int32) (ch sz : Nat) (hI : sI L z a) (hL : L.length ≤ 60) (hc : ch < 128) : Met l yJ5_append_3fe6f wsJ5_append_3fe6f (rm_s 4 1 200) (va_Pc [.ref h, .int (nI ch)] (sPw dC dI cs sz (sW cs h q z (nI L.length) b a))) (sQr dC dI cs (va_A (sW cs h q z (nI L.length) b a) sz) h (L ++ [ch])) 1 200 (va_A (sW cs h q z (nI L.length) b a) sz) := by
  refine Met.ofW (cc := cJ5_append_3fe6f) (maxL := 2) (ret := (some (.object "java/lang/AbstractStringBuilder"))) (by decide) rfl ?_
  intro p e s m args below meth c s₁ B hml hv
  obtain ⟨hav, hsz, hP, hK, hD0, hC⟩ := hv
  subst hsz
  have hin : ∀ w ∈ wsJ40, w ∈ wsJ5_append_3fe6f := fun w h => List.mem_cons_of_mem _ (List.mem_append_right _ h)
  have hA : ∀ q9, s.heap.size ≤ q9 → va_A (sW cs h q z (nI L.length) b a) s.heap.size q9 := fun q9 h => Or.inr h
  have hS : va_S (va_A (sW cs h q z (nI L.length) b a) s.heap.size) s.heap s.heap [] := va_S.rf
  have hD : va_D (va_A (sW cs h q z (nI L.length) b a) s.heap.size) (sW cs h q z (nI L.length) b a) := hD0.self
  have hx := B.exec
  have hb := B.bytes
  have hr := B.returns
  have hts := atoms_spec (ws := wsJ5_append_3fe6f) B.pre
  have hown : s.vm.findClass RJ5 = some m.cls := findClass_of_methodNamed B.named
  have hlocks := B.notSynchronized
  have k1 := hts (.fieldLink RJ5 79 "java/lang/AbstractStringBuilder" "count" "I") (by decide +kernel)
  have k2 := hts (.fieldLink RJ5 15 "java/lang/AbstractStringBuilder" "value" "[B") (by decide +kernel)
  have hl := lv_entry ([.ref h, .int (nI ch)]) (n := 2) (Nat.le_of_ble_eq_true rfl)
  rw [show entryFrame m args 2 = entryFrame m ([.ref h, .int (nI ch)] : List Value).toArray 2 from by rw [hav], lg_entry_eq]
  generalize (lg_sl ([.ref h, .int (nI ch)]) ++ List.replicate (2 - (lg_sl ([.ref h, .int (nI ch)])).length) Slot.unset).toArray = ls at hl ⊢
  have hl : lv_has ls 2 [(0, .ref h), (1, .int (nI ch))] := hl
  refine lv_aload_n hx hb dJ5_append_3fe6f_0 rfl (lv_at hl 0 rfl) ?_
  refine lv_aload_n hx hb dJ5_append_3fe6f_1 rfl (lv_at hl 0 rfl) ?_
  refine va_get (D := (dC, dI)) (ci := 0) (C := RJ4) (T := TJ4) (N := 4) hx hb hts hin hown hK hP 0 rfl rfl 3 (by decide) (v := .int (nI L.length)) k1 (fun _ h9 => h9) rfl dJ5_append_3fe6f_2 ?_
  refine lv_iconst (v := 1) hx hb dJ5_append_3fe6f_5 (by decide) ?_
  refine lv_iadd hx hb dJ5_append_3fe6f_6 ?_
  refine kt_v (show (.int ((nI L.length) + 1) : Value) = .int (nI (L.length + 1)) from congrArg Value.int (nI_1 _)) ?_
  have hF := va_free (wc := (sW cs h q z (nI L.length) b a)) hD hS hA [0, 1] rfl
  refine va_callv (va_runU (C := RJ4) (As := [.int (nI (L.length + 1))]) (rest := []) ⟨hx, hb, hml, hown, hts⟩ (c_J5_ens l dC dI cs h q z (nI L.length) b a (L.length + 1) s.heap.size hI.2.1 (by omega) hI.2.2.1) (va_cwU 1 hts gJ5_append_3fe6f_J5_ensureCapacityInternal_d00df_u100J4 rfl rfl rfl rfl (by decide +kernel) ⟨Nat.le_of_ble_eq_true rfl, Nat.le_of_ble_eq_true rfl⟩) ⟨fun a U g mk q => ⟨q.1, sPw_bl q.2⟩, va_recv hK hP (ci := 0) (q0 := 0) rfl rfl, fun U hU hW => ⟨rfl, ⟨by rw [hU], by rw [hU]; exact hP, va_K.moved hW.alike hK, hD.weaken (fun _ _ _ _ => trivial), kC.at hC hS hF U hU hW⟩⟩⟩ rfl rfl hl.1 rfl (lv_room (Nat.le_of_ble_eq_true rfl)) dJ5_append_3fe6f_7 ⟨(by first | exact Nat.le_refl _ | exact Nat.zero_le _ | exact Nat.le_of_ble_eq_true rfl | (show 0 + _ ≤ 200; omega)), (by first | exact Nat.le_refl _ | exact Nat.zero_le _ | exact Nat.le_of_ble_eq_true rfl | (show 0 + _ ≤ 200; omega))⟩) hS (fun q _ h => hF q h) hF (fun u t9 H1 locs ht hvm hu hB hz hk hS => ?_)
  obtain ⟨q1, m1, a1⟩ := u
  obtain ⟨hP1, hK1, hD1⟩ := hB
  rw [ht] at hP1
  have hP := hP1
  have hD := hD1.weaken (fun _ _ _ h => hF _ h)
  generalize H1 = H at hP hS ⊢
  have hP : va_P (dC, dI) vwCl [(h, .inr (0, [.ref q1, .int 0, .int b, .int (nI L.length)])), (q1, .inl (cs 0, m1, .inl a1))] H := hP
  have hD : va_D (va_A (sW cs h q z (nI L.length) b a) s.heap.size) [(h, .inr (0, [.ref q1, .int 0, .int b, .int (nI L.length)])), (q1, .inl (cs 0, m1, .inl a1))] := hD
  obtain ⟨hu1, hu2, hu3, hu4, hu5⟩ := hu
  dsimp only at hu1 hu2 hu3 hu4 hu5
  refine lv_aload_n hx hb dJ5_append_3fe6f_10 rfl (lv_at hl 0 rfl) ?_
  refine ko_call (v := some (.int 1)) (va_runU (C := RJ4) (As := []) (rest := []) ⟨hx, hb, hml, hown, hts⟩ (c_J5_isLatin1 l dC dI cs h q1 m1 (nI L.length) b a1) (va_cwU 0 hts gJ5_append_3fe6f_J5_isLatin1_aae02_u83J4 rfl rfl rfl rfl (by decide +kernel) ⟨Nat.le_of_ble_eq_true rfl, Nat.le_of_ble_eq_true rfl⟩) ⟨fun a U g mk q => ⟨q.1, sPr_bl q.2⟩, va_recv hK hP (ci := 0) (q0 := 0) rfl rfl, fun U hU hW => ⟨rfl, ⟨by rw [hU]; exact hP, va_K.moved hW.alike hK, kC.at hC hS (fun _ h => h.elim) U hU hW⟩⟩⟩ rfl rfl hl.1 rfl (lv_room (Nat.le_of_ble_eq_true rfl)) dJ5_append_3fe6f_11 ⟨(by first | exact Nat.le_refl _ | exact Nat.zero_le _ | exact Nat.le_of_ble_eq_true rfl | (show 0 + _ ≤ 200; omega)), (by first | exact Nat.le_refl _ | exact Nat.zero_le _ | exact Nat.le_of_ble_eq_true rfl | (show 0 + _ ≤ 200; omega))⟩) ?_
  refine lv_if_eq (tgt := 45) hx hb dJ5_append_3fe6f_14 (by decide) (fun h => absurd h (by decide)) (fun _ => ?_)
  refine lv_iload_n hx hb dJ5_append_3fe6f_17 rfl (lv_at hl 1 rfl) ?_
  refine ko_call (v := some (.int 1)) (va_runS (As := [.int (nI ch)]) (rest := []) ⟨hx, hb, hml, hown, hts⟩ (c_J1_canEncode l ch hc) (va_cwS 1 hts gJ5_append_3fe6f_J1_canEncode_fc78d rfl rfl rfl (by decide +kernel) ⟨Nat.le_of_ble_eq_true rfl, Nat.le_of_ble_eq_true rfl⟩) ⟨fun a U g mk q => ⟨q.1, trivial⟩, fun U hU hW => ⟨rfl, trivial⟩⟩ rfl rfl hl.1 rfl (lv_room (Nat.le_of_ble_eq_true rfl)) dJ5_append_3fe6f_18 ⟨(by first | exact Nat.le_refl _ | exact Nat.zero_le _ | exact Nat.le_of_ble_eq_true rfl | (show 0 + _ ≤ 200; omega)), (by first | exact Nat.le_refl _ | exact Nat.zero_le _ | exact Nat.le_of_ble_eq_true rfl | (show 0 + _ ≤ 200; omega))⟩) ?_
  refine lv_if_eq (tgt := 45) hx hb dJ5_append_3fe6f_21 (by decide) (fun h => absurd h (by decide)) (fun _ => ?_)
  refine lv_aload_n hx hb dJ5_append_3fe6f_24 rfl (lv_at hl 0 rfl) ?_
  refine va_get (D := (dC, dI)) (ci := 0) (C := RJ4) (T := TJ4) (N := 4) hx hb hts hin hown hK hP 0 rfl rfl 0 (by decide) (v := .ref q1) k2 (fun _ h9 => h9) rfl dJ5_append_3fe6f_25 ?_
  refine lv_aload_n hx hb dJ5_append_3fe6f_28 rfl (lv_at hl 0 rfl) ?_
  refine lv_dup hx hb dJ5_append_3fe6f_29 rfl ?_
  refine va_get (D := (dC, dI)) (ci := 0) (C := RJ4) (T := TJ4) (N := 4) hx hb hts hin hown hK hP 0 rfl rfl 3 (by decide) (v := .int (nI L.length)) k1 (fun _ h9 => h9) rfl dJ5_append_3fe6f_30 ?_
  refine lv_dup_x1 hx hb dJ5_append_3fe6f_33 rfl rfl ?_
  refine lv_iconst (v := 1) hx hb dJ5_append_3fe6f_34 (by decide) ?_
  refine lv_iadd hx hb dJ5_append_3fe6f_35 ?_
  refine kt_v (show (.int ((nI L.length) + 1) : Value) = .int (nI (L.length + 1)) from congrArg Value.int (nI_1 _)) ?_
  refine va_put (D := (dC, dI)) (ci := 0) (v := .int (nI (L.length + 1))) (ty := .int) (C := RJ4) (T := TJ4) (N := 4) hx hb hts hin tyJ4 tyJ4_ok nmJ4 hown hK hP hD hS 0 rfl rfl 3 (by decide) k1 (fun _ h9 => h9) rfl (by decide +kernel) rfl rfl (Nat.le_of_ble_eq_true rfl) dJ5_append_3fe6f_36 (fun H locs hP hD hS => ?_)
  have hP : va_P (dC, dI) vwCl [(h, .inr (0, [.ref q1, .int 0, .int b, .int (nI (L.length + 1))])), (q1, .inl (cs 0, m1, .inl a1))] H := hP
  have hD : va_D (va_A (sW cs h q z (nI L.length) b a) s.heap.size) [(h, .inr (0, [.ref q1, .int 0, .int b, .int (nI (L.length + 1))])), (q1, .inl (cs 0, m1, .inl a1))] := hD
  refine lv_iload_n hx hb dJ5_append_3fe6f_39 rfl (lv_at hl 1 rfl) ?_
  refine lv_i2b (v := (sb_b ch)) hx hb dJ5_append_3fe6f_40 (rfl) ?_
  refine va_bast hx hb hK hP hD hS 1 0 rfl rfl (vp_in_nI (by omega) (by omega)) dJ5_append_3fe6f_41 (fun H locs hP hD hS => ?_)
  have hP : va_P (dC, dI) vwCl [(h, .inr (0, [.ref q1, .int 0, .int b, .int (nI (L.length + 1))])), (q1, .inl (cs 0, m1, .inl (upd a1 L.length (sb_b ch))))] H := by rw [nI_clamp (n := L.length) (by omega), show vp_nar .byte (sb_b ch) = sb_b ch from pk_vb _] at hP; exact hP
  have hD : va_D (va_A (sW cs h q z (nI L.length) b a) s.heap.size) [(h, .inr (0, [.ref q1, .int 0, .int b, .int (nI (L.length + 1))])), (q1, .inl (cs 0, m1, .inl (upd a1 L.length (sb_b ch))))] := by rw [nI_clamp (n := L.length) (by omega), show vp_nar .byte (sb_b ch) = sb_b ch from pk_vb _] at hD; exact hD
  refine lv_goto (tgt := 75) hx hb dJ5_append_3fe6f_42 (by decide) ?_
  refine lv_aload_n hx hb dJ5_append_3fe6f_75 rfl (lv_at hl 0 rfl) ?_
  have hI2 : sI (L ++ [ch]) m1 (upd a1 L.length (sb_b ch)) := by
    refine sI_app hI (w := 1) rfl hu1 hu3 (sb_fitU hu4 (sb_fitB _)) (fun j hj => by rw [pk_un (by omega)]; exact hu5 j (by have := hI.1; omega)) (fun i hi => ?_)
    obtain rfl : i = 0 := by omega
    exact ⟨by show ch < 256; omega, pk_us⟩
  have eL : nI (L.length + 1) = nI (L ++ [ch]).length := by rw [List.length_append]; rfl
  rw [eL] at hP hD
  exact W.aret (v := .ref h) (rt := .object "java/lang/AbstractStringBuilder") hx hb hr (Or.inl ⟨_, rfl⟩) (Or.inr ⟨_, rfl⟩) (fun t ht hW => ⟨⟨(q1, m1, b, upd a1 L.length (sb_b ch)), h, rfl, hI2, rfl, by rw [ht]; exact hP, va_K.moved hW.alike hK, hD⟩, hS.F ht⟩) hS.2.2 dJ5_append_3fe6f_76

theorem dJ4_append_cf468_0 : decode cJ4_append_cf468 0 = .ok (.aload_n 0, 1) := by decide +kernel
theorem dJ4_append_cf468_1 : decode cJ4_append_cf468 1 = .ok (.iload_n 1, 1) := by decide +kernel
theorem dJ4_append_cf468_2 : decode cJ4_append_cf468 2 = .ok (.invokespecial 50, 3) := by decide +kernel
set_option maxRecDepth 20000 in
theorem ggJ4_append_cf468_J5_append_3fe6f : GoodIn wsJ4_append_cf468 wsJ5_append_3fe6f := goodIn_r _ [6, 7, 8, 9, 10, 11, 12, 5, 13, 14, 15, 16, 17, 18, 19, 20, 21, 22, 23, 24, 25, 26, 27, 28, 29, 30, 31, 32, 33, 34, 35, 36, 37, 38, 39, 40, 41, 42, 43, 44, 45, 46, 47, 48, 49, 50, 51, 52, 53, 54, 55, 56, 57, 58, 59, 60, 61, 62, 63, 64, 65, 66, 67, 68, 69, 70, 71, 72, 73, 74, 75, 76, 77, 78, 79, 80, 81, 82, 83, 84, 85, 86, 87, 88, 89, 90, 91, 92, 93, 94, 95, 96, 97, 98, 99, 100, 101, 102, 103, 104, 105, 106, 107, 108, 109, 110, 111, 112, 113, 114, 115, 116] (by decide +kernel) (by decide +kernel)
set_option maxRecDepth 20000 in
theorem gJ4_append_cf468_J5_append_3fe6f_s50 : GoodIn wsJ4_append_cf468 (va_wsSU RJ4 50 yJ5_append_3fe6f wsJ5_append_3fe6f) := goodIn_app (goodIn_of _ (by decide +kernel)) ggJ4_append_cf468_J5_append_3fe6f
theorem dJ4_append_cf468_5 : decode cJ4_append_cf468 5 = .ok (.pop, 1) := by decide +kernel
theorem dJ4_append_cf468_6 : decode cJ4_append_cf468 6 = .ok (.aload_n 0, 1) := by decide +kernel
theorem dJ4_append_cf468_7 : decode cJ4_append_cf468 7 = .ok (.areturn, 1) := by decide +kernel
set_option maxHeartbeats 4000000 in
set_option maxRecDepth 100000 in
theorem c_J4_appendC (l : Launch) (dC : Nat → ClassId) (dI : Nat → Nat → Nat) (cs : Nat → ClassId) (h q z : Nat) (L : List Nat) (b : Int32) (a : Nat → Int32) (ch sz : Nat) (hI : sI L z a) (hL : L.length ≤ 60) (hc : ch < 128) : Met l yJ4_append_cf468 wsJ4_append_cf468 (rm_s 5 1 200) (va_Pc [.ref h, .int (nI ch)] (sPw dC dI cs sz (sW cs h q z (nI L.length) b a))) (sQr dC dI cs (va_A (sW cs h q z (nI L.length) b a) sz) h (L ++ [ch])) 1 200 (va_A (sW cs h q z (nI L.length) b a) sz) := by
  refine Met.ofW (cc := cJ4_append_cf468) (maxL := 2) (ret := (some (.object "java/lang/StringBuilder"))) (by decide) rfl ?_
  intro p e s m args below meth c s₁ B hml hv
  obtain ⟨hav, hsz, hP, hK, hD0, hC⟩ := hv
  subst hsz
  have hin : ∀ w ∈ wsJ40, w ∈ wsJ4_append_cf468 := fun w h => List.mem_cons_of_mem _ (List.mem_append_right _ h)
  have hA : ∀ q9, s.heap.size ≤ q9 → va_A (sW cs h q z (nI L.length) b a) s.heap.size q9 := fun q9 h => Or.inr h
  have hS : va_S (va_A (sW cs h q z (nI L.length) b a) s.heap.size) s.heap s.heap [] := va_S.rf
  have hD : va_D (va_A (sW cs h q z (nI L.length) b a) s.heap.size) (sW cs h q z (nI L.length) b a) := hD0.self
  have hx := B.exec
  have hb := B.bytes
  have hr := B.returns
  have hts := atoms_spec (ws := wsJ4_append_cf468) B.pre
  have hown : s.vm.findClass RJ4 = some m.cls := findClass_of_methodNamed B.named
  have hlocks := B.notSynchronized
  have hl := lv_entry ([.ref h, .int (nI ch)]) (n := 2) (Nat.le_of_ble_eq_true rfl)
  rw [show entryFrame m args 2 = entryFrame m ([.ref h, .int (nI ch)] : List Value).toArray 2 from by rw [hav], lg_entry_eq]
  generalize (lg_sl ([.ref h, .int (nI ch)]) ++ List.replicate (2 - (lg_sl ([.ref h, .int (nI ch)])).length) Slot.unset).toArray = ls at hl ⊢
  have hl : lv_has ls 2 [(0, .ref h), (1, .int (nI ch))] := hl
  refine lv_aload_n hx hb dJ4_append_cf468_0 rfl (lv_at hl 0 rfl) ?_
  refine lv_iload_n hx hb dJ4_append_cf468_1 rfl (lv_at hl 1 rfl) ?_
  have hF := va_free (wc := (sW cs h q z (nI L.length) b a)) hD hS hA [0, 1] rfl
  refine va_callr (va_runSU (hK.1 0 _ rfl).2 (As := [.int (nI ch)]) (rest := []) ⟨hx, hb, hml, hown, hts⟩ (c_J5_appendC l dC dI cs h q z L b a ch s.heap.size hI hL hc) (va_cwSU 1 hts gJ4_append_cf468_J5_append_3fe6f_s50 rfl rfl rfl (by decide +kernel) ⟨Nat.le_of_ble_eq_true rfl, Nat.le_of_ble_eq_true rfl⟩) ⟨fun a U g mk q => ⟨q.1, sPw_bl q.2⟩, va_recv hK hP (ci := 0) (q0 := 0) rfl rfl, fun U hU hW => ⟨rfl, ⟨by rw [hU], by rw [hU]; exact hP, va_K.moved hW.alike hK, hD.weaken (fun _ _ _ _ => trivial), kC.at hC hS hF U hU hW⟩⟩⟩ rfl rfl hl.1 rfl (lv_room (Nat.le_of_ble_eq_true rfl)) dJ4_append_cf468_2 ⟨(by first | exact Nat.le_refl _ | exact Nat.zero_le _ | exact Nat.le_of_ble_eq_true rfl | (show 0 + _ ≤ 200; omega)), (by first | exact Nat.le_refl _ | exact Nat.zero_le _ | exact Nat.le_of_ble_eq_true rfl | (show 0 + _ ≤ 200; omega))⟩) hS (fun q _ h => hF q h) hF (fun u ra t9 H1 locs ht hvm hu hB hz hk hS => ?_)
  obtain ⟨q1, m1, b1, a1⟩ := u
  obtain ⟨era, hP1, hK1, hD1⟩ := hB
  have era := era.symm
  subst era
  rw [ht] at hP1
  have hP := hP1
  have hD := hD1.weaken (fun _ _ _ h => hF _ h)
  generalize H1 = H at hP hS ⊢
  refine lv_pop hx hb dJ4_append_cf468_5 rfl ?_
  refine lv_aload_n hx hb dJ4_append_cf468_6 rfl (lv_at hl 0 rfl) ?_
  exact W.aret (v := .ref h) (rt := .object "java/lang/StringBuilder") hx hb hr (Or.inl ⟨_, rfl⟩) (Or.inr ⟨_, rfl⟩) (fun t ht hW => ⟨⟨(q1, m1, b1, a1), h, rfl, hu, rfl, by rw [ht]; exact hP, va_K.moved hW.alike hK, hD⟩, hS.F ht⟩) hS.2.2 dJ4_append_cf468_7

/-! String constants whose letters are known -/
def kSq (a v : Nat) (t : List Nat) (A : Nat → Prop) (U : State) (H : Heap) : Prop := va_O "java/lang/String" a A U H ∧ va_OF "java/lang/String" "coder" "B" (.int 0) a A U H ∧ va_OF "java/lang/String" "value" "[B" (.ref v) a A U H ∧ va_T .byte v t.length (fun j => .int (sb_b (t.getD j 0))) A U H ∧ kC A U H
theorem kSq.moved {a v : Nat} {t : List Nat} {A : Nat → Prop} {u U : State} {H : Heap} (hvm : u.vm.Alike U.vm) (h : kSq a v t A u H) : kSq a v t A U H := by
  obtain ⟨h1, h2, h3, h4, h5⟩ := h
  exact ⟨va_O.moved hvm h1, va_OF.moved hvm h2, va_OF.moved hvm h3, va_T.moved hvm h4, kC.moved hvm h5⟩
theorem kSq.kept {a v : Nat} {t : List Nat} {A : Nat → Prop} {U : State} {H H1 : Heap} (h : kSq a v t A U H) (hq : ∀ a : Nat, a < H.size → ¬ A a → H1[a]? = H[a]?) : kSq a v t A U H1 := by
  obtain ⟨h1, h2, h3, h4, h5⟩ := h
  exact ⟨h1.kept hq, h2.kept hq, h3.kept hq, h4.kept hq, h5.kept hq⟩
theorem kSq.narrow {a v : Nat} {t : List Nat} {A B : Nat → Prop} {U : State} {H : Heap} (h : kSq a v t A U H) (hAB : ∀ q, B q → A q) : kSq a v t B U H := by
  obtain ⟨h1, h2, h3, h4, h5⟩ := h
  exact ⟨h1.narrow hAB, h2.narrow hAB, h3.narrow hAB, h4.narrow hAB, h5.narrow hAB⟩
theorem kSq.bl {a v : Nat} {t : List Nat} {A : Nat → Prop} {as : Array Value} {U : State} {g : JFrame} {mk : MethodId} (q : kSq a v t A U U.heap) : kSq a v t A (U.calling g mk as) (U.calling g mk as).heap := kSq.moved (u := U) (U := U.calling g mk as) (Vm.Alike.refl U.vm) q
theorem kSq.at {a v : Nat} {t : List Nat} {A B : Nat → Prop} {s : State} {H : Heap} {locs : List Loc} (h : kSq a v t A s s.heap) (hS : va_S A s.heap H locs) (hAB : ∀ q, B q → A q) : ∀ U : State, U.heap = H → s.WarmedH U.vm → kSq a v t B U U.heap := fun U hU hW => by
  rw [hU]; exact kSq.moved hW.alike ((h.kept hS.2.1).narrow hAB)
theorem sb_cpy_at {f g : Nat → Int32} {p n i : Nat} (h : i < n) : va_cpy f g 0 p n (p + i) = f i := (pk_cpy_in (Nat.le_add_right _ _) (by omega)).trans (congrArg f (by omega))
set_option maxHeartbeats 4000000 in
set_option maxRecDepth 100000 in
theorem c_J0_coderQ (l : Launch) (sa sv : Nat) (t : List Nat) : Met l yJ0_coder_7d493 wsJ0_coder_7d493 (rm_s 0 0 0) (va_Pc [.ref sa] (fun U => kSq sa sv t kF U U.heap)) (kQ (some (.int 0))) 0 0 (kF) := by
  refine Met.ofW (cc := cJ0_coder_7d493) (maxL := 1) (ret := (some .byte)) (by decide) rfl ?_
  intro p e s m args below meth c s₁ B hml hv
  obtain ⟨hav, hT⟩ := hv
  have hS : va_S kF s.heap s.heap [] := va_S.rf
  have hx := B.exec
  have hb := B.bytes
  have hr := B.returns
  have hts := atoms_spec (ws := wsJ0_coder_7d493) B.pre
  have hown : s.vm.findClass RJ0 = some m.cls := findClass_of_methodNamed B.named
  have hlocks := B.notSynchronized
  have k1 := hts (.fieldLink RJ0 15 "java/lang/String" "coder" "B") (by decide +kernel)
  have k2 := hts (.fieldLink RJ0 38 "java/lang/String" "COMPACT_STRINGS" "Z") (by decide +kernel)
  have hl := lv_entry ([.ref sa]) (n := 1) (Nat.le_of_ble_eq_true rfl)
  rw [show entryFrame m args 1 = entryFrame m ([.ref sa] : List Value).toArray 1 from by rw [hav], lg_entry_eq]
  generalize (lg_sl ([.ref sa]) ++ List.replicate (1 - (lg_sl ([.ref sa])).length) Slot.unset).toArray = ls at hl ⊢
  have hl : lv_has ls 1 [(0, .ref sa)] := hl
  refine va_gets hx hb hT.2.2.2.2.1 hS hown k2 (fun _ h9 => h9) dJ0_coder_7d493_0 ?_
  refine lv_if_eq (tgt := 13) hx hb dJ0_coder_7d493_3 (by decide) (fun h => absurd h (by decide)) (fun _ => ?_)
  refine lv_aload_n hx hb dJ0_coder_7d493_6 rfl (lv_at hl 0 rfl) ?_
  refine vk_getf hx hb hT.2.1 hS hown k1 (fun _ h9 => h9) dJ0_coder_7d493_7 ?_
  refine lv_goto (tgt := 14) hx hb dJ0_coder_7d493_10 (by decide) ?_
  exact W.zret (v := (0 : Int32)) (ty := .byte) hx hb hr (by decide +kernel) (fun t ht hW => ⟨rfl, ht⟩) (fun _ h => nomatch h) dJ0_coder_7d493_14

set_option maxHeartbeats 4000000 in
set_option maxRecDepth 100000 in
theorem c_J0_lengthQ (l : Launch) (sa sv : Nat) (t : List Nat) (hn : t.length < 256) : Met l yJ0_length_8abf5 wsJ0_length_8abf5 (rm_s 1 0 0) (va_Pc [.ref sa] (fun U => kSq sa sv t kF U U.heap)) (kQ (some (.int (nI t.length)))) 0 0 (kF) := by
  refine Met.ofW (cc := cJ0_length_8abf5) (maxL := 1) (ret := (some .int)) (by decide) rfl ?_
  intro p e s m args below meth c s₁ B hml hv
  obtain ⟨hav, hT⟩ := hv
  have hS : va_S kF s.heap s.heap [] := va_S.rf
  have hx := B.exec
  have hb := B.bytes
  have hr := B.returns
  have hts := atoms_spec (ws := wsJ0_length_8abf5) B.pre
  have hown : s.vm.findClass RJ0 = some m.cls := findClass_of_methodNamed B.named
  have hlocks := B.notSynchronized
  have k1 := hts (.fieldLink RJ0 9 "java/lang/String" "value" "[B") (by decide +kernel)
  have hl := lv_entry ([.ref sa]) (n := 1) (Nat.le_of_ble_eq_true rfl)
  rw [show entryFrame m args 1 = entryFrame m ([.ref sa] : List Value).toArray 1 from by rw [hav], lg_entry_eq]
  generalize (lg_sl ([.ref sa]) ++ List.replicate (1 - (lg_sl ([.ref sa])).length) Slot.unset).toArray = ls at hl ⊢
  have hl : lv_has ls 1 [(0, .ref sa)] := hl
  refine lv_aload_n hx hb dJ0_length_8abf5_0 rfl (lv_at hl 0 rfl) ?_
  refine vk_getf hx hb hT.2.2.1 hS hown k1 (fun _ h9 => h9) dJ0_length_8abf5_1 ?_
  refine va_tlen hx hb hT.2.2.2.1 hS (v := (nI t.length)) rfl dJ0_length_8abf5_4 ?_
  refine lv_aload_n hx hb dJ0_length_8abf5_5 rfl (lv_at hl 0 rfl) ?_
  refine ko_call (v := some (.int 0)) (va_runV (As := []) (rest := [.int (nI t.length)]) ⟨hx, hb, hml, hown, hts⟩ (c_J0_coderQ l sa sv t) (cwV 0 hts gJ0_length_8abf5_J0_coder_7d493 rfl rfl rfl (by decide +kernel) ⟨Nat.le_of_ble_eq_true rfl, Nat.le_of_ble_eq_true rfl⟩) ⟨fun a U g mk q => ⟨q.1, kSq.bl q.2⟩, va_Orecv hT.1 hS, fun U hU hW => ⟨rfl, kSq.at hT hS (fun _ h => h) U hU hW⟩⟩ rfl rfl hl.1 rfl (lv_room (Nat.le_of_ble_eq_true rfl)) dJ0_length_8abf5_6 ⟨(by first | exact Nat.le_refl _ | exact Nat.zero_le _ | exact Nat.le_of_ble_eq_true rfl | (show 0 + _ ≤ 200; omega)), (by first | exact Nat.le_refl _ | exact Nat.zero_le _ | exact Nat.le_of_ble_eq_true rfl | (show 0 + _ ≤ 200; omega))⟩) ?_
  refine lv_ishr hx hb dJ0_length_8abf5_9 ?_
  refine kt_v (show (.int (((nI t.length) : Int32) >>> ((0 : Int32) &&& 31)) : Value) = .int (nI t.length) from congrArg Value.int (sb_shr0 _)) ?_
  exact W.iret (v := nI t.length) hx hb hr (fun t ht hW => ⟨rfl, ht⟩) (fun _ h => nomatch h) dJ0_length_8abf5_10

set_option maxHeartbeats 4000000 in
set_option maxRecDepth 100000 in
theorem c_J5_inflateIf (l : Launch) (dC : Nat → ClassId) (dI : Nat → Nat → Nat) (cs : Nat → ClassId) (h q z : Nat) (n b : Int32) (a : Nat → Int32) (sa sv : Nat) (t : List Nat) : Met l yJ5_inflateIfNeededFor_a7421 wsJ5_inflateIfNeededFor_a7421 (rm_s 1 0 0) (va_Pc [.ref h, .ref sa] (fun U => sPr dC dI cs (sW cs h q z n b a) U ∧ kSq sa sv t kF U U.heap)) (kQ none) 0 0 (kF) := by
  refine Met.ofW (cc := cJ5_inflateIfNeededFor_a7421) (maxL := 2) (ret := none) (by decide) rfl ?_
  intro p e s m args below meth c s₁ B hml hv
  obtain ⟨hav, ⟨hP, hK, hC⟩, hT⟩ := hv
  have hin : ∀ w ∈ wsJ40, w ∈ wsJ5_inflateIfNeededFor_a7421 := fun w h => List.mem_cons_of_mem _ (List.mem_append_right _ h)
  have hS : va_S kF s.heap s.heap [] := va_S.rf
  have hx := B.exec
  have hb := B.bytes
  have hr := B.returns
  have hts := atoms_spec (ws := wsJ5_inflateIfNeededFor_a7421) B.pre
  have hown : s.vm.findClass RJ5 = some m.cls := findClass_of_methodNamed B.named
  have hlocks := B.notSynchronized
  have k1 := hts (.fieldLink RJ5 18 "java/lang/String" "COMPACT_STRINGS" "Z") (by decide +kernel)
  have k2 := hts (.fieldLink RJ5 22 "java/lang/AbstractStringBuilder" "coder" "B") (by decide +kernel)
  have hl := lv_entry ([.ref h, .ref sa]) (n := 2) (Nat.le_of_ble_eq_true rfl)
  rw [show entryFrame m args 2 = entryFrame m ([.ref h, .ref sa] : List Value).toArray 2 from by rw [hav], lg_entry_eq]
  generalize (lg_sl ([.ref h, .ref sa]) ++ List.replicate (2 - (lg_sl ([.ref h, .ref sa])).length) Slot.unset).toArray = ls at hl ⊢
  have hl : lv_has ls 2 [(0, .ref h), (1, .ref sa)] := hl
  refine va_gets hx hb hC.1 va_S.rf hown k1 (fun _ h9 => h9) dJ5_inflateIfNeededFor_a7421_0 ?_
  refine lv_if_eq (tgt := 21) hx hb dJ5_inflateIfNeededFor_a7421_3 (by decide) (fun h => absurd h (by decide)) (fun _ => ?_)
  refine lv_aload_n hx hb dJ5_inflateIfNeededFor_a7421_6 rfl (lv_at hl 0 rfl) ?_
  refine va_get (D := (dC, dI)) (ci := 0) (C := RJ4) (T := TJ4) (N := 4) hx hb hts hin hown hK hP 0 rfl rfl 1 (by decide) (v := .int 0) k2 (fun _ h9 => h9) rfl dJ5_inflateIfNeededFor_a7421_7 ?_
  refine lv_aload_n hx hb dJ5_inflateIfNeededFor_a7421_10 rfl (lv_at hl 1 rfl) ?_
  refine ko_call (v := some (.int 0)) (va_runV (As := []) (rest := [.int 0]) ⟨hx, hb, hml, hown, hts⟩ (c_J0_coderQ l sa sv t) (cwV 0 hts gJ5_inflateIfNeededFor_a7421_J0_coder_7d493 rfl rfl rfl (by decide +kernel) ⟨Nat.le_of_ble_eq_true rfl, Nat.le_of_ble_eq_true rfl⟩) ⟨fun a U g mk q => ⟨q.1, kSq.bl q.2⟩, va_Orecv hT.1 hS, fun U hU hW => ⟨rfl, kSq.at hT hS (fun _ h => h) U hU hW⟩⟩ rfl rfl hl.1 rfl (lv_room (Nat.le_of_ble_eq_true rfl)) dJ5_inflateIfNeededFor_a7421_11 ⟨(by first | exact Nat.le_refl _ | exact Nat.zero_le _ | exact Nat.le_of_ble_eq_true rfl | (show 0 + _ ≤ 200; omega)), (by first | exact Nat.le_refl _ | exact Nat.zero_le _ | exact Nat.le_of_ble_eq_true rfl | (show 0 + _ ≤ 200; omega))⟩) ?_
  refine lv_icmp_eq (tgt := 21) hx hb dJ5_inflateIfNeededFor_a7421_14 (by decide) (fun _ => ?_) (fun h => absurd (rfl) h)
  exact W.vret hx hb hr (fun t ht hW => ⟨rfl, ht⟩) (fun _ h => nomatch h) dJ5_inflateIfNeededFor_a7421_21

theorem dJ0_getBytes_840e7_0 : decode cJ0_getBytes_840e7 0 = .ok (.aload_n 0, 1) := by decide +kernel
theorem dJ0_getBytes_840e7_1 : decode cJ0_getBytes_840e7 1 = .ok (.invokevirtual 335, 3) := by decide +kernel
set_option maxRecDepth 20000 in
theorem ggJ0_getBytes_840e7_J0_coder_7d493 : GoodIn wsJ0_getBytes_840e7 wsJ0_coder_7d493 := goodIn_r _ [10, 11, 12] (by decide +kernel) (by decide +kernel)
set_option maxRecDepth 20000 in
theorem gJ0_getBytes_840e7_J0_coder_7d493 : GoodIn wsJ0_getBytes_840e7 (wsV RJ0 335 RJ0 yJ0_coder_7d493 wsJ0_coder_7d493) := goodIn_app (goodIn_of _ (by decide +kernel)) ggJ0_getBytes_840e7_J0_coder_7d493
theorem dJ0_getBytes_840e7_4 : decode cJ0_getBytes_840e7 4 = .ok (.iload_n 3, 1) := by decide +kernel
theorem dJ0_getBytes_840e7_5 : decode cJ0_getBytes_840e7 5 = .ok (.if_icmp .ne 23, 3) := by decide +kernel
theorem dJ0_getBytes_840e7_8 : decode cJ0_getBytes_840e7 8 = .ok (.aload_n 0, 1) := by decide +kernel
theorem dJ0_getBytes_840e7_9 : decode cJ0_getBytes_840e7 9 = .ok (.getfield 9, 3) := by decide +kernel
theorem dJ0_getBytes_840e7_12 : decode cJ0_getBytes_840e7 12 = .ok (.iconst 0, 1) := by decide +kernel
theorem dJ0_getBytes_840e7_13 : decode cJ0_getBytes_840e7 13 = .ok (.aload_n 1, 1) := by decide +kernel
theorem dJ0_getBytes_840e7_14 : decode cJ0_getBytes_840e7 14 = .ok (.iload_n 2, 1) := by decide +kernel
theorem dJ0_getBytes_840e7_15 : decode cJ0_getBytes_840e7 15 = .ok (.iload_n 3, 1) := by decide +kernel
theorem dJ0_getBytes_840e7_16 : decode cJ0_getBytes_840e7 16 = .ok (.ishl, 1) := by decide +kernel
theorem dJ0_getBytes_840e7_17 : decode cJ0_getBytes_840e7 17 = .ok (.aload_n 0, 1) := by decide +kernel
theorem dJ0_getBytes_840e7_18 : decode cJ0_getBytes_840e7 18 = .ok (.getfield 9, 3) := by decide +kernel
theorem dJ0_getBytes_840e7_21 : decode cJ0_getBytes_840e7 21 = .ok (.arraylength, 1) := by decide +kernel
theorem dJ0_getBytes_840e7_22 : decode cJ0_getBytes_840e7 22 = .ok (.invokestatic 212, 3) := by decide +kernel
theorem dJ0_getBytes_840e7_25 : decode cJ0_getBytes_840e7 25 = .ok (.goto 18, 3) := by decide +kernel
theorem dJ0_getBytes_840e7_43 : decode cJ0_getBytes_840e7 43 = .ok (.return_, 1) := by decide +kernel
set_option maxHeartbeats 4000000 in
set_option maxRecDepth 100000 in
theorem c_J0_getBytes (l : Launch) (dC : Nat → ClassId) (dI : Nat → Nat → Nat) (cs : Nat → ClassId) (q z : Nat) (a : Nat → Int32) (sa sv : Nat) (t : List Nat) (k sz : Nat) (hk : k + t.length ≤ z) (hm : z ≤ 200) : Met l yJ0_getBytes_840e7 wsJ0_getBytes_840e7 (rm_s 2 0 0) (va_Pc [.ref sa, .ref q, .int (nI k), .int 0] (fun U => sPw dC dI cs sz [(q, .inl (cs 0, z, .inl a))] U ∧ kSq sa sv t (va_A [(q, .inl (cs 0, z, .inl a))] sz) U U.heap)) (cQv dC dI cs (va_A [(q, .inl (cs 0, z, .inl a))] sz) [(q, .inl (cs 0, z, .inl (va_cpy (fun j => sb_b (t.getD j 0)) a 0 k t.length)))]) 0 0 (va_A [(q, .inl (cs 0, z, .inl a))] sz) := by
  refine Met.ofW (cc := cJ0_getBytes_840e7) (maxL := 4) (ret := none) (by decide) rfl ?_
  intro p e s m args below meth c s₁ B hml hv
  obtain ⟨hav, ⟨hsz, hP, hK, hD0, hC⟩, hT⟩ := hv
  subst hsz
  have hA : ∀ q9, s.heap.size ≤ q9 → va_A [(q, .inl (cs 0, z, .inl a))] s.heap.size q9 := fun q9 h => Or.inr h
  have hS : va_S (va_A [(q, .inl (cs 0, z, .inl a))] s.heap.size) s.heap s.heap [] := va_S.rf
  have hD : va_D (va_A [(q, .inl (cs 0, z, .inl a))] s.heap.size) [(q, .inl (cs 0, z, .inl a))] := hD0.self
  have hx := B.exec
  have hb := B.bytes
  have hr := B.returns
  have hts := atoms_spec (ws := wsJ0_getBytes_840e7) B.pre
  have hown : s.vm.findClass RJ0 = some m.cls := findClass_of_methodNamed B.named
  have hlocks := B.notSynchronized
  have k1 := hts (.fieldLink RJ0 9 "java/lang/String" "value" "[B") (by decide +kernel)
  have k2 := hts (.methodLink RJ0 212 arraycopyName) (by decide +kernel)
  have k3 := hts (.native arraycopyName) (by decide +kernel)
  have k4 := hts (.static arraycopyName) (by decide +kernel)
  have k5 := hts (.initialized "java/lang/System") (by decide +kernel)
  have hl := lv_entry ([.ref sa, .ref q, .int (nI k), .int 0]) (n := 4) (Nat.le_of_ble_eq_true rfl)
  rw [show entryFrame m args 4 = entryFrame m ([.ref sa, .ref q, .int (nI k), .int 0] : List Value).toArray 4 from by rw [hav], lg_entry_eq]
  generalize (lg_sl ([.ref sa, .ref q, .int (nI k), .int 0]) ++ List.replicate (4 - (lg_sl ([.ref sa, .ref q, .int (nI k), .int 0])).length) Slot.unset).toArray = ls at hl ⊢
  have hl : lv_has ls 4 [(0, .ref sa), (1, .ref q), (2, .int (nI k)), (3, .int 0)] := hl
  refine lv_aload_n hx hb dJ0_getBytes_840e7_0 rfl (lv_at hl 0 rfl) ?_
  refine ko_call (v := some (.int 0)) (va_runV (As := []) (rest := []) ⟨hx, hb, hml, hown, hts⟩ (c_J0_coderQ l sa sv t) (cwV 0 hts gJ0_getBytes_840e7_J0_coder_7d493 rfl rfl rfl (by decide +kernel) ⟨Nat.le_of_ble_eq_true rfl, Nat.le_of_ble_eq_true rfl⟩) ⟨fun a U g mk q => ⟨q.1, kSq.bl q.2⟩, va_Orecv hT.1 hS, fun U hU hW => ⟨rfl, kSq.at hT hS (fun _ h => h.elim) U hU hW⟩⟩ rfl rfl hl.1 rfl (lv_room (Nat.le_of_ble_eq_true rfl)) dJ0_getBytes_840e7_1 ⟨(by first | exact Nat.le_refl _ | exact Nat.zero_le _ | exact Nat.le_of_ble_eq_true rfl | (show 0 + _ ≤ 200; omega)), (by first | exact Nat.le_refl _ | exact Nat.zero_le _ | exact Nat.le_of_ble_eq_true rfl | (show 0 + _ ≤ 200; omega))⟩) ?_
  refine lv_iload_n hx hb dJ0_getBytes_840e7_4 rfl (lv_at hl 3 rfl) ?_
  refine lv_icmp_ne (tgt := 28) hx hb dJ0_getBytes_840e7_5 (by decide) (fun h => absurd h (fun z => z rfl)) (fun _ => ?_)
  refine lv_aload_n hx hb dJ0_getBytes_840e7_8 rfl (lv_at hl 0 rfl) ?_
  refine vk_getf hx hb hT.2.2.1 hS hown k1 (fun _ h9 => h9) dJ0_getBytes_840e7_9 ?_
  refine lv_iconst (v := 0) hx hb dJ0_getBytes_840e7_12 (by decide) ?_
  refine lv_aload_n hx hb dJ0_getBytes_840e7_13 rfl (lv_at hl 1 rfl) ?_
  refine lv_iload_n hx hb dJ0_getBytes_840e7_14 rfl (lv_at hl 2 rfl) ?_
  refine lv_iload_n hx hb dJ0_getBytes_840e7_15 rfl (lv_at hl 3 rfl) ?_
  refine lv_ishl hx hb dJ0_getBytes_840e7_16 ?_
  refine kt_v (show (.int (((nI k) : Int32) <<< ((0 : Int32) &&& 31)) : Value) = .int (nI k) from congrArg Value.int (sb_shl0 _)) ?_
  refine lv_aload_n hx hb dJ0_getBytes_840e7_17 rfl (lv_at hl 0 rfl) ?_
  refine vk_getf hx hb hT.2.2.1 hS hown k1 (fun _ h9 => h9) dJ0_getBytes_840e7_18 ?_
  refine va_tlen hx hb hT.2.2.2.1 hS (v := (nI t.length)) rfl dJ0_getBytes_840e7_21 ?_
  refine vk_copyt hx hb (by rw [hml]; exact hl.1.symm) hown k2 k3 k4 k5 hK hP hD hS hT.2.2.2.1 0 0 rfl rfl (by decide) (nI_pos (by omega)) (nI_pos (by omega)) (show (0 : Int32).toNatClampNeg + (nI t.length).toNatClampNeg ≤ t.length by rw [sb_cl0, nI_clamp (by omega)]; omega) (show (nI k).toNatClampNeg + (nI t.length).toNatClampNeg ≤ z by rw [nI_clamp (n := k) (by omega), nI_clamp (by omega)]; exact hk) (fun i _ => sb_fitB _) (by first | decide | exact Nat.le_of_ble_eq_true rfl) (by first | decide | exact Nat.le_of_ble_eq_true rfl) dJ0_getBytes_840e7_22 (fun H locs hP hD hS => ?_)
  have hP : va_P (dC, dI) vwCl [(q, .inl (cs 0, z, .inl (va_cpy (fun j => sb_b (t.getD j 0)) a 0 k t.length)))] H := by rw [sb_cl0, nI_clamp (n := k) (by omega), nI_clamp (n := t.length) (by omega)] at hP; exact hP
  have hD : va_D (va_A [(q, .inl (cs 0, z, .inl a))] s.heap.size) [(q, .inl (cs 0, z, .inl (va_cpy (fun j => sb_b (t.getD j 0)) a 0 k t.length)))] := by rw [sb_cl0, nI_clamp (n := k) (by omega), nI_clamp (n := t.length) (by omega)] at hD; exact hD
  refine lv_goto (tgt := 43) hx hb dJ0_getBytes_840e7_25 (by decide) ?_
  exact W.vret hx hb hr (fun t ht hW => ⟨⟨(), rfl, trivial, by rw [ht]; exact hP, va_K.moved hW.alike hK, hD⟩, hS.F ht⟩) hS.2.2 dJ0_getBytes_840e7_43

set_option maxHeartbeats 4000000 in
set_option maxRecDepth 100000 in
theorem c_J5_putStringAt (l : Launch) (dC : Nat → ClassId) (dI : Nat → Nat → Nat) (cs : Nat → ClassId) (h q z : Nat) (n b : Int32) (a : Nat → Int32) (sa sv : Nat) (t : List Nat) (k sz : Nat) (hk : k + t.length ≤ z) (hm : z ≤ 200) : Met l yJ5_putStringAt_47b60 wsJ5_putStringAt_47b60 (rm_s 3 0 0) (va_Pc [.ref h, .int (nI k), .ref sa] (fun U => sPw dC dI cs sz (sW cs h q z n b a) U ∧ kSq sa sv t (va_A (sW cs h q z n b a) sz) U U.heap)) (cQv dC dI cs (va_A (sW cs h q z n b a) sz) (sW cs h q z n b (va_cpy (fun j => sb_b (t.getD j 0)) a 0 k t.length))) 0 0 (va_A (sW cs h q z n b a) sz) := by
  refine Met.ofW (cc := cJ5_putStringAt_47b60) (maxL := 3) (ret := none) (by decide) rfl ?_
  intro p e s m args below meth c s₁ B hml hv
  obtain ⟨hav, ⟨hsz, hP, hK, hD0, hC⟩, hT⟩ := hv
  subst hsz
  have hin : ∀ w ∈ wsJ40, w ∈ wsJ5_putStringAt_47b60 := fun w h => List.mem_cons_of_mem _ (List.mem_append_right _ h)
  have hA : ∀ q9, s.heap.size ≤ q9 → va_A (sW cs h q z n b a) s.heap.size q9 := fun q9 h => Or.inr h
  have hS : va_S (va_A (sW cs h q z n b a) s.heap.size) s.heap s.heap [] := va_S.rf
  have hD : va_D (va_A (sW cs h q z n b a) s.heap.size) (sW cs h q z n b a) := hD0.self
  have hx := B.exec
  have hb := B.bytes
  have hr := B.returns
  have hts := atoms_spec (ws := wsJ5_putStringAt_47b60) B.pre
  have hown : s.vm.findClass RJ5 = some m.cls := findClass_of_methodNamed B.named
  have hlocks := B.notSynchronized
  have k1 := hts (.fieldLink RJ5 15 "java/lang/AbstractStringBuilder" "value" "[B") (by decide +kernel)
  have k2 := hts (.fieldLink RJ5 22 "java/lang/AbstractStringBuilder" "coder" "B") (by decide +kernel)
  have hl := lv_entry ([.ref h, .int (nI k), .ref sa]) (n := 3) (Nat.le_of_ble_eq_true rfl)
  rw [show entryFrame m args 3 = entryFrame m ([.ref h, .int (nI k), .ref sa] : List Value).toArray 3 from by rw [hav], lg_entry_eq]
  generalize (lg_sl ([.ref h, .int (nI k), .ref sa]) ++ List.replicate (3 - (lg_sl ([.ref h, .int (nI k), .ref sa])).length) Slot.unset).toArray = ls at hl ⊢
  have hl : lv_has ls 3 [(0, .ref h), (1, .int (nI k)), (2, .ref sa)] := hl
  refine lv_aload_n hx hb dJ5_putStringAt_47b60_0 rfl (lv_at hl 0 rfl) ?_
  refine lv_aload_n hx hb dJ5_putStringAt_47b60_1 rfl (lv_at hl 2 rfl) ?_
  refine ko_call (v := none) (va_runU (C := RJ4) (As := [.ref sa]) (rest := []) ⟨hx, hb, hml, hown, hts⟩ (c_J5_inflateIf l dC dI cs h q z n b a sa sv t) (va_cwU 1 hts gJ5_putStringAt_47b60_J5_inflateIfNeededFor_a7421_u397J4 rfl rfl rfl rfl (by decide +kernel) ⟨Nat.le_of_ble_eq_true rfl, Nat.le_of_ble_eq_true rfl⟩) ⟨fun a U g mk q => ⟨q.1, sPr_bl q.2.1, kSq.bl q.2.2⟩, va_recv hK hP (ci := 0) (q0 := 0) rfl rfl, fun U hU hW => ⟨rfl, ⟨by rw [hU]; exact hP, va_K.moved hW.alike hK, kC.at hC hS (fun _ h => h.elim) U hU hW⟩, kSq.at hT hS (fun _ h => h.elim) U hU hW⟩⟩ rfl rfl hl.1 rfl (lv_room (Nat.le_of_ble_eq_true rfl)) dJ5_putStringAt_47b60_2 ⟨(by first | exact Nat.le_refl _ | exact Nat.zero_le _ | exact Nat.le_of_ble_eq_true rfl | (show 0 + _ ≤ 200; omega)), (by first | exact Nat.le_refl _ | exact Nat.zero_le _ | exact Nat.le_of_ble_eq_true rfl | (show 0 + _ ≤ 200; omega))⟩) ?_
  refine lv_aload_n hx hb dJ5_putStringAt_47b60_5 rfl (lv_at hl 2 rfl) ?_
  refine lv_aload_n hx hb dJ5_putStringAt_47b60_6 rfl (lv_at hl 0 rfl) ?_
  refine va_get (D := (dC, dI)) (ci := 0) (C := RJ4) (T := TJ4) (N := 4) hx hb hts hin hown hK hP 0 rfl rfl 0 (by decide) (v := .ref q) k1 (fun _ h9 => h9) rfl dJ5_putStringAt_47b60_7 ?_
  refine lv_iload_n hx hb dJ5_putStringAt_47b60_10 rfl (lv_at hl 1 rfl) ?_
  refine lv_aload_n hx hb dJ5_putStringAt_47b60_11 rfl (lv_at hl 0 rfl) ?_
  refine va_get (D := (dC, dI)) (ci := 0) (C := RJ4) (T := TJ4) (N := 4) hx hb hts hin hown hK hP 0 rfl rfl 1 (by decide) (v := .int 0) k2 (fun _ h9 => h9) rfl dJ5_putStringAt_47b60_12 ?_
  have hF := va_free (wc := [(q, .inl (cs 0, z, .inl a))]) hD hS hA [1] rfl
  refine va_callv (va_runV (As := [.ref q, .int (nI k), .int 0]) (rest := []) ⟨hx, hb, hml, hown, hts⟩ (c_J0_getBytes l dC dI cs q z a sa sv t k s.heap.size hk hm) (cwV 3 hts gJ5_putStringAt_47b60_J0_getBytes_840e7 rfl rfl rfl (by decide +kernel) ⟨Nat.le_of_ble_eq_true rfl, Nat.le_of_ble_eq_true rfl⟩) ⟨fun a U g mk q => ⟨q.1, sPw_bl q.2.1, kSq.bl q.2.2⟩, va_Orecv hT.1 hS, fun U hU hW => ⟨rfl, ⟨by rw [hU], by rw [hU]; exact hP.sub [1] rfl, va_K.moved hW.alike hK, (hD.sub (ws' := [(q, .inl (cs 0, z, .inl a))]) [1] (by decide) rfl).weaken (fun _ _ _ _ => trivial), kC.at hC hS hF U hU hW⟩, kSq.at hT hS hF U hU hW⟩⟩ rfl rfl hl.1 rfl (lv_room (Nat.le_of_ble_eq_true rfl)) dJ5_putStringAt_47b60_15 ⟨(by first | exact Nat.le_refl _ | exact Nat.zero_le _ | exact Nat.le_of_ble_eq_true rfl | (show 0 + _ ≤ 200; omega)), (by first | exact Nat.le_refl _ | exact Nat.zero_le _ | exact Nat.le_of_ble_eq_true rfl | (show 0 + _ ≤ 200; omega))⟩) hS (fun q _ h => hF q h) hF (fun u t1 H1 locs ht hvm hu hB hz hk1 hS => ?_)
  obtain ⟨hP1, hK1, hD1⟩ := hB
  rw [ht] at hP1
  obtain ⟨hP, hD⟩ := va_join (wr := [(h, .inr (0, [.ref q, .int 0, .int b, .int n]))]) (w1 := [(q, .inl (cs 0, z, .inl (va_cpy (fun j => sb_b (t.getD j 0)) a 0 k t.length)))]) hP hD [1] [0] rfl rfl (by decide) (by decide) hk1 hF hP1 hD1
  exact W.vret hx hb hr (fun t ht hW => ⟨⟨(), rfl, trivial, by rw [ht]; exact hP, va_K.moved hW.alike hK, hD⟩, hS.F ht⟩) hS.2.2 dJ5_putStringAt_47b60_18

set_option maxHeartbeats 4000000 in
set_option maxRecDepth 100000 in
theorem c_J5_appendS (l : Launch) (dC : Nat → ClassId) (dI : Nat → Nat → Nat) (cs : Nat → ClassId) (h q z : Nat) (L : List Nat) (b : Int32) (a : Nat → Int32) (sa sv : Nat) (t : List Nat) (sz : Nat) (hI : sI L z a) (hL : L.length + t.length ≤ 60) (ht8 : ∀ i, i < t.length → t.getD i 0 < 256) : Met l yJ5_append_cf1ce wsJ5_append_cf1ce (rm_s 4 1 200) (va_Pc [.ref h, .ref sa] (fun U => sPw dC dI cs sz (sW cs h q z (nI L.length) b a) U ∧ kSq sa sv t (va_A (sW cs h q z (nI L.length) b a) sz) U U.heap)) (sQr dC dI cs (va_A (sW cs h q z (nI L.length) b a) sz) h (L ++ t)) 1 200 (va_A (sW cs h q z (nI L.length) b a) sz) := by
  refine Met.ofW (cc := cJ5_append_cf1ce) (maxL := 3) (ret := (some (.object "java/lang/AbstractStringBuilder"))) (by decide) rfl ?_
  intro p e s m args below meth c s₁ B hml hv
  obtain ⟨hav, ⟨hsz, hP, hK, hD0, hC⟩, hT⟩ := hv
  subst hsz
  have hin : ∀ w ∈ wsJ40, w ∈ wsJ5_append_cf1ce := fun w h => List.mem_cons_of_mem _ (List.mem_append_right _ h)
  have hA : ∀ q9, s.heap.size ≤ q9 → va_A (sW cs h q z (nI L.length) b a) s.heap.size q9 := fun q9 h => Or.inr h
  have hS : va_S (va_A (sW cs h q z (nI L.length) b a) s.heap.size) s.heap s.heap [] := va_S.rf
  have hD : va_D (va_A (sW cs h q z (nI L.length) b a) s.heap.size) (sW cs h q z (nI L.length) b a) := hD0.self
  have hx := B.exec
  have hb := B.bytes
  have hr := B.returns
  have hts := atoms_spec (ws := wsJ5_append_cf1ce) B.pre
  have hown : s.vm.findClass RJ5 = some m.cls := findClass_of_methodNamed B.named
  have hlocks := B.notSynchronized
  have k1 := hts (.fieldLink RJ5 79 "java/lang/AbstractStringBuilder" "count" "I") (by decide +kernel)
  have hl := lv_entry ([.ref h, .ref sa]) (n := 3) (Nat.le_of_ble_eq_true rfl)
  rw [show entryFrame m args 3 = entryFrame m ([.ref h, .ref sa] : List Value).toArray 3 from by rw [hav], lg_entry_eq]
  generalize (lg_sl ([.ref h, .ref sa]) ++ List.replicate (3 - (lg_sl ([.ref h, .ref sa])).length) Slot.unset).toArray = ls at hl ⊢
  have hl : lv_has ls 3 [(0, .ref h), (1, .ref sa)] := hl
  refine lv_aload_n hx hb dJ5_append_cf1ce_0 rfl (lv_at hl 1 rfl) ?_
  refine lv_ifnonnull (tgt := 9) hx hb dJ5_append_cf1ce_1 (by decide) ?_
  refine lv_aload_n hx hb dJ5_append_cf1ce_9 rfl (lv_at hl 1 rfl) ?_
  refine ko_call (v := some (.int (nI t.length))) (va_runV (As := []) (rest := []) ⟨hx, hb, hml, hown, hts⟩ (c_J0_lengthQ l sa sv t (by omega)) (cwV 0 hts gJ5_append_cf1ce_J0_length_8abf5 rfl rfl rfl (by decide +kernel) ⟨Nat.le_of_ble_eq_true rfl, Nat.le_of_ble_eq_true rfl⟩) ⟨fun a U g mk q => ⟨q.1, kSq.bl q.2⟩, va_Orecv hT.1 hS, fun U hU hW => ⟨rfl, kSq.at hT hS (fun _ h => h.elim) U hU hW⟩⟩ rfl rfl hl.1 rfl (lv_room (Nat.le_of_ble_eq_true rfl)) dJ5_append_cf1ce_10 ⟨(by first | exact Nat.le_refl _ | exact Nat.zero_le _ | exact Nat.le_of_ble_eq_true rfl | (show 0 + _ ≤ 200; omega)), (by first | exact Nat.le_refl _ | exact Nat.zero_le _ | exact Nat.le_of_ble_eq_true rfl | (show 0 + _ ≤ 200; omega))⟩) ?_
  refine lv_istore_n (nL := 3) (lv' := [(2, .int (nI t.length)), (0, .ref h), (1, .ref sa)]) hx hb dJ5_append_cf1ce_13 rfl hl (by decide) rfl (fun ls hl => ?_)
  refine lv_aload_n hx hb dJ5_append_cf1ce_14 rfl (lv_at hl 1 rfl) ?_
  refine lv_aload_n hx hb dJ5_append_cf1ce_15 rfl (lv_at hl 1 rfl) ?_
  refine va_get (D := (dC, dI)) (ci := 0) (C := RJ4) (T := TJ4) (N := 4) hx hb hts hin hown hK hP 0 rfl rfl 3 (by decide) (v := .int (nI L.length)) k1 (fun _ h9 => h9) rfl dJ5_append_cf1ce_16 ?_
  refine lv_iload_n hx hb dJ5_append_cf1ce_19 rfl (lv_at hl 0 rfl) ?_
  refine lv_iadd hx hb dJ5_append_cf1ce_20 ?_
  refine kt_v (show (.int ((nI L.length) + (nI t.length)) : Value) = .int (nI (L.length + t.length)) from congrArg Value.int (nI_add _ _)) ?_
  have hF := va_free (wc := (sW cs h q z (nI L.length) b a)) hD hS hA [0, 1] rfl
  refine va_callv (va_runU (C := RJ4) (As := [.int (nI (L.length + t.length))]) (rest := []) ⟨hx, hb, hml, hown, hts⟩ (c_J5_ens l dC dI cs h q z (nI L.length) b a (L.length + t.length) s.heap.size hI.2.1 (by omega) hI.2.2.1) (va_cwU 1 hts gJ5_append_cf1ce_J5_ensureCapacityInternal_d00df_u100J4 rfl rfl rfl rfl (by decide +kernel) ⟨Nat.le_of_ble_eq_true rfl, Nat.le_of_ble_eq_true rfl⟩) ⟨fun a U g mk q => ⟨q.1, sPw_bl q.2⟩, va_recv hK hP (ci := 0) (q0 := 0) rfl rfl, fun U hU hW => ⟨rfl, ⟨by rw [hU], by rw [hU]; exact hP, va_K.moved hW.alike hK, hD.weaken (fun _ _ _ _ => trivial), kC.at hC hS hF U hU hW⟩⟩⟩ rfl rfl hl.1 rfl (lv_room (Nat.le_of_ble_eq_true rfl)) dJ5_append_cf1ce_21 ⟨(by first | exact Nat.le_refl _ | exact Nat.zero_le _ | exact Nat.le_of_ble_eq_true rfl | (show 0 + _ ≤ 200; omega)), (by first | exact Nat.le_refl _ | exact Nat.zero_le _ | exact Nat.le_of_ble_eq_true rfl | (show 0 + _ ≤ 200; omega))⟩) hS (fun q _ h => hF q h) hF (fun u t9 H1 locs ht hvm hu hB hz hk hS => ?_)
  obtain ⟨q1, m1, a1⟩ := u
  obtain ⟨hP1, hK1, hD1⟩ := hB
  rw [ht] at hP1
  have hP := hP1
  have hD := hD1.weaken (fun _ _ _ h => hF _ h)
  generalize H1 = H at hP hS ⊢
  have hP : va_P (dC, dI) vwCl [(h, .inr (0, [.ref q1, .int 0, .int b, .int (nI L.length)])), (q1, .inl (cs 0, m1, .inl a1))] H := hP
  have hD : va_D (va_A (sW cs h q z (nI L.length) b a) s.heap.size) [(h, .inr (0, [.ref q1, .int 0, .int b, .int (nI L.length)])), (q1, .inl (cs 0, m1, .inl a1))] := hD
  obtain ⟨hu1, hu2, hu3, hu4, hu5⟩ := hu
  dsimp only at hu1 hu2 hu3 hu4 hu5
  refine lv_aload_n hx hb dJ5_append_cf1ce_24 rfl (lv_at hl 1 rfl) ?_
  refine lv_aload_n hx hb dJ5_append_cf1ce_25 rfl (lv_at hl 1 rfl) ?_
  refine va_get (D := (dC, dI)) (ci := 0) (C := RJ4) (T := TJ4) (N := 4) hx hb hts hin hown hK hP 0 rfl rfl 3 (by decide) (v := .int (nI L.length)) k1 (fun _ h9 => h9) rfl dJ5_append_cf1ce_26 ?_
  refine lv_aload_n hx hb dJ5_append_cf1ce_29 rfl (lv_at hl 2 rfl) ?_
  have hF := va_free (wc := (sW cs h q1 m1 (nI L.length) b a1)) hD hS hA [0, 1] rfl
  refine va_callv (va_runU (C := RJ4) (As := [.int (nI L.length), .ref sa]) (rest := []) ⟨hx, hb, hml, hown, hts⟩ (c_J5_putStringAt l dC dI cs h q1 m1 (nI L.length) b a1 sa sv t L.length H.size hu1 hu3) (va_cwU 2 hts gJ5_append_cf1ce_J5_putStringAt_47b60_u208J4 rfl rfl rfl rfl (by decide +kernel) ⟨Nat.le_of_ble_eq_true rfl, Nat.le_of_ble_eq_true rfl⟩) ⟨fun a U g mk q => ⟨q.1, sPw_bl q.2.1, kSq.bl q.2.2⟩, va_recv hK hP (ci := 0) (q0 := 0) rfl rfl, fun U hU hW => ⟨rfl, ⟨by rw [hU], by rw [hU]; exact hP, va_K.moved hW.alike hK, hD.weaken (fun _ _ _ _ => trivial), kC.at hC hS hF U hU hW⟩, kSq.at hT hS hF U hU hW⟩⟩ rfl rfl hl.1 rfl (lv_room (Nat.le_of_ble_eq_true rfl)) dJ5_append_cf1ce_30 ⟨(by first | exact Nat.le_refl _ | exact Nat.zero_le _ | exact Nat.le_of_ble_eq_true rfl | (show 0 + _ ≤ 200; omega)), (by first | exact Nat.le_refl _ | exact Nat.zero_le _ | exact Nat.le_of_ble_eq_true rfl | (show 0 + _ ≤ 200; omega))⟩) hS (fun q _ h => hF q h) hF (fun u t1 H1 locs ht hvm hu hB hz hk1 hS => ?_)
  obtain ⟨hP1, hK1, hD1⟩ := hB
  rw [ht] at hP1
  have hP := hP1
  have hD := hD1.weaken (fun _ _ _ h => hF _ h)
  generalize H1 = H at hP hS ⊢
  have hP : va_P (dC, dI) vwCl [(h, .inr (0, [.ref q1, .int 0, .int b, .int (nI L.length)])), (q1, .inl (cs 0, m1, .inl (va_cpy (fun j => sb_b (t.getD j 0)) a1 0 L.length t.length)))] H := hP
  have hD : va_D (va_A (sW cs h q z (nI L.length) b a) s.heap.size) [(h, .inr (0, [.ref q1, .int 0, .int b, .int (nI L.length)])), (q1, .inl (cs 0, m1, .inl (va_cpy (fun j => sb_b (t.getD j 0)) a1 0 L.length t.length)))] := hD
  refine lv_aload_n hx hb dJ5_append_cf1ce_33 rfl (lv_at hl 1 rfl) ?_
  refine lv_dup hx hb dJ5_append_cf1ce_34 rfl ?_
  refine va_get (D := (dC, dI)) (ci := 0) (C := RJ4) (T := TJ4) (N := 4) hx hb hts hin hown hK hP 0 rfl rfl 3 (by decide) (v := .int (nI L.length)) k1 (fun _ h9 => h9) rfl dJ5_append_cf1ce_35 ?_
  refine lv_iload_n hx hb dJ5_append_cf1ce_38 rfl (lv_at hl 0 rfl) ?_
  refine lv_iadd hx hb dJ5_append_cf1ce_39 ?_
  refine kt_v (show (.int ((nI L.length) + (nI t.length)) : Value) = .int (nI (L.length + t.length)) from congrArg Value.int (nI_add _ _)) ?_
  refine va_put (D := (dC, dI)) (ci := 0) (v := .int (nI (L.length + t.length))) (ty := .int) (C := RJ4) (T := TJ4) (N := 4) hx hb hts hin tyJ4 tyJ4_ok nmJ4 hown hK hP hD hS 0 rfl rfl 3 (by decide) k1 (fun _ h9 => h9) rfl (by decide +kernel) rfl rfl (Nat.le_of_ble_eq_true rfl) dJ5_append_cf1ce_40 (fun H locs hP hD hS => ?_)
  have hP : va_P (dC, dI) vwCl [(h, .inr (0, [.ref q1, .int 0, .int b, .int (nI (L.length + t.length))])), (q1, .inl (cs 0, m1, .inl (va_cpy (fun j => sb_b (t.getD j 0)) a1 0 L.length t.length)))] H := hP
  have hD : va_D (va_A (sW cs h q z (nI L.length) b a) s.heap.size) [(h, .inr (0, [.ref q1, .int 0, .int b, .int (nI (L.length + t.length))])), (q1, .inl (cs 0, m1, .inl (va_cpy (fun j => sb_b (t.getD j 0)) a1 0 L.length t.length)))] := hD
  refine lv_aload_n hx hb dJ5_append_cf1ce_43 rfl (lv_at hl 1 rfl) ?_
  have hI2 : sI (L ++ t) m1 (va_cpy (fun j => sb_b (t.getD j 0)) a1 0 L.length t.length) := by
    refine sI_app hI (w := t.length) rfl hu1 hu3 (sb_fitC (fun _ => sb_fitB _) hu4) (fun j hj => by rw [pk_cpy_out (by omega)]; exact hu5 j (by have := hI.1; omega)) (fun i hi => ⟨ht8 i hi, sb_cpy_at hi⟩)
  have eL : nI (L.length + t.length) = nI (L ++ t).length := by rw [List.length_append]
  rw [eL] at hP hD
  exact W.aret (v := .ref h) (rt := .object "java/lang/AbstractStringBuilder") hx hb hr (Or.inl ⟨_, rfl⟩) (Or.inr ⟨_, rfl⟩) (fun t9 ht hW => ⟨⟨(q1, m1, b, (va_cpy (fun j => sb_b (t.getD j 0)) a1 0 L.length t.length)), h, rfl, hI2, rfl, by rw [ht]; exact hP, va_K.moved hW.alike hK, hD⟩, hS.F ht⟩) hS.2.2 dJ5_append_cf1ce_44

theorem dJ4_append_15ec4_0 : decode cJ4_append_15ec4 0 = .ok (.aload_n 0, 1) := by decide +kernel
theorem dJ4_append_15ec4_1 : decode cJ4_append_15ec4 1 = .ok (.aload_n 1, 1) := by decide +kernel
set_option maxRecDepth 20000 in
theorem ggJ4_append_15ec4_J5_append_cf1ce : GoodIn wsJ4_append_15ec4 wsJ5_append_cf1ce := goodIn_r _ [6, 7, 8, 9, 10, 11, 5, 12, 13, 14, 15, 16, 17, 18, 19, 20, 21, 22, 23, 24, 25, 26, 27, 28, 29, 30, 31, 32, 33, 34, 35, 36, 37, 38, 39, 40, 41, 42, 43, 44, 45, 46, 47, 48, 49, 50, 51, 52, 53, 54, 55, 56, 57, 58, 59, 60, 61, 62, 63, 64, 65, 66, 67, 68, 69, 70, 71, 72, 73, 74, 75, 76, 77, 78, 79, 80, 81, 82, 83, 84, 85, 86, 87, 88, 89, 90, 91, 92, 93, 94, 95, 96, 97, 98, 99, 100, 101, 102, 103, 104, 105, 106, 107, 108, 109, 110, 111, 112, 113, 114, 115, 116, 117, 118, 119, 120, 121, 122, 123, 124, 125, 126, 127, 128, 129, 130, 131, 132, 133, 134, 135, 136, 137, 138, 139, 140, 141, 142, 143, 144, 145, 146] (by decide +kernel) (by decide +kernel)
set_option maxRecDepth 20000 in
theorem gJ4_append_15ec4_J5_append_cf1ce_s29 : GoodIn wsJ4_append_15ec4 (va_wsSU RJ4 29 yJ5_append_cf1ce wsJ5_append_cf1ce) := goodIn_app (goodIn_of _ (by decide +kernel)) ggJ4_append_15ec4_J5_append_cf1ce
theorem dJ4_append_15ec4_2 : decode cJ4_append_15ec4 2 = .ok (.invokespecial 29, 3) := by decide +kernel
theorem dJ4_append_15ec4_5 : decode cJ4_append_15ec4 5 = .ok (.pop, 1) := by decide +kernel
theorem dJ4_append_15ec4_6 : decode cJ4_append_15ec4 6 = .ok (.aload_n 0, 1) := by decide +kernel
theorem dJ4_append_15ec4_7 : decode cJ4_append_15ec4 7 = .ok (.areturn, 1) := by decide +kernel
set_option maxHeartbeats 4000000 in
set_option maxRecDepth 100000 in
theorem c_J4_appendS (l : Launch) (dC : Nat → ClassId) (dI : Nat → Nat → Nat) (cs : Nat → ClassId) (h q z : Nat) (L : List Nat) (b : Int32) (a : Nat → Int32) (sa sv : Nat) (t : List Nat) (sz : Nat) (hI : sI L z a) (hL : L.length + t.length ≤ 60) (ht8 : ∀ i, i < t.length → t.getD i 0 < 256) : Met l yJ4_append_15ec4 wsJ4_append_15ec4 (rm_s 5 1 200) (va_Pc [.ref h, .ref sa] (fun U => sPw dC dI cs sz (sW cs h q z (nI L.length) b a) U ∧ kSq sa sv t (va_A (sW cs h q z (nI L.length) b a) sz) U U.heap)) (sQr dC dI cs (va_A (sW cs h q z (nI L.length) b a) sz) h (L ++ t)) 1 200 (va_A (sW cs h q z (nI L.length) b a) sz) := by
  refine Met.ofW (cc := cJ4_append_15ec4) (maxL := 2) (ret := (some (.object "java/lang/StringBuilder"))) (by decide) rfl ?_
  intro p e s m args below meth c s₁ B hml hv
  obtain ⟨hav, ⟨hsz, hP, hK, hD0, hC⟩, hT⟩ := hv
  subst hsz
  have hin : ∀ w ∈ wsJ40, w ∈ wsJ4_append_15ec4 := fun w h => List.mem_cons_of_mem _ (List.mem_append_right _ h)
  have hA : ∀ q9, s.heap.size ≤ q9 → va_A (sW cs h q z (nI L.length) b a) s.heap.size q9 := fun q9 h => Or.inr h
  have hS : va_S (va_A (sW cs h q z (nI L.length) b a) s.heap.size) s.heap s.heap [] := va_S.rf
  have hD : va_D (va_A (sW cs h q z (nI L.length) b a) s.heap.size) (sW cs h q z (nI L.length) b a) := hD0.self
  have hx := B.exec
  have hb := B.bytes
  have hr := B.returns
  have hts := atoms_spec (ws := wsJ4_append_15ec4) B.pre
  have hown : s.vm.findClass RJ4 = some m.cls := findClass_of_methodNamed B.named
  have hlocks := B.notSynchronized
  have hl := lv_entry ([.ref h, .ref sa]) (n := 2) (Nat.le_of_ble_eq_true rfl)
  rw [show entryFrame m args 2 = entryFrame m ([.ref h, .ref sa] : List Value).toArray 2 from by rw [hav], lg_entry_eq]
  generalize (lg_sl ([.ref h, .ref sa]) ++ List.replicate (2 - (lg_sl ([.ref h, .ref sa])).length) Slot.unset).toArray = ls at hl ⊢
  have hl : lv_has ls 2 [(0, .ref h), (1, .ref sa)] := hl
  refine lv_aload_n hx hb dJ4_append_15ec4_0 rfl (lv_at hl 0 rfl) ?_
  refine lv_aload_n hx hb dJ4_append_15ec4_1 rfl (lv_at hl 1 rfl) ?_
  have hF := va_free (wc := (sW cs h q z (nI L.length) b a)) hD hS hA [0, 1] rfl
  refine va_callr (va_runSU (hK.1 0 _ rfl).2 (As := [.ref sa]) (rest := []) ⟨hx, hb, hml, hown, hts⟩ (c_J5_appendS l dC dI cs h q z L b a sa sv t s.heap.size hI hL ht8) (va_cwSU 1 hts gJ4_append_15ec4_J5_append_cf1ce_s29 rfl rfl rfl (by decide +kernel) ⟨Nat.le_of_ble_eq_true rfl, Nat.le_of_ble_eq_true rfl⟩) ⟨fun a U g mk q => ⟨q.1, sPw_bl q.2.1, kSq.bl q.2.2⟩, va_recv hK hP (ci := 0) (q0 := 0) rfl rfl, fun U hU hW => ⟨rfl, ⟨by rw [hU], by rw [hU]; exact hP, va_K.moved hW.alike hK, hD.weaken (fun _ _ _ _ => trivial), kC.at hC hS hF U hU hW⟩, kSq.at hT hS hF U hU hW⟩⟩ rfl rfl hl.1 rfl (lv_room (Nat.le_of_ble_eq_true rfl)) dJ4_append_15ec4_2 ⟨(by first | exact Nat.le_refl _ | exact Nat.zero_le _ | exact Nat.le_of_ble_eq_true rfl | (show 0 + _ ≤ 200; omega)), (by first | exact Nat.le_refl _ | exact Nat.zero_le _ | exact Nat.le_of_ble_eq_true rfl | (show 0 + _ ≤ 200; omega))⟩) hS (fun q _ h => hF q h) hF (fun u ra t1 H1 locs ht hvm hu hB hz hk hS => ?_)
  obtain ⟨q1, m1, b1, a1⟩ := u
  obtain ⟨era, hP1, hK1, hD1⟩ := hB
  have era := era.symm
  subst era
  rw [ht] at hP1
  have hP := hP1
  have hD := hD1.weaken (fun _ _ _ h => hF _ h)
  generalize H1 = H at hP hS ⊢
  refine lv_pop hx hb dJ4_append_15ec4_5 rfl ?_
  refine lv_aload_n hx hb dJ4_append_15ec4_6 rfl (lv_at hl 0 rfl) ?_
  exact W.aret (v := .ref h) (rt := .object "java/lang/StringBuilder") hx hb hr (Or.inl ⟨_, rfl⟩) (Or.inr ⟨_, rfl⟩) (fun t ht hW => ⟨⟨(q1, m1, b1, a1), h, rfl, hu, rfl, by rw [ht]; exact hP, va_K.moved hW.alike hK, hD⟩, hS.F ht⟩) hS.2.2 dJ4_append_15ec4_7

