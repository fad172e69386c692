set_option maxHeartbeats 4000000 in
set_option maxRecDepth 100000 in
theorem c_J6_stringSize (l : Launch) (v : Nat) (hv : v < 2 ^ 31) : Met l yJ6_stringSize_0f7a4 wsJ6_stringSize_0f7a4 (rm_s 0 0 0) (va_Pc [.int (nI v)] (fun _ => True)) (kQ (some (.int (nI (sb_dg v))))) 0 0 (kF) := by
  refine Met.ofW (cc := cJ6_stringSize_0f7a4) (maxL := 4) (ret := (some .int)) (by decide) rfl ?_
  intro p e s m args below meth c s₁ B hml hv1
  obtain ⟨hav, -⟩ := hv1
  have hx := B.exec
  have hb := B.bytes
  have hr := B.returns
  have hts := atoms_spec (ws := wsJ6_stringSize_0f7a4) B.pre
  have hown : s.vm.findClass RJ6 = some m.cls := findClass_of_methodNamed B.named
  have hlocks := B.notSynchronized
  have hl := lv_entry ([.int (nI v)]) (n := 4) (Nat.le_of_ble_eq_true rfl)
  rw [show entryFrame m args 4 = entryFrame m ([.int (nI v)] : List Value).toArray 4 from by rw [hav], lg_entry_eq]
  generalize (lg_sl ([.int (nI v)]) ++ List.replicate (4 - (lg_sl ([.int (nI v)])).length) Slot.unset).toArray = ls at hl ⊢
  have hl : lv_has ls 4 [(0, .int (nI v))] := hl
  refine lv_iconst (v := 1) hx hb dJ6_stringSize_0f7a4_0 (by decide) ?_
  refine lv_istore_n (nL := 4) (lv' := [(1, .int 1), (0, .int (nI v))]) hx hb dJ6_stringSize_0f7a4_1 rfl hl (by decide) rfl (fun ls hl => ?_)
  refine lv_iload_n hx hb dJ6_stringSize_0f7a4_2 rfl (lv_at hl 1 rfl) ?_
  refine lv_if_lt (tgt := 11) hx hb dJ6_stringSize_0f7a4_3 (by decide) (fun h => absurd h (nI_pos hv)) (fun _ => ?_)
  refine lv_iconst (v := 0) hx hb dJ6_stringSize_0f7a4_6 (by decide) ?_
  refine lv_istore_n (nL := 4) (lv' := [(1, .int 0), (0, .int (nI v))]) hx hb dJ6_stringSize_0f7a4_7 rfl hl (by decide) rfl (fun ls hl => ?_)
  refine lv_iload_n hx hb dJ6_stringSize_0f7a4_8 rfl (lv_at hl 1 rfl) ?_
  refine lv_ineg hx hb dJ6_stringSize_0f7a4_9 ?_
  refine lv_istore_n (nL := 4) (lv' := [(0, .int (-(nI v))), (1, .int 0)]) hx hb dJ6_stringSize_0f7a4_10 rfl hl (by decide) rfl (fun ls hl => ?_)
  refine lv_bipush (v := (-10)) hx hb dJ6_stringSize_0f7a4_11 (by decide) ?_
  refine lv_istore_n (nL := 4) (lv' := [(2, .int (-10)), (0, .int (-(nI v))), (1, .int 0)]) hx hb dJ6_stringSize_0f7a4_13 rfl hl (by decide) rfl (fun ls hl => ?_)
  refine lv_iconst (v := 1) hx hb dJ6_stringSize_0f7a4_14 (by decide) ?_
  refine lv_istore_n (nL := 4) (lv' := [(3, .int 1), (2, .int (-10)), (0, .int (-(nI v))), (1, .int 0)]) hx hb dJ6_stringSize_0f7a4_15 rfl hl (by decide) rfl (fun ls hl => ?_)
  refine lv_iload_n hx hb dJ6_stringSize_0f7a4_16 rfl (lv_at hl 0 rfl) ?_
  refine lv_bipush (v := 10) hx hb dJ6_stringSize_0f7a4_17 (by decide) ?_
  refine lv_icmp_ge (tgt := 42) hx hb dJ6_stringSize_0f7a4_19 (by decide) (fun h => absurd h (by decide)) (fun _ => ?_)
  refine lv_iload_n hx hb dJ6_stringSize_0f7a4_22 rfl (lv_at hl 2 rfl) ?_
  refine lv_iload_n hx hb dJ6_stringSize_0f7a4_23 rfl (lv_at hl 1 rfl) ?_
  rcases Nat.lt_or_ge v 10 with g1 | g1
  · refine lv_icmp_le (tgt := 31) hx hb dJ6_stringSize_0f7a4_24 (by decide) (fun h => absurd h (fun z => absurd ((sb_nle (a := v) (b := 10) hv (by decide)).mp (show -nI v ≤ -nI 10 from z)) (by omega))) (fun _ => ?_)
    refine lv_iload_n hx hb dJ6_stringSize_0f7a4_27 rfl (lv_at hl 0 rfl) ?_
    refine lv_iload_n hx hb dJ6_stringSize_0f7a4_28 rfl (lv_at hl 3 rfl) ?_
    refine lv_iadd hx hb dJ6_stringSize_0f7a4_29 ?_
    refine kt_v (show (.int (1 + 0) : Value) = .int (nI (sb_dg v)) from congrArg Value.int (by rw [show sb_dg v = 1 by unfold sb_dg; (repeat' split) <;> omega]; decide)) ?_
    exact W.iret (v := nI (sb_dg v)) hx hb hr (fun t ht hW => ⟨rfl, ht⟩) (fun _ h => nomatch h) dJ6_stringSize_0f7a4_30
  refine lv_icmp_le (tgt := 31) hx hb dJ6_stringSize_0f7a4_24 (by decide) (fun _ => ?_) (fun h => absurd ((sb_nle (a := v) (b := 10) hv (by decide)).mpr (by omega)) h)
  refine lv_bipush (v := 10) hx hb dJ6_stringSize_0f7a4_31 (by decide) ?_
  refine lv_iload_n hx hb dJ6_stringSize_0f7a4_33 rfl (lv_at hl 1 rfl) ?_
  refine lv_imul hx hb dJ6_stringSize_0f7a4_34 ?_
  refine kt_v (show (.int (10 * (-10)) : Value) = .int (-100) from congrArg Value.int (by decide)) ?_
  refine lv_istore_n (nL := 4) (lv' := [(2, .int (-100)), (3, .int 1), (0, .int (-(nI v))), (1, .int 0)]) hx hb dJ6_stringSize_0f7a4_35 rfl hl (by decide) rfl (fun ls hl => ?_)
  refine lv_iinc (k := 1) (v := 2) (nL := 4) (lv' := [(3, .int 2), (2, .int (-100)), (0, .int (-(nI v))), (1, .int 0)]) hx hb dJ6_stringSize_0f7a4_36 hl rfl (by decide) (by decide) rfl (fun ls hl => ?_)
  refine lv_goto (tgt := 16) hx hb dJ6_stringSize_0f7a4_39 (by decide) ?_
  refine lv_iload_n hx hb dJ6_stringSize_0f7a4_16 rfl (lv_at hl 0 rfl) ?_
  refine lv_bipush (v := 10) hx hb dJ6_stringSize_0f7a4_17 (by decide) ?_
  refine lv_icmp_ge (tgt := 42) hx hb dJ6_stringSize_0f7a4_19 (by decide) (fun h => absurd h (by decide)) (fun _ => ?_)
  refine lv_iload_n hx hb dJ6_stringSize_0f7a4_22 rfl (lv_at hl 2 rfl) ?_
  refine lv_iload_n hx hb dJ6_stringSize_0f7a4_23 rfl (lv_at hl 1 rfl) ?_
  rcases Nat.lt_or_ge v 100 with g2 | g2
  · refine lv_icmp_le (tgt := 31) hx hb dJ6_stringSize_0f7a4_24 (by decide) (fun h => absurd h (fun z => absurd ((sb_nle (a := v) (b := 100) hv (by decide)).mp (show -nI v ≤ -nI 100 from z)) (by omega))) (fun _ => ?_)
    refine lv_iload_n hx hb dJ6_stringSize_0f7a4_27 rfl (lv_at hl 0 rfl) ?_
    refine lv_iload_n hx hb dJ6_stringSize_0f7a4_28 rfl (lv_at hl 3 rfl) ?_
    refine lv_iadd hx hb dJ6_stringSize_0f7a4_29 ?_
    refine kt_v (show (.int (2 + 0) : Value) = .int (nI (sb_dg v)) from congrArg Value.int (by rw [show sb_dg v = 2 by unfold sb_dg; (repeat' split) <;> omega]; decide)) ?_
    exact W.iret (v := nI (sb_dg v)) hx hb hr (fun t ht hW => ⟨rfl, ht⟩) (fun _ h => nomatch h) dJ6_stringSize_0f7a4_30
  refine lv_icmp_le (tgt := 31) hx hb dJ6_stringSize_0f7a4_24 (by decide) (fun _ => ?_) (fun h => absurd ((sb_nle (a := v) (b := 100) hv (by decide)).mpr (by omega)) h)
  refine lv_bipush (v := 10) hx hb dJ6_stringSize_0f7a4_31 (by decide) ?_
  refine lv_iload_n hx hb dJ6_stringSize_0f7a4_33 rfl (lv_at hl 1 rfl) ?_
  refine lv_imul hx hb dJ6_stringSize_0f7a4_34 ?_
  refine kt_v (show (.int (10 * (-100)) : Value) = .int (-1000) from congrArg Value.int (by decide)) ?_
  refine lv_istore_n (nL := 4) (lv' := [(2, .int (-1000)), (3, .int 2), (0, .int (-(nI v))), (1, .int 0)]) hx hb dJ6_stringSize_0f7a4_35 rfl hl (by decide) rfl (fun ls hl => ?_)
  refine lv_iinc (k := 1) (v := 3) (nL := 4) (lv' := [(3, .int 3), (2, .int (-1000)), (0, .int (-(nI v))), (1, .int 0)]) hx hb dJ6_stringSize_0f7a4_36 hl rfl (by decide) (by decide) rfl (fun ls hl => ?_)
  refine lv_goto (tgt := 16) hx hb dJ6_stringSize_0f7a4_39 (by decide) ?_
  refine lv_iload_n hx hb dJ6_stringSize_0f7a4_16 rfl (lv_at hl 0 rfl) ?_
  refine lv_bipush (v := 10) hx hb dJ6_stringSize_0f7a4_17 (by decide) ?_
  refine lv_icmp_ge (tgt := 42) hx hb dJ6_stringSize_0f7a4_19 (by decide) (fun h => absurd h (by decide)) (fun _ => ?_)
  refine lv_iload_n hx hb dJ6_stringSize_0f7a4_22 rfl (lv_at hl 2 rfl) ?_
  refine lv_iload_n hx hb dJ6_stringSize_0f7a4_23 rfl (lv_at hl 1 rfl) ?_
  rcases Nat.lt_or_ge v 1000 with g3 | g3
  · refine lv_icmp_le (tgt := 31) hx hb dJ6_stringSize_0f7a4_24 (by decide) (fun h => absurd h (fun z => absurd ((sb_nle (a := v) (b := 1000) hv (by decide)).mp (show -nI v ≤ -nI 1000 from z)) (by omega))) (fun _ => ?_)
    refine lv_iload_n hx hb dJ6_stringSize_0f7a4_27 rfl (lv_at hl 0 rfl) ?_
    refine lv_iload_n hx hb dJ6_stringSize_0f7a4_28 rfl (lv_at hl 3 rfl) ?_
    refine lv_iadd hx hb dJ6_stringSize_0f7a4_29 ?_
    refine kt_v (show (.int (3 + 0) : Value) = .int (nI (sb_dg v)) from congrArg Value.int (by rw [show sb_dg v = 3 by unfold sb_dg; (repeat' split) <;> omega]; decide)) ?_
    exact W.iret (v := nI (sb_dg v)) hx hb hr (fun t ht hW => ⟨rfl, ht⟩) (fun _ h => nomatch h) dJ6_stringSize_0f7a4_30
  refine lv_icmp_le (tgt := 31) hx hb dJ6_stringSize_0f7a4_24 (by decide) (fun _ => ?_) (fun h => absurd ((sb_nle (a := v) (b := 1000) hv (by decide)).mpr (by omega)) h)
  refine lv_bipush (v := 10) hx hb dJ6_stringSize_0f7a4_31 (by decide) ?_
  refine lv_iload_n hx hb dJ6_stringSize_0f7a4_33 rfl (lv_at hl 1 rfl) ?_
  refine lv_imul hx hb dJ6_stringSize_0f7a4_34 ?_
  refine kt_v (show (.int (10 * (-1000)) : Value) = .int (-10000) from congrArg Value.int (by decide)) ?_
  refine lv_istore_n (nL := 4) (lv' := [(2, .int (-10000)), (3, .int 3), (0, .int (-(nI v))), (1, .int 0)]) hx hb dJ6_stringSize_0f7a4_35 rfl hl (by decide) rfl (fun ls hl => ?_)
  refine lv_iinc (k := 1) (v := 4) (nL := 4) (lv' := [(3, .int 4), (2, .int (-10000)), (0, .int (-(nI v))), (1, .int 0)]) hx hb dJ6_stringSize_0f7a4_36 hl rfl (by decide) (by decide) rfl (fun ls hl => ?_)
  refine lv_goto (tgt := 16) hx hb dJ6_stringSize_0f7a4_39 (by decide) ?_
  refine lv_iload_n hx hb dJ6_stringSize_0f7a4_16 rfl (lv_at hl 0 rfl) ?_
  refine lv_bipush (v := 10) hx hb dJ6_stringSize_0f7a4_17 (by decide) ?_
  refine lv_icmp_ge (tgt := 42) hx hb dJ6_stringSize_0f7a4_19 (by decide) (fun h => absurd h (by decide)) (fun _ => ?_)
  refine lv_iload_n hx hb dJ6_stringSize_0f7a4_22 rfl (lv_at hl 2 rfl) ?_
  refine lv_iload_n hx hb dJ6_stringSize_0f7a4_23 rfl (lv_at hl 1 rfl) ?_
  rcases Nat.lt_or_ge v 10000 with g4 | g4
  · refine lv_icmp_le (tgt := 31) hx hb dJ6_stringSize_0f7a4_24 (by decide) (fun h => absurd h (fun z => absurd ((sb_nle (a := v) (b := 10000) hv (by decide)).mp (show -nI v ≤ -nI 10000 from z)) (by omega))) (fun _ => ?_)
    refine lv_iload_n hx hb dJ6_stringSize_0f7a4_27 rfl (lv_at hl 0 rfl) ?_
    refine lv_iload_n hx hb dJ6_stringSize_0f7a4_28 rfl (lv_at hl 3 rfl) ?_
    refine lv_iadd hx hb dJ6_stringSize_0f7a4_29 ?_
    refine kt_v (show (.int (4 + 0) : Value) = .int (nI (sb_dg v)) from congrArg Value.int (by rw [show sb_dg v = 4 by unfold sb_dg; (repeat' split) <;> omega]; decide)) ?_
    exact W.iret (v := nI (sb_dg v)) hx hb hr (fun t ht hW => ⟨rfl, ht⟩) (fun _ h => nomatch h) dJ6_stringSize_0f7a4_30
  refine lv_icmp_le (tgt := 31) hx hb dJ6_stringSize_0f7a4_24 (by decide) (fun _ => ?_) (fun h => absurd ((sb_nle (a := v) (b := 10000) hv (by decide)).mpr (by omega)) h)
  refine lv_bipush (v := 10) hx hb dJ6_stringSize_0f7a4_31 (by decide) ?_
  refine lv_iload_n hx hb dJ6_stringSize_0f7a4_33 rfl (lv_at hl 1 rfl) ?_
  refine lv_imul hx hb dJ6_stringSize_0f7a4_34 ?_
  refine kt_v (show (.int (10 * (-10000)) : Value) = .int (-100000) from congrArg Value.int (by decide)) ?_
  refine lv_istore_n (nL := 4) (lv' := [(2, .int (-100000)), (3, .int 4), (0, .int (-(nI v))), (1, .int 0)]) hx hb dJ6_stringSize_0f7a4_35 rfl hl (by decide) rfl (fun ls hl => ?_)
  refine lv_iinc (k := 1) (v := 5) (nL := 4) (lv' := [(3, .int 5), (2, .int (-100000)), (0, .int (-(nI v))), (1, .int 0)]) hx hb dJ6_stringSize_0f7a4_36 hl rfl (by decide) (by decide) rfl (fun ls hl => ?_)
  refine lv_goto (tgt := 16) hx hb dJ6_stringSize_0f7a4_39 (by decide) ?_
  refine lv_iload_n hx hb dJ6_stringSize_0f7a4_16 rfl (lv_at hl 0 rfl) ?_
  refine lv_bipush (v := 10) hx hb dJ6_stringSize_0f7a4_17 (by decide) ?_
  refine lv_icmp_ge (tgt := 42) hx hb dJ6_stringSize_0f7a4_19 (by decide) (fun h => absurd h (by decide)) (fun _ => ?_)
  refine lv_iload_n hx hb dJ6_stringSize_0f7a4_22 rfl (lv_at hl 2 rfl) ?_
  refine lv_iload_n hx hb dJ6_stringSize_0f7a4_23 rfl (lv_at hl 1 rfl) ?_
  rcases Nat.lt_or_ge v 100000 with g5 | g5
  · refine lv_icmp_le (tgt := 31) hx hb dJ6_stringSize_0f7a4_24 (by decide) (fun h => absurd h (fun z => absurd ((sb_nle (a := v) (b := 100000) hv (by decide)).mp (show -nI v ≤ -nI 100000 from z)) (by omega))) (fun _ => ?_)
    refine lv_iload_n hx hb dJ6_stringSize_0f7a4_27 rfl (lv_at hl 0 rfl) ?_
    refine lv_iload_n hx hb dJ6_stringSize_0f7a4_28 rfl (lv_at hl 3 rfl) ?_
    refine lv_iadd hx hb dJ6_stringSize_0f7a4_29 ?_
    refine kt_v (show (.int (5 + 0) : Value) = .int (nI (sb_dg v)) from congrArg Value.int (by rw [show sb_dg v = 5 by unfold sb_dg; (repeat' split) <;> omega]; decide)) ?_
    exact W.iret (v := nI (sb_dg v)) hx hb hr (fun t ht hW => ⟨rfl, ht⟩) (fun _ h => nomatch h) dJ6_stringSize_0f7a4_30
  refine lv_icmp_le (tgt := 31) hx hb dJ6_stringSize_0f7a4_24 (by decide) (fun _ => ?_) (fun h => absurd ((sb_nle (a := v) (b := 100000) hv (by decide)).mpr (by omega)) h)
  refine lv_bipush (v := 10) hx hb dJ6_stringSize_0f7a4_31 (by decide) ?_
  refine lv_iload_n hx hb dJ6_stringSize_0f7a4_33 rfl (lv_at hl 1 rfl) ?_
  refine lv_imul hx hb dJ6_stringSize_0f7a4_34 ?_
  refine kt_v (show (.int (10 * (-100000)) : Value) = .int (-1000000) from congrArg Value.int (by decide)) ?_
  refine lv_istore_n (nL := 4) (lv' := [(2, .int (-1000000)), (3, .int 5), (0, .int (-(nI v))), (1, .int 0)]) hx hb dJ6_stringSize_0f7a4_35 rfl hl (by decide) rfl (fun ls hl => ?_)
  refine lv_iinc (k := 1) (v := 6) (nL := 4) (lv' := [(3, .int 6), (2, .int (-1000000)), (0, .int (-(nI v))), (1, .int 0)]) hx hb dJ6_stringSize_0f7a4_36 hl rfl (by decide) (by decide) rfl (fun ls hl => ?_)
  refine lv_goto (tgt := 16) hx hb dJ6_stringSize_0f7a4_39 (by decide) ?_
  refine lv_iload_n hx hb dJ6_stringSize_0f7a4_16 rfl (lv_at hl 0 rfl) ?_
  refine lv_bipush (v := 10) hx hb dJ6_stringSize_0f7a4_17 (by decide) ?_
  refine lv_icmp_ge (tgt := 42) hx hb dJ6_stringSize_0f7a4_19 (by decide) (fun h => absurd h (by decide)) (fun _ => ?_)
  refine lv_iload_n hx hb dJ6_stringSize_0f7a4_22 rfl (lv_at hl 2 rfl) ?_
  refine lv_iload_n hx hb dJ6_stringSize_0f7a4_23 rfl (lv_at hl 1 rfl) ?_
  rcases Nat.lt_or_ge v 1000000 with g6 | g6
  · refine lv_icmp_le (tgt := 31) hx hb dJ6_stringSize_0f7a4_24 (by decide) (fun h => absurd h (fun z => absurd ((sb_nle (a := v) (b := 1000000) hv (by decide)).mp (show -nI v ≤ -nI 1000000 from z)) (by omega))) (fun _ => ?_)
    refine lv_iload_n hx hb dJ6_stringSize_0f7a4_27 rfl (lv_at hl 0 rfl) ?_
    refine lv_iload_n hx hb dJ6_stringSize_0f7a4_28 rfl (lv_at hl 3 rfl) ?_
    refine lv_iadd hx hb dJ6_stringSize_0f7a4_29 ?_
    refine kt_v (show (.int (6 + 0) : Value) = .int (nI (sb_dg v)) from congrArg Value.int (by rw [show sb_dg v = 6 by unfold sb_dg; (repeat' split) <;> omega]; decide)) ?_
    exact W.iret (v := nI (sb_dg v)) hx hb hr (fun t ht hW => ⟨rfl, ht⟩) (fun _ h => nomatch h) dJ6_stringSize_0f7a4_30
  refine lv_icmp_le (tgt := 31) hx hb dJ6_stringSize_0f7a4_24 (by decide) (fun _ => ?_) (fun h => absurd ((sb_nle (a := v) (b := 1000000) hv (by decide)).mpr (by omega)) h)
  refine lv_bipush (v := 10) hx hb dJ6_stringSize_0f7a4_31 (by decide) ?_
  refine lv_iload_n hx hb dJ6_stringSize_0f7a4_33 rfl (lv_at hl 1 rfl) ?_
  refine lv_imul hx hb dJ6_stringSize_0f7a4_34 ?_
  refine kt_v (show (.int (10 * (-1000000)) : Value) = .int (-10000000) from congrArg Value.int (by decide)) ?_
  refine lv_istore_n (nL := 4) (lv' := [(2, .int (-10000000)), (3, .int 6), (0, .int (-(nI v))), (1, .int 0)]) hx hb dJ6_stringSize_0f7a4_35 rfl hl (by decide) rfl (fun ls hl => ?_)
  refine lv_iinc (k := 1) (v := 7) (nL := 4) (lv' := [(3, .int 7), (2, .int (-10000000)), (0, .int (-(nI v))), (1, .int 0)]) hx hb dJ6_stringSize_0f7a4_36 hl rfl (by decide) (by decide) rfl (fun ls hl => ?_)
  refine lv_goto (tgt := 16) hx hb dJ6_stringSize_0f7a4_39 (by decide) ?_
  refine lv_iload_n hx hb dJ6_stringSize_0f7a4_16 rfl (lv_at hl 0 rfl) ?_
  refine lv_bipush (v := 10) hx hb dJ6_stringSize_0f7a4_17 (by decide) ?_
  refine lv_icmp_ge (tgt := 42) hx hb dJ6_stringSize_0f7a4_19 (by decide) (fun h => absurd h (by decide)) (fun _ => ?_)
  refine lv_iload_n hx hb dJ6_stringSize_0f7a4_22 rfl (lv_at hl 2 rfl) ?_
  refine lv_iload_n hx hb dJ6_stringSize_0f7a4_23 rfl (lv_at hl 1 rfl) ?_
  rcases Nat.lt_or_ge v 10000000 with g7 | g7
  · refine lv_icmp_le (tgt := 31) hx hb dJ6_stringSize_0f7a4_24 (by decide) (fun h => absurd h (fun z => absurd ((sb_nle (a := v) (b := 10000000) hv (by decide)).mp (show -nI v ≤ -nI 10000000 from z)) (by omega))) (fun _ => ?_)
    refine lv_iload_n hx hb dJ6_stringSize_0f7a4_27 rfl (lv_at hl 0 rfl) ?_
    refine lv_iload_n hx hb dJ6_stringSize_0f7a4_28 rfl (lv_at hl 3 rfl) ?_
    refine lv_iadd hx hb dJ6_stringSize_0f7a4_29 ?_
    refine kt_v (show (.int (7 + 0) : Value) = .int (nI (sb_dg v)) from congrArg Value.int (by rw [show sb_dg v = 7 by unfold sb_dg; (repeat' split) <;> omega]; decide)) ?_
    exact W.iret (v := nI (sb_dg v)) hx hb hr (fun t ht hW => ⟨rfl, ht⟩) (fun _ h => nomatch h) dJ6_stringSize_0f7a4_30
  refine lv_icmp_le (tgt := 31) hx hb dJ6_stringSize_0f7a4_24 (by decide) (fun _ => ?_) (fun h => absurd ((sb_nle (a := v) (b := 10000000) hv (by decide)).mpr (by omega)) h)
  refine lv_bipush (v := 10) hx hb dJ6_stringSize_0f7a4_31 (by decide) ?_
  refine lv_iload_n hx hb dJ6_stringSize_0f7a4_33 rfl (lv_at hl 1 rfl) ?_
  refine lv_imul hx hb dJ6_stringSize_0f7a4_34 ?_
  refine kt_v (show (.int (10 * (-10000000)) : Value) = .int (-100000000) from congrArg Value.int (by decide)) ?_
  refine lv_istore_n (nL := 4) (lv' := [(2, .int (-100000000)), (3, .int 7), (0, .int (-(nI v))), (1, .int 0)]) hx hb dJ6_stringSize_0f7a4_35 rfl hl (by decide) rfl (fun ls hl => ?_)
  refine lv_iinc (k := 1) (v := 8) (nL := 4) (lv' := [(3, .int 8), (2, .int (-100000000)), (0, .int (-(nI v))), (1, .int 0)]) hx hb dJ6_stringSize_0f7a4_36 hl rfl (by decide) (by decide) rfl (fun ls hl => ?_)
  refine lv_goto (tgt := 16) hx hb dJ6_stringSize_0f7a4_39 (by decide) ?_
  refine lv_iload_n hx hb dJ6_stringSize_0f7a4_16 rfl (lv_at hl 0 rfl) ?_
  refine lv_bipush (v := 10) hx hb dJ6_stringSize_0f7a4_17 (by decide) ?_
  refine lv_icmp_ge (tgt := 42) hx hb dJ6_stringSize_0f7a4_19 (by decide) (fun h => absurd h (by decide)) (fun _ => ?_)
  refine lv_iload_n hx hb dJ6_stringSize_0f7a4_22 rfl (lv_at hl 2 rfl) ?_
  refine lv_iload_n hx hb dJ6_stringSize_0f7a4_23 rfl (lv_at hl 1 rfl) ?_
  rcases Nat.lt_or_ge v 100000000 with g8 | g8
  · refine lv_icmp_le (tgt := 31) hx hb dJ6_stringSize_0f7a4_24 (by decide) (fun h => absurd h (fun z => absurd ((sb_nle (a := v) (b := 100000000) hv (by decide)).mp (show -nI v ≤ -nI 100000000 from z)) (by omega))) (fun _ => ?_)
    refine lv_iload_n hx hb dJ6_stringSize_0f7a4_27 rfl (lv_at hl 0 rfl) ?_
    refine lv_iload_n hx hb dJ6_stringSize_0f7a4_28 rfl (lv_at hl 3 rfl) ?_
    refine lv_iadd hx hb dJ6_stringSize_0f7a4_29 ?_
    refine kt_v (show (.int (8 + 0) : Value) = .int (nI (sb_dg v)) from congrArg Value.int (by rw [show sb_dg v = 8 by unfold sb_dg; (repeat' split) <;> omega]; decide)) ?_
    exact W.iret (v := nI (sb_dg v)) hx hb hr (fun t ht hW => ⟨rfl, ht⟩) (fun _ h => nomatch h) dJ6_stringSize_0f7a4_30
  refine lv_icmp_le (tgt := 31) hx hb dJ6_stringSize_0f7a4_24 (by decide) (fun _ => ?_) (fun h => absurd ((sb_nle (a := v) (b := 100000000) hv (by decide)).mpr (by omega)) h)
  refine lv_bipush (v := 10) hx hb dJ6_stringSize_0f7a4_31 (by decide) ?_
  refine lv_iload_n hx hb dJ6_stringSize_0f7a4_33 rfl (lv_at hl 1 rfl) ?_
  refine lv_imul hx hb dJ6_stringSize_0f7a4_34 ?_
  refine kt_v (show (.int (10 * (-100000000)) : Value) = .int (-1000000000) from congrArg Value.int (by decide)) ?_
  refine lv_istore_n (nL := 4) (lv' := [(2, .int (-1000000000)), (3, .int 8), (0, .int (-(nI v))), (1, .int 0)]) hx hb dJ6_stringSize_0f7a4_35 rfl hl (by decide) rfl (fun ls hl => ?_)
  refine lv_iinc (k := 1) (v := 9) (nL := 4) (lv' := [(3, .int 9), (2, .int (-1000000000)), (0, .int (-(nI v))), (1, .int 0)]) hx hb dJ6_stringSize_0f7a4_36 hl rfl (by decide) (by decide) rfl (fun ls hl => ?_)
  refine lv_goto (tgt := 16) hx hb dJ6_stringSize_0f7a4_39 (by decide) ?_
  refine lv_iload_n hx hb dJ6_stringSize_0f7a4_16 rfl (lv_at hl 0 rfl) ?_
  refine lv_bipush (v := 10) hx hb dJ6_stringSize_0f7a4_17 (by decide) ?_
  refine lv_icmp_ge (tgt := 42) hx hb dJ6_stringSize_0f7a4_19 (by decide) (fun h => absurd h (by decide)) (fun _ => ?_)
  refine lv_iload_n hx hb dJ6_stringSize_0f7a4_22 rfl (lv_at hl 2 rfl) ?_
  refine lv_iload_n hx hb dJ6_stringSize_0f7a4_23 rfl (lv_at hl 1 rfl) ?_
  rcases Nat.lt_or_ge v 1000000000 with g9 | g9
  · refine lv_icmp_le (tgt := 31) hx hb dJ6_stringSize_0f7a4_24 (by decide) (fun h => absurd h (fun z => absurd ((sb_nle (a := v) (b := 1000000000) hv (by decide)).mp (show -nI v ≤ -nI 1000000000 from z)) (by omega))) (fun _ => ?_)
    refine lv_iload_n hx hb dJ6_stringSize_0f7a4_27 rfl (lv_at hl 0 rfl) ?_
    refine lv_iload_n hx hb dJ6_stringSize_0f7a4_28 rfl (lv_at hl 3 rfl) ?_
    refine lv_iadd hx hb dJ6_stringSize_0f7a4_29 ?_
    refine kt_v (show (.int (9 + 0) : Value) = .int (nI (sb_dg v)) from congrArg Value.int (by rw [show sb_dg v = 9 by unfold sb_dg; (repeat' split) <;> omega]; decide)) ?_
    exact W.iret (v := nI (sb_dg v)) hx hb hr (fun t ht hW => ⟨rfl, ht⟩) (fun _ h => nomatch h) dJ6_stringSize_0f7a4_30
  refine lv_icmp_le (tgt := 31) hx hb dJ6_stringSize_0f7a4_24 (by decide) (fun _ => ?_) (fun h => absurd ((sb_nle (a := v) (b := 1000000000) hv (by decide)).mpr (by omega)) h)
  refine lv_bipush (v := 10) hx hb dJ6_stringSize_0f7a4_31 (by decide) ?_
  refine lv_iload_n hx hb dJ6_stringSize_0f7a4_33 rfl (lv_at hl 1 rfl) ?_
  refine lv_imul hx hb dJ6_stringSize_0f7a4_34 ?_
  refine kt_v (show (.int (10 * (-1000000000)) : Value) = .int (-1410065408) from congrArg Value.int (by decide)) ?_
  refine lv_istore_n (nL := 4) (lv' := [(2, .int (-1410065408)), (3, .int 9), (0, .int (-(nI v))), (1, .int 0)]) hx hb dJ6_stringSize_0f7a4_35 rfl hl (by decide) rfl (fun ls hl => ?_)
  refine lv_iinc (k := 1) (v := 10) (nL := 4) (lv' := [(3, .int 10), (2, .int (-1410065408)), (0, .int (-(nI v))), (1, .int 0)]) hx hb dJ6_stringSize_0f7a4_36 hl rfl (by decide) (by decide) rfl (fun ls hl => ?_)
  refine lv_goto (tgt := 16) hx hb dJ6_stringSize_0f7a4_39 (by decide) ?_
  refine lv_iload_n hx hb dJ6_stringSize_0f7a4_16 rfl (lv_at hl 0 rfl) ?_
  refine lv_bipush (v := 10) hx hb dJ6_stringSize_0f7a4_17 (by decide) ?_
  refine lv_icmp_ge (tgt := 42) hx hb dJ6_stringSize_0f7a4_19 (by decide) (fun _ => ?_) (fun h => absurd (by decide) h)
  refine lv_bipush (v := 10) hx hb dJ6_stringSize_0f7a4_42 (by decide) ?_
  refine lv_iload_n hx hb dJ6_stringSize_0f7a4_44 rfl (lv_at hl 3 rfl) ?_
  refine lv_iadd hx hb dJ6_stringSize_0f7a4_45 ?_
  refine kt_v (show (.int (10 + 0) : Value) = .int (nI (sb_dg v)) from congrArg Value.int (by rw [show sb_dg v = 10 by unfold sb_dg; (repeat' split) <;> omega]; decide)) ?_
  exact W.iret (v := nI (sb_dg v)) hx hb hr (fun t ht hW => ⟨rfl, ht⟩) (fun _ h => nomatch h) dJ6_stringSize_0f7a4_46

theorem sb_tabO : ∀ k, k < 100 → vp_nar .byte (Int32.ofNat (48 + k % 10)) = sb_b (48 + k % 10) := by decide +kernel
theorem sb_tabT : ∀ k, k < 100 → vp_nar .byte (Int32.ofNat (48 + k / 10)) = sb_b (48 + k / 10) := by decide +kernel
section GCL
variable {p : Program} {l : Launch} {e : Env} {R : Room} {s : State} {m : MethodId} {args : Array Value} {below : List Frame} {meth : Method} {c : Code} {cells slots : Nat} {Q : State → Prop}
variable {dC : Nat → ClassId} {dI : Nat → Nat → Nat} {cs : Nat → ClassId} {A : Nat → Prop}
set_option maxHeartbeats 4000000 in
set_option maxRecDepth 100000 in
theorem gc_loop (hx : p.tables.exec = Jvm.exec) (hb : c.code = cJ6_getChars_ba4f3) (hown : s.vm.findClass RJ6 = some m.cls) (k1 : (Cond.fieldLink RJ6 83 "java/lang/Integer" "DigitOnes" "[B").before args s = true) (k2 : (Cond.fieldLink RJ6 87 "java/lang/Integer" "DigitTens" "[B").before args s = true) (hC : kC A s s.heap) (hK : va_K (dC, dI) vwCl (ct cs) s) {q z n : Nat} (hz : z ≤ 200) :
    ∀ (f w pp : Nat) (a : Nat → Int32) (H : Heap) (locs : List Loc) (ls : Array Slot), w < f → w < 2 ^ 31 → pp = n + sb_dg w → pp ≤ z → va_P (dC, dI) vwCl [(q, .inl (cs 0, z, .inl a))] H → va_D A [(q, .inl (cs 0, z, .inl a))] → va_S A s.heap H locs → lv_has ls 7 [(0, .int (-nI w)), (5, .int (nI pp)), (6, .int 0), (2, .ref q)] →
    (∀ (a' : Nat → Int32) (H1 : Heap) (locs1 : List Loc) (ls1 : Array Slot), (∀ j, j < n ∨ pp ≤ j → a' j = a j) → (∀ i, i < sb_dg w → a' (pp - 1 - i) = sb_b (48 + w / 10 ^ i % 10)) → (sb_Fit a → sb_Fit a') → va_P (dC, dI) vwCl [(q, .inl (cs 0, z, .inl a'))] H1 → va_D A [(q, .inl (cs 0, z, .inl a'))] → va_S A s.heap H1 locs1 → lv_has ls1 7 [(5, .int (nI n)), (6, .int 0)] → W p l e R s m args below meth c H1 locs1 cells slots Q (F0 m 104 ls1 [])) →
    W p l e R s m args below meth c H locs cells slots Q (F0 m 22 ls []) := by
  obtain ⟨-, -, ⟨aO, hZO, hTO⟩, aT, hZT, hTT⟩ := hC
  intro f
  induction f with
  | zero => intro w pp a H locs ls h; omega
  | succ f ih =>
    intro w pp a H locs ls hwf hw hp hpm hP hD hS hl kk
    have hd1 := (sb_dg_in w).1
    have e1 : -(-nI w) = nI w := Int32.neg_neg
    have ew : (nI w).toNatClampNeg = w := nI_clamp hw
    by_cases h100 : w < 100
    · refine lv_iload_n hx hb dJ6_getChars_ba4f3_22 rfl (lv_at hl 0 rfl) ?_
      refine lv_bipush (v := (-100)) hx hb dJ6_getChars_ba4f3_23 (by decide) ?_
      refine lv_icmp_gt (tgt := 72) hx hb dJ6_getChars_ba4f3_25 (by decide) (fun _ => ?_) (fun h => absurd ((show -nI 100 < -nI w from (sb_nlt (by decide) hw).mpr h100)) h)
      refine lv_aload_n hx hb dJ6_getChars_ba4f3_72 rfl (lv_at hl 3 rfl) ?_
      refine lv_iinc (k := 1) (v := (nI (pp - 1))) (nL := 7) (lv' := [(5, .int (nI (pp - 1))), (0, .int (-nI w)), (6, .int 0), (2, .ref q)]) hx hb dJ6_getChars_ba4f3_73 hl rfl (sb_m1 (by omega)) (by decide) rfl (fun ls hl => ?_)
      refine lv_iload hx hb dJ6_getChars_ba4f3_76 (lv_at hl 0 rfl) ?_
      refine va_gets hx hb hZO hS hown k1 (fun _ h9 => h9) dJ6_getChars_ba4f3_78 ?_
      refine lv_iload_n hx hb dJ6_getChars_ba4f3_81 rfl (lv_at hl 1 rfl) ?_
      refine lv_ineg hx hb dJ6_getChars_ba4f3_82 ?_
      refine kt_v (show (.int (-(-nI w)) : Value) = .int (nI w) from congrArg Value.int e1) ?_
      refine va_tb hx hb hTO hS (i := (nI w)) (v := .int (Int32.ofNat (48 + w % 10))) (vp_in_nI (n := w) h100 (by decide)) (by rw [nI_clamp (n := w) (by omega)]) dJ6_getChars_ba4f3_83 ?_
      refine va_bast hx hb hK hP hD hS 0 0 rfl rfl (vp_in_nI (by omega) (by omega)) dJ6_getChars_ba4f3_84 (fun H locs hP hD hS => ?_)
      have hP : va_P (dC, dI) vwCl [(q, .inl (cs 0, z, .inl (upd a (pp - 1) (sb_b (48 + w % 10)))))] H := by rw [nI_clamp (n := pp - 1) (by omega), sb_tabO (w) (by omega)] at hP; exact hP
      have hD : va_D (A) [(q, .inl (cs 0, z, .inl (upd a (pp - 1) (sb_b (48 + w % 10)))))] := by rw [nI_clamp (n := pp - 1) (by omega), sb_tabO (w) (by omega)] at hD; exact hD
      refine lv_iload_n hx hb dJ6_getChars_ba4f3_85 rfl (lv_at hl 1 rfl) ?_
      refine lv_bipush (v := (-9)) hx hb dJ6_getChars_ba4f3_86 (by decide) ?_
      by_cases h9 : w < 10
      · have hd : sb_dg w = 1 := if_pos h9
        refine lv_icmp_ge (tgt := 104) hx hb dJ6_getChars_ba4f3_88 (by decide) (fun _ => ?_) (fun h => absurd ((show -nI w ≥ -nI 9 from (sb_nle (by decide) hw).mpr (by omega))) h)
        have hl : lv_has ls 7 [(5, .int (nI n)), (6, .int 0)] := by
          have h5 := lv_sub (l' := [(5, .int (nI (pp - 1))), (6, .int 0)]) hl [0, 2] rfl
          rw [show pp - 1 = n by omega] at h5; exact h5
        refine kk _ H locs ls (fun j hj => pk_un (by omega)) (fun i hi => ?_) (fun hf => sb_fitU hf (sb_fitB _)) hP hD hS hl
        obtain rfl : i = 0 := by omega
        rw [Nat.sub_zero, pk_us, Nat.pow_zero, Nat.div_one]
      · have hd : sb_dg w = 2 := by rw [sb_dg, if_neg h9, if_pos h100]
        have d2 : w / 10 % 10 = w / 10 := by omega
        refine lv_icmp_ge (tgt := 104) hx hb dJ6_getChars_ba4f3_88 (by decide) (fun h => absurd h (fun z => by have := (sb_nle (a := 9) (b := w) (by decide) hw).mp (show -nI 9 ≤ -nI w from z); omega)) (fun _ => ?_)
        refine lv_aload_n hx hb dJ6_getChars_ba4f3_91 rfl (lv_at hl 3 rfl) ?_
        refine lv_iinc (k := 0) (v := (nI (pp - 1 - 1))) (nL := 7) (lv' := [(5, .int (nI (pp - 1 - 1))), (0, .int (-nI w)), (6, .int 0), (2, .ref q)]) hx hb dJ6_getChars_ba4f3_92 hl rfl (sb_m1 (by omega)) (by decide) rfl (fun ls hl => ?_)
        refine lv_iload hx hb dJ6_getChars_ba4f3_95 (lv_at hl 0 rfl) ?_
        refine va_gets hx hb hZT hS hown k2 (fun _ h9 => h9) dJ6_getChars_ba4f3_97 ?_
        refine lv_iload_n hx hb dJ6_getChars_ba4f3_100 rfl (lv_at hl 1 rfl) ?_
        refine lv_ineg hx hb dJ6_getChars_ba4f3_101 ?_
        refine kt_v (show (.int (-(-nI w)) : Value) = .int (nI w) from congrArg Value.int e1) ?_
        refine va_tb hx hb hTT hS (i := (nI w)) (v := .int (Int32.ofNat (48 + w / 10))) (vp_in_nI (n := w) h100 (by decide)) (by rw [nI_clamp (n := w) (by omega)]) dJ6_getChars_ba4f3_102 ?_
        refine va_bast hx hb hK hP hD hS 0 0 rfl rfl (vp_in_nI (by omega) (by omega)) dJ6_getChars_ba4f3_103 (fun H locs hP hD hS => ?_)
        have hP : va_P (dC, dI) vwCl [(q, .inl (cs 0, z, .inl (upd (upd a (pp - 1) (sb_b (48 + w % 10))) (pp - 1 - 1) (sb_b (48 + w / 10)))))] H := by rw [nI_clamp (n := pp - 1 - 1) (by omega), sb_tabT (w) (by omega)] at hP; exact hP
        have hD : va_D (A) [(q, .inl (cs 0, z, .inl (upd (upd a (pp - 1) (sb_b (48 + w % 10))) (pp - 1 - 1) (sb_b (48 + w / 10)))))] := by rw [nI_clamp (n := pp - 1 - 1) (by omega), sb_tabT (w) (by omega)] at hD; exact hD
        have hl : lv_has ls 7 [(5, .int (nI n)), (6, .int 0)] := by
          have h5 := lv_sub (l' := [(5, .int (nI (pp - 1 - 1))), (6, .int 0)]) hl [0, 2] rfl
          rw [show pp - 1 - 1 = n by omega] at h5; exact h5
        refine kk _ H locs ls (fun j hj => by rw [pk_un (by omega), pk_un (by omega)]) (fun i hi => ?_) (fun hf => sb_fitU (sb_fitU hf (sb_fitB _)) (sb_fitB _)) hP hD hS hl
        obtain rfl | rfl : i = 0 ∨ i = 1 := by omega
        · rw [Nat.sub_zero, pk_un (by omega), pk_us, Nat.pow_zero, Nat.div_one]
        · rw [pk_us, Nat.pow_one, d2]
    · have hd := sb_dg100 (w := w) (by omega) hw
      have hd2 := (sb_dg_in (w / 100)).1
      refine lv_iload_n hx hb dJ6_getChars_ba4f3_22 rfl (lv_at hl 0 rfl) ?_
      refine lv_bipush (v := (-100)) hx hb dJ6_getChars_ba4f3_23 (by decide) ?_
      refine lv_icmp_gt (tgt := 72) hx hb dJ6_getChars_ba4f3_25 (by decide) (fun h => absurd h (fun z => h100 ((sb_nlt (a := 100) (b := w) (by decide) hw).mp (show -nI 100 < -nI w from z)))) (fun _ => ?_)
      refine lv_iload_n hx hb dJ6_getChars_ba4f3_28 rfl (lv_at hl 0 rfl) ?_
      refine lv_bipush (v := 100) hx hb dJ6_getChars_ba4f3_29 (by decide) ?_
      refine lv_idiv hx hb dJ6_getChars_ba4f3_31 (by decide) ?_
      refine kt_v (show (.int ((-nI w) / 100) : Value) = .int (-nI (w / 100)) from congrArg Value.int (sb_ndiv hw)) ?_
      refine lv_istore_n (nL := 7) (lv' := [(3, .int (-nI (w / 100))), (0, .int (-nI w)), (5, .int (nI pp)), (6, .int 0), (2, .ref q)]) hx hb dJ6_getChars_ba4f3_32 rfl hl (by decide) rfl (fun ls hl => ?_)
      refine lv_iload_n hx hb dJ6_getChars_ba4f3_33 rfl (lv_at hl 0 rfl) ?_
      refine lv_bipush (v := 100) hx hb dJ6_getChars_ba4f3_34 (by decide) ?_
      refine lv_imul hx hb dJ6_getChars_ba4f3_36 ?_
      refine lv_iload_n hx hb dJ6_getChars_ba4f3_37 rfl (lv_at hl 1 rfl) ?_
      refine lv_isub hx hb dJ6_getChars_ba4f3_38 ?_
      refine kt_v (show (.int (((-nI (w / 100)) * 100) - (-nI w)) : Value) = .int (nI (w % 100)) from congrArg Value.int (sb_nrem hw)) ?_
      refine lv_istore (nL := 7) (lv' := [(4, .int (nI (w % 100))), (3, .int (-nI (w / 100))), (0, .int (-nI w)), (5, .int (nI pp)), (6, .int 0), (2, .ref q)]) hx hb dJ6_getChars_ba4f3_39 hl (by decide) rfl (fun ls hl => ?_)
      refine lv_iload_n hx hb dJ6_getChars_ba4f3_41 rfl (lv_at hl 1 rfl) ?_
      refine lv_istore_n (nL := 7) (lv' := [(0, .int (-nI (w / 100))), (4, .int (nI (w % 100))), (3, .int (-nI (w / 100))), (5, .int (nI pp)), (6, .int 0), (2, .ref q)]) hx hb dJ6_getChars_ba4f3_42 rfl hl (by decide) rfl (fun ls hl => ?_)
      refine lv_aload_n hx hb dJ6_getChars_ba4f3_43 rfl (lv_at hl 5 rfl) ?_
      refine lv_iinc (k := 3) (v := (nI (pp - 1))) (nL := 7) (lv' := [(5, .int (nI (pp - 1))), (0, .int (-nI (w / 100))), (4, .int (nI (w % 100))), (3, .int (-nI (w / 100))), (6, .int 0), (2, .ref q)]) hx hb dJ6_getChars_ba4f3_44 hl rfl (sb_m1 (by omega)) (by decide) rfl (fun ls hl => ?_)
      refine lv_iload hx hb dJ6_getChars_ba4f3_47 (lv_at hl 0 rfl) ?_
      refine va_gets hx hb hZO hS hown k1 (fun _ h9 => h9) dJ6_getChars_ba4f3_49 ?_
      refine lv_iload hx hb dJ6_getChars_ba4f3_52 (lv_at hl 2 rfl) ?_
      refine va_tb hx hb hTO hS (i := (nI (w % 100))) (v := .int (Int32.ofNat (48 + (w % 100) % 10))) (vp_in_nI (n := (w % 100)) (by omega) (by decide)) (by rw [nI_clamp (n := (w % 100)) (by omega)]) dJ6_getChars_ba4f3_54 ?_
      refine va_bast hx hb hK hP hD hS 0 0 rfl rfl (vp_in_nI (by omega) (by omega)) dJ6_getChars_ba4f3_55 (fun H locs hP hD hS => ?_)
      have hP : va_P (dC, dI) vwCl [(q, .inl (cs 0, z, .inl (upd a (pp - 1) (sb_b (48 + w % 10)))))] H := by rw [nI_clamp (n := pp - 1) (by omega), sb_tabO (w % 100) (by omega), show w % 100 % 10 = w % 10 by omega] at hP; exact hP
      have hD : va_D (A) [(q, .inl (cs 0, z, .inl (upd a (pp - 1) (sb_b (48 + w % 10)))))] := by rw [nI_clamp (n := pp - 1) (by omega), sb_tabO (w % 100) (by omega), show w % 100 % 10 = w % 10 by omega] at hD; exact hD
      refine lv_aload_n hx hb dJ6_getChars_ba4f3_56 rfl (lv_at hl 5 rfl) ?_
      refine lv_iinc (k := 0) (v := (nI (pp - 1 - 1))) (nL := 7) (lv' := [(5, .int (nI (pp - 1 - 1))), (0, .int (-nI (w / 100))), (4, .int (nI (w % 100))), (3, .int (-nI (w / 100))), (6, .int 0), (2, .ref q)]) hx hb dJ6_getChars_ba4f3_57 hl rfl (sb_m1 (by omega)) (by decide) rfl (fun ls hl => ?_)
      refine lv_iload hx hb dJ6_getChars_ba4f3_60 (lv_at hl 0 rfl) ?_
      refine va_gets hx hb hZT hS hown k2 (fun _ h9 => h9) dJ6_getChars_ba4f3_62 ?_
      refine lv_iload hx hb dJ6_getChars_ba4f3_65 (lv_at hl 2 rfl) ?_
      refine va_tb hx hb hTT hS (i := (nI (w % 100))) (v := .int (Int32.ofNat (48 + (w % 100) / 10))) (vp_in_nI (n := (w % 100)) (by omega) (by decide)) (by rw [nI_clamp (n := (w % 100)) (by omega)]) dJ6_getChars_ba4f3_67 ?_
      refine va_bast hx hb hK hP hD hS 0 0 rfl rfl (vp_in_nI (by omega) (by omega)) dJ6_getChars_ba4f3_68 (fun H locs hP hD hS => ?_)
      have hP : va_P (dC, dI) vwCl [(q, .inl (cs 0, z, .inl (upd (upd a (pp - 1) (sb_b (48 + w % 10))) (pp - 1 - 1) (sb_b (48 + w / 10 % 10)))))] H := by rw [nI_clamp (n := pp - 1 - 1) (by omega), sb_tabT (w % 100) (by omega), show w % 100 / 10 = w / 10 % 10 by omega] at hP; exact hP
      have hD : va_D (A) [(q, .inl (cs 0, z, .inl (upd (upd a (pp - 1) (sb_b (48 + w % 10))) (pp - 1 - 1) (sb_b (48 + w / 10 % 10)))))] := by rw [nI_clamp (n := pp - 1 - 1) (by omega), sb_tabT (w % 100) (by omega), show w % 100 / 10 = w / 10 % 10 by omega] at hD; exact hD
      refine lv_goto (tgt := 22) hx hb dJ6_getChars_ba4f3_69 (by decide) ?_
      refine ih (w / 100) (pp - 1 - 1) _ H locs ls (by omega) (by omega) (by omega) (by omega) hP hD hS (lv_sub hl [1, 0, 4, 5] rfl) (fun a' H1 locs1 ls1 h1 h2 h3 hP1 hD1 hS1 hl1 => ?_)
      refine kk a' H1 locs1 ls1 (fun j hj => by rw [h1 j (by omega), pk_un (by omega), pk_un (by omega)]) (fun i hi => ?_) (fun hf => h3 (sb_fitU (sb_fitU hf (sb_fitB _)) (sb_fitB _))) hP1 hD1 hS1 hl1
      match i, hi with
      | 0, _ => rw [Nat.sub_zero, h1 _ (by omega), pk_un (by omega), pk_us, Nat.pow_zero, Nat.div_one]
      | 1, _ => rw [h1 _ (by omega), pk_us, Nat.pow_one]
      | k + 2, hi =>
        rw [show pp - 1 - (k + 2) = pp - 1 - 1 - 1 - k by omega, h2 k (by omega), Nat.div_div_eq_div_mul, show 100 * 10 ^ k = 10 ^ (k + 2) by rw [show k + 2 = k + 1 + 1 from rfl, Nat.pow_succ, Nat.pow_succ]; omega]
end GCL
set_option maxHeartbeats 4000000 in
set_option maxRecDepth 100000 in
theorem c_J6_getChars (l : Launch) (dC : Nat → ClassId) (dI : Nat → Nat → Nat) (cs : Nat → ClassId) (q z n v : Nat) (a : Nat → Int32) (sz : Nat) (hv : v < 2 ^ 31) (hn : n + sb_dg v ≤ z) (hz : z ≤ 200) (hf : sb_Fit a) : Met l yJ6_getChars_ba4f3 wsJ6_getChars_ba4f3 (rm_s 0 0 0) (va_Pc [.int (nI v), .int (nI (n + sb_dg v)), .ref q] (sPw dC dI cs sz [(q, .inl (cs 0, z, .inl a))])) (va_Qi (fun (r : Int32) (u : Nat → Int32) => (∀ j, j < n → u j = a j) ∧ (∀ i, i < sb_dg v → u (n + sb_dg v - 1 - i) = sb_b (48 + v / 10 ^ i % 10)) ∧ sb_Fit u) (fun u t => cB dC dI cs (va_A [(q, .inl (cs 0, z, .inl a))] sz) [(q, .inl (cs 0, z, .inl u))] t) (va_A [(q, .inl (cs 0, z, .inl a))] sz)) 0 0 (va_A [(q, .inl (cs 0, z, .inl a))] sz) := by
  refine Met.ofW (cc := cJ6_getChars_ba4f3) (maxL := 7) (ret := (some .int)) (by decide) rfl ?_
  intro p e s m args below meth c s₁ B hml hv1
  obtain ⟨hav, hsz, hP, hK, hD0, hC⟩ := hv1
  subst hsz
  have hA : ∀ q9, s.heap.size ≤ q9 → va_A [(q, .inl (cs 0, z, .inl a))] s.heap.size q9 := fun q9 h => Or.inr h
  have hS : va_S (va_A [(q, .inl (cs 0, z, .inl a))] s.heap.size) s.heap s.heap [] := va_S.rf
  have hD : va_D (va_A [(q, .inl (cs 0, z, .inl a))] s.heap.size) [(q, .inl (cs 0, z, .inl a))] := hD0.self
  have hx := B.exec
  have hb := B.bytes
  have hr := B.returns
  have hts := atoms_spec (ws := wsJ6_getChars_ba4f3) B.pre
  have hown : s.vm.findClass RJ6 = some m.cls := findClass_of_methodNamed B.named
  have hlocks := B.notSynchronized
  have k1 := hts (.fieldLink RJ6 83 "java/lang/Integer" "DigitOnes" "[B") (by decide +kernel)
  have k2 := hts (.fieldLink RJ6 87 "java/lang/Integer" "DigitTens" "[B") (by decide +kernel)
  have hl := lv_entry ([.int (nI v), .int (nI (n + sb_dg v)), .ref q]) (n := 7) (Nat.le_of_ble_eq_true rfl)
  rw [show entryFrame m args 7 = entryFrame m ([.int (nI v), .int (nI (n + sb_dg v)), .ref q] : List Value).toArray 7 from by rw [hav], lg_entry_eq]
  generalize (lg_sl ([.int (nI v), .int (nI (n + sb_dg v)), .ref q]) ++ List.replicate (7 - (lg_sl ([.int (nI v), .int (nI (n + sb_dg v)), .ref q])).length) Slot.unset).toArray = ls at hl ⊢
  have hl : lv_has ls 7 [(0, .int (nI v)), (1, .int (nI (n + sb_dg v))), (2, .ref q)] := hl
  refine lv_iload_n hx hb dJ6_getChars_ba4f3_0 rfl (lv_at hl 1 rfl) ?_
  refine lv_istore (nL := 7) (lv' := [(5, .int (nI (n + sb_dg v))), (0, .int (nI v)), (1, .int (nI (n + sb_dg v))), (2, .ref q)]) hx hb dJ6_getChars_ba4f3_1 hl (by decide) rfl (fun ls hl => ?_)
  refine lv_iload_n hx hb dJ6_getChars_ba4f3_3 rfl (lv_at hl 1 rfl) ?_
  refine lv_if_ge (tgt := 11) hx hb dJ6_getChars_ba4f3_4 (by decide) (fun _ => ?_) (fun h => absurd (nI_pos' hv) h)
  refine lv_iconst (v := 0) hx hb dJ6_getChars_ba4f3_11 (by decide) ?_
  refine lv_istore (nL := 7) (lv' := [(6, .int 0), (5, .int (nI (n + sb_dg v))), (0, .int (nI v)), (1, .int (nI (n + sb_dg v))), (2, .ref q)]) hx hb dJ6_getChars_ba4f3_12 hl (by decide) rfl (fun ls hl => ?_)
  refine lv_iload hx hb dJ6_getChars_ba4f3_14 (lv_at hl 0 rfl) ?_
  refine lv_if_ne (tgt := 22) hx hb dJ6_getChars_ba4f3_16 (by decide) (fun h => absurd h (fun z => z rfl)) (fun _ => ?_)
  refine lv_iload_n hx hb dJ6_getChars_ba4f3_19 rfl (lv_at hl 2 rfl) ?_
  refine lv_ineg hx hb dJ6_getChars_ba4f3_20 ?_
  refine lv_istore_n (nL := 7) (lv' := [(0, .int (-(nI v))), (6, .int 0), (5, .int (nI (n + sb_dg v))), (1, .int (nI (n + sb_dg v))), (2, .ref q)]) hx hb dJ6_getChars_ba4f3_21 rfl hl (by decide) rfl (fun ls hl => ?_)
  refine gc_loop hx hb hown k1 k2 hC hK hz (n := n) (v + 1) v (n + sb_dg v) a s.heap [] ls (by omega) hv rfl hn hP hD hS (lv_sub hl [0, 2, 1, 4] rfl) (fun a1 H locs ls h1 h2 h3 hP hD hS hl => ?_)
  refine lv_iload hx hb dJ6_getChars_ba4f3_104 (lv_at hl 1 rfl) ?_
  refine lv_if_eq (tgt := 118) hx hb dJ6_getChars_ba4f3_106 (by decide) (fun _ => ?_) (fun h => absurd (rfl) h)
  refine lv_iload hx hb dJ6_getChars_ba4f3_118 (lv_at hl 0 rfl) ?_
  exact W.iret (v := nI n) hx hb hr (fun t ht hW => ⟨⟨nI n, a1, rfl, ⟨fun j hj => h1 j (Or.inl hj), h2, h3 hf⟩, by rw [ht]; exact hP, va_K.moved hW.alike hK, hD⟩, hS.F ht⟩) hS.2.2 dJ6_getChars_ba4f3_120

set_option maxHeartbeats 4000000 in
set_option maxRecDepth 100000 in
theorem c_J5_appendI (l : Launch) (dC : Nat → ClassId) (dI : Nat → Nat → Nat) (cs : Nat → ClassId) (h q z : Nat) (L : List Nat) (b : Int32) (a : Nat → Int32) (v sz : Nat) (hI : sI L z a) (hL : L.length ≤ 50) (hv : v < 2 ^ 31) : Met l yJ5_append_c97b9 wsJ5_append_c97b9 (rm_s 4 1 200) (va_Pc [.ref h, .int (nI v)] (sPw dC dI cs sz (sW cs h q z (nI L.length) b a))) (sQr dC dI cs (va_A (sW cs h q z (nI L.length) b a) sz) h (L ++ ((List.range (sb_dg v)).map (sb_dec v)))) 1 200 (va_A (sW cs h q z (nI L.length) b a) sz) := by
  refine Met.ofW (cc := cJ5_append_c97b9) (maxL := 4) (ret := (some (.object "java/lang/AbstractStringBuilder"))) (by decide) rfl ?_
  intro p e s m args below meth c s₁ B hml hv1
  obtain ⟨hav, hsz, hP, hK, hD0, hC⟩ := hv1
  subst hsz
  have hin : ∀ w ∈ wsJ40, w ∈ wsJ5_append_c97b9 := fun w h => List.mem_cons_of_mem _ (List.mem_append_right _ h)
  have hA : ∀ q9, s.heap.size ≤ q9 → va_A (sW cs h q z (nI L.length) b a) s.heap.size q9 := fun q9 h => Or.inr h
  have hS : va_S (va_A (sW cs h q z (nI L.length) b a) s.heap.size) s.heap s.heap [] := va_S.rf
  have hD : va_D (va_A (sW cs h q z (nI L.length) b a) s.heap.size) (sW cs h q z (nI L.length) b a) := hD0.self
  have hx := B.exec
  have hb := B.bytes
  have hr := B.returns
  have hts := atoms_spec (ws := wsJ5_append_c97b9) B.pre
  have hown : s.vm.findClass RJ5 = some m.cls := findClass_of_methodNamed B.named
  have hlocks := B.notSynchronized
  have k1 := hts (.fieldLink RJ5 79 "java/lang/AbstractStringBuilder" "count" "I") (by decide +kernel)
  have k2 := hts (.fieldLink RJ5 15 "java/lang/AbstractStringBuilder" "value" "[B") (by decide +kernel)
  have hl := lv_entry ([.ref h, .int (nI v)]) (n := 4) (Nat.le_of_ble_eq_true rfl)
  rw [show entryFrame m args 4 = entryFrame m ([.ref h, .int (nI v)] : List Value).toArray 4 from by rw [hav], lg_entry_eq]
  generalize (lg_sl ([.ref h, .int (nI v)]) ++ List.replicate (4 - (lg_sl ([.ref h, .int (nI v)])).length) Slot.unset).toArray = ls at hl ⊢
  have hl : lv_has ls 4 [(0, .ref h), (1, .int (nI v))] := hl
  have hdg := sb_dg_in v
  refine lv_aload_n hx hb dJ5_append_c97b9_0 rfl (lv_at hl 0 rfl) ?_
  refine va_get (D := (dC, dI)) (ci := 0) (C := RJ4) (T := TJ4) (N := 4) hx hb hts hin hown hK hP 0 rfl rfl 3 (by decide) (v := .int (nI L.length)) k1 (fun _ h9 => h9) rfl dJ5_append_c97b9_1 ?_
  refine lv_istore_n (nL := 4) (lv' := [(2, .int (nI L.length)), (0, .ref h), (1, .int (nI v))]) hx hb dJ5_append_c97b9_4 rfl hl (by decide) rfl (fun ls hl => ?_)
  refine lv_iload_n hx hb dJ5_append_c97b9_5 rfl (lv_at hl 0 rfl) ?_
  refine lv_iload_n hx hb dJ5_append_c97b9_6 rfl (lv_at hl 2 rfl) ?_
  refine ko_call (v := some (.int (nI (sb_dg v)))) (va_runS (As := [.int (nI v)]) (rest := [.int (nI L.length)]) ⟨hx, hb, hml, hown, hts⟩ (c_J6_stringSize l v hv) (va_cwS 1 hts gJ5_append_c97b9_J6_stringSize_0f7a4 rfl rfl rfl (by decide +kernel) ⟨Nat.le_of_ble_eq_true rfl, Nat.le_of_ble_eq_true rfl⟩) ⟨fun a U g mk q => ⟨q.1, trivial⟩, fun U hU hW => ⟨rfl, trivial⟩⟩ rfl rfl hl.1 rfl (lv_room (Nat.le_of_ble_eq_true rfl)) dJ5_append_c97b9_7 ⟨(by first | exact Nat.le_refl _ | exact Nat.zero_le _ | exact Nat.le_of_ble_eq_true rfl | (show 0 + _ ≤ 200; omega)), (by first | exact Nat.le_refl _ | exact Nat.zero_le _ | exact Nat.le_of_ble_eq_true rfl | (show 0 + _ ≤ 200; omega))⟩) ?_
  refine lv_iadd hx hb dJ5_append_c97b9_10 ?_
  refine kt_v (show (.int ((nI L.length) + (nI (sb_dg v))) : Value) = .int (nI (L.length + sb_dg v)) from congrArg Value.int (nI_add _ _)) ?_
  refine lv_istore_n (nL := 4) (lv' := [(3, .int (nI (L.length + sb_dg v))), (2, .int (nI L.length)), (0, .ref h), (1, .int (nI v))]) hx hb dJ5_append_c97b9_11 rfl hl (by decide) rfl (fun ls hl => ?_)
  refine lv_aload_n hx hb dJ5_append_c97b9_12 rfl (lv_at hl 2 rfl) ?_
  refine lv_iload_n hx hb dJ5_append_c97b9_13 rfl (lv_at hl 0 rfl) ?_
  have hF := va_free (wc := (sW cs h q z (nI L.length) b a)) hD hS hA [0, 1] rfl
  refine va_callv (va_runU (C := RJ4) (As := [.int (nI (L.length + sb_dg v))]) (rest := []) ⟨hx, hb, hml, hown, hts⟩ (c_J5_ens l dC dI cs h q z (nI L.length) b a (L.length + sb_dg v) s.heap.size hI.2.1 (by omega) hI.2.2.1) (va_cwU 1 hts gJ5_append_c97b9_J5_ensureCapacityInternal_d00df_u100J4 rfl rfl rfl rfl (by decide +kernel) ⟨Nat.le_of_ble_eq_true rfl, Nat.le_of_ble_eq_true rfl⟩) ⟨fun a U g mk q => ⟨q.1, sPw_bl q.2⟩, va_recv hK hP (ci := 0) (q0 := 0) rfl rfl, fun U hU hW => ⟨rfl, ⟨by rw [hU], by rw [hU]; exact hP, va_K.moved hW.alike hK, hD.weaken (fun _ _ _ _ => trivial), kC.at hC hS hF U hU hW⟩⟩⟩ rfl rfl hl.1 rfl (lv_room (Nat.le_of_ble_eq_true rfl)) dJ5_append_c97b9_14 ⟨(by first | exact Nat.le_refl _ | exact Nat.zero_le _ | exact Nat.le_of_ble_eq_true rfl | (show 0 + _ ≤ 200; omega)), (by first | exact Nat.le_refl _ | exact Nat.zero_le _ | exact Nat.le_of_ble_eq_true rfl | (show 0 + _ ≤ 200; omega))⟩) hS (fun q _ h => hF q h) hF (fun u t9 H1 locs ht hvm hu hB hz hk hS => ?_)
  obtain ⟨q1, m1, a1⟩ := u
  obtain ⟨hP1, hK1, hD1⟩ := hB
  rw [ht] at hP1
  have hP := hP1
  have hD := hD1.weaken (fun _ _ _ h => hF _ h)
  generalize H1 = H at hP hS ⊢
  have hP : va_P (dC, dI) vwCl [(h, .inr (0, [.ref q1, .int 0, .int b, .int (nI L.length)])), (q1, .inl (cs 0, m1, .inl a1))] H := hP
  have hD : va_D (va_A (sW cs h q z (nI L.length) b a) s.heap.size) [(h, .inr (0, [.ref q1, .int 0, .int b, .int (nI L.length)])), (q1, .inl (cs 0, m1, .inl a1))] := hD
  obtain ⟨hu1, hu2, hu3, hu4, hu5⟩ := hu
  dsimp only at hu1 hu2 hu3 hu4 hu5
  refine lv_aload_n hx hb dJ5_append_c97b9_17 rfl (lv_at hl 2 rfl) ?_
  refine ko_call (v := some (.int 1)) (va_runU (C := RJ4) (As := []) (rest := []) ⟨hx, hb, hml, hown, hts⟩ (c_J5_isLatin1 l dC dI cs h q1 m1 (nI L.length) b a1) (va_cwU 0 hts gJ5_append_c97b9_J5_isLatin1_aae02_u83J4 rfl rfl rfl rfl (by decide +kernel) ⟨Nat.le_of_ble_eq_true rfl, Nat.le_of_ble_eq_true rfl⟩) ⟨fun a U g mk q => ⟨q.1, sPr_bl q.2⟩, va_recv hK hP (ci := 0) (q0 := 0) rfl rfl, fun U hU hW => ⟨rfl, ⟨by rw [hU]; exact hP, va_K.moved hW.alike hK, kC.at hC hS (fun _ h => h.elim) U hU hW⟩⟩⟩ rfl rfl hl.1 rfl (lv_room (Nat.le_of_ble_eq_true rfl)) dJ5_append_c97b9_18 ⟨(by first | exact Nat.le_refl _ | exact Nat.zero_le _ | exact Nat.le_of_ble_eq_true rfl | (show 0 + _ ≤ 200; omega)), (by first | exact Nat.le_refl _ | exact Nat.zero_le _ | exact Nat.le_of_ble_eq_true rfl | (show 0 + _ ≤ 200; omega))⟩) ?_
  refine lv_if_eq (tgt := 37) hx hb dJ5_append_c97b9_21 (by decide) (fun h => absurd h (by decide)) (fun _ => ?_)
  refine lv_iload_n hx hb dJ5_append_c97b9_24 rfl (lv_at hl 3 rfl) ?_
  refine lv_iload_n hx hb dJ5_append_c97b9_25 rfl (lv_at hl 0 rfl) ?_
  refine lv_aload_n hx hb dJ5_append_c97b9_26 rfl (lv_at hl 2 rfl) ?_
  refine va_get (D := (dC, dI)) (ci := 0) (C := RJ4) (T := TJ4) (N := 4) hx hb hts hin hown hK hP 0 rfl rfl 0 (by decide) (v := .ref q1) k2 (fun _ h9 => h9) rfl dJ5_append_c97b9_27 ?_
  have hF := va_free (wc := [(q1, .inl (cs 0, m1, .inl a1))]) hD hS hA [1] rfl
  refine va_calli (va_runS (As := [.int (nI v), .int (nI (L.length + sb_dg v)), .ref q1]) (rest := []) ⟨hx, hb, hml, hown, hts⟩ (c_J6_getChars l dC dI cs q1 m1 L.length v a1 H.size hv hu1 hu3 hu4) (va_cwS 3 hts gJ5_append_c97b9_J6_getChars_ba4f3 rfl rfl rfl (by decide +kernel) ⟨Nat.le_of_ble_eq_true rfl, Nat.le_of_ble_eq_true rfl⟩) ⟨fun a U g mk q => ⟨q.1, sPw_bl q.2⟩, fun U hU hW => ⟨rfl, by rw [hU], by rw [hU]; exact hP.sub [1] rfl, va_K.moved hW.alike hK, (hD.sub (ws' := [(q1, .inl (cs 0, m1, .inl a1))]) [1] (by decide) rfl).weaken (fun _ _ _ _ => trivial), kC.at hC hS hF U hU hW⟩⟩ rfl rfl hl.1 rfl (lv_room (Nat.le_of_ble_eq_true rfl)) dJ5_append_c97b9_30 ⟨(by first | exact Nat.le_refl _ | exact Nat.zero_le _ | exact Nat.le_of_ble_eq_true rfl | (show 0 + _ ≤ 200; omega)), (by first | exact Nat.le_refl _ | exact Nat.zero_le _ | exact Nat.le_of_ble_eq_true rfl | (show 0 + _ ≤ 200; omega))⟩) hS (fun q _ h => hF q h) hF (fun r9 u t1 H1 locs ht hvm hw hB hz hk1 hS => ?_)
  obtain ⟨hw1, hw2, hw3⟩ := hw
  obtain ⟨hP1, hK1, hD1⟩ := hB
  rw [ht] at hP1
  obtain ⟨hP, hD⟩ := va_join (wr := [(h, .inr (0, [.ref q1, .int 0, .int b, .int (nI L.length)]))]) (w1 := [(q1, .inl (cs 0, m1, .inl u))]) hP hD [1] [0] rfl rfl (by decide) (by decide) hk1 hF hP1 hD1
  generalize H1 = H at hP hS ⊢
  have hP : va_P (dC, dI) vwCl [(h, .inr (0, [.ref q1, .int 0, .int b, .int (nI L.length)])), (q1, .inl (cs 0, m1, .inl u))] H := hP
  have hD : va_D (va_A (sW cs h q z (nI L.length) b a) s.heap.size) [(h, .inr (0, [.ref q1, .int 0, .int b, .int (nI L.length)])), (q1, .inl (cs 0, m1, .inl u))] := hD
  refine lv_pop hx hb dJ5_append_c97b9_33 rfl ?_
  refine lv_goto (tgt := 48) hx hb dJ5_append_c97b9_34 (by decide) ?_
  refine lv_aload_n hx hb dJ5_append_c97b9_48 rfl (lv_at hl 2 rfl) ?_
  refine lv_iload_n hx hb dJ5_append_c97b9_49 rfl (lv_at hl 0 rfl) ?_
  refine va_put (D := (dC, dI)) (ci := 0) (v := .int (nI (L.length + sb_dg v))) (ty := .int) (C := RJ4) (T := TJ4) (N := 4) hx hb hts hin tyJ4 tyJ4_ok nmJ4 hown hK hP hD hS 0 rfl rfl 3 (by decide) k1 (fun _ h9 => h9) rfl (by decide +kernel) rfl rfl (Nat.le_of_ble_eq_true rfl) dJ5_append_c97b9_50 (fun H locs hP hD hS => ?_)
  have hP : va_P (dC, dI) vwCl [(h, .inr (0, [.ref q1, .int 0, .int b, .int (nI (L.length + sb_dg v))])), (q1, .inl (cs 0, m1, .inl u))] H := hP
  have hD : va_D (va_A (sW cs h q z (nI L.length) b a) s.heap.size) [(h, .inr (0, [.ref q1, .int 0, .int b, .int (nI (L.length + sb_dg v))])), (q1, .inl (cs 0, m1, .inl u))] := hD
  refine lv_aload_n hx hb dJ5_append_c97b9_53 rfl (lv_at hl 2 rfl) ?_
  have hlen : ((List.range (sb_dg v)).map (sb_dec v)).length = sb_dg v := by rw [List.length_map, List.length_range]
  have hI2 : sI (L ++ ((List.range (sb_dg v)).map (sb_dec v))) m1 u := by
    refine sI_app hI hlen hu1 hu3 hw3 (fun j hj => by rw [hw1 j hj]; exact hu5 j (by have := hI.1; omega)) (fun i hi => ?_)
    have h9 := hw2 (sb_dg v - 1 - i) (by omega)
    rw [show L.length + sb_dg v - 1 - (sb_dg v - 1 - i) = L.length + i by omega] at h9
    rw [List.getD_eq_getElem?_getD, List.getElem?_map, List.getElem?_range hi]
    exact ⟨by show sb_dec v i < 256; unfold sb_dec; omega, h9⟩
  have eL : nI (L.length + sb_dg v) = nI (L ++ ((List.range (sb_dg v)).map (sb_dec v))).length := by rw [List.length_append, hlen]
  rw [eL] at hP hD
  exact W.aret (v := .ref h) (rt := .object "java/lang/AbstractStringBuilder") hx hb hr (Or.inl ⟨_, rfl⟩) (Or.inr ⟨_, rfl⟩) (fun t9 ht hW => ⟨⟨(q1, m1, b, u), h, rfl, hI2, rfl, by rw [ht]; exact hP, va_K.moved hW.alike hK, hD⟩, hS.F ht⟩) hS.2.2 dJ5_append_c97b9_54

theorem dJ4_append_bf812_0 : decode cJ4_append_bf812 0 = .ok (.aload_n 0, 1) := by decide +kernel
theorem dJ4_append_bf812_1 : decode cJ4_append_bf812 1 = .ok (.iload_n 1, 1) := by decide +kernel
theorem dJ4_append_bf812_2 : decode cJ4_append_bf812 2 = .ok (.invokespecial 53, 3) := by decide +kernel
set_option maxRecDepth 20000 in
theorem ggJ4_append_bf812_J5_append_c97b9 : GoodIn wsJ4_append_bf812 wsJ5_append_c97b9 := goodIn_r _ [6, 7, 8, 9, 10, 11, 12, 13, 14, 15, 16, 5, 17, 18, 19, 20, 21, 22, 23, 24, 25, 26, 27, 28, 29, 30, 31, 32, 33, 34, 35, 36, 37, 38, 39, 40, 41, 42, 43, 44, 45, 46, 47, 48, 49, 50, 51, 52, 53, 54, 55, 56, 57, 58, 59, 60, 61, 62, 63, 64, 65, 66, 67, 68, 69, 70, 71, 72, 73, 74, 75, 76, 77, 78, 79, 80, 81, 82, 83, 84, 85, 86, 87, 88, 89, 90, 91, 92, 93, 94, 95, 96, 97, 98, 99] (by decide +kernel) (by decide +kernel)
set_option maxRecDepth 20000 in
theorem gJ4_append_bf812_J5_append_c97b9_s53 : GoodIn wsJ4_append_bf812 (va_wsSU RJ4 53 yJ5_append_c97b9 wsJ5_append_c97b9) := goodIn_app (goodIn_of _ (by decide +kernel)) ggJ4_append_bf812_J5_append_c97b9
theorem dJ4_append_bf812_5 : decode cJ4_append_bf812 5 = .ok (.pop, 1) := by decide +kernel
theorem dJ4_append_bf812_6 : decode cJ4_append_bf812 6 = .ok (.aload_n 0, 1) := by decide +kernel
theorem dJ4_append_bf812_7 : decode cJ4_append_bf812 7 = .ok (.areturn, 1) := by decide +kernel
set_option maxHeartbeats 4000000 in
set_option maxRecDepth 100000 in
theorem c_J4_appendI (l : Launch) (dC : Nat → ClassId) (dI : Nat → Nat → Nat) (cs : Nat → ClassId) (h q z : Nat) (L : List Nat) (b : Int32) (a : Nat → Int32) (v sz : Nat) (hI : sI L z a) (hL : L.length ≤ 50) (hv : v < 2 ^ 31) : Met l yJ4_append_bf812 wsJ4_append_bf812 (rm_s 5 1 200) (va_Pc [.ref h, .int (nI v)] (sPw dC dI cs sz (sW cs h q z (nI L.length) b a))) (sQr dC dI cs (va_A (sW cs h q z (nI L.length) b a) sz) h (L ++ ((List.range (sb_dg v)).map (sb_dec v)))) 1 200 (va_A (sW cs h q z (nI L.length) b a) sz) := by
  refine Met.ofW (cc := cJ4_append_bf812) (maxL := 2) (ret := (some (.object "java/lang/StringBuilder"))) (by decide) rfl ?_
  intro p e s m args below meth c s₁ B hml hv1
  obtain ⟨hav, hsz, hP, hK, hD0, hC⟩ := hv1
  subst hsz
  have hin : ∀ w ∈ wsJ40, w ∈ wsJ4_append_bf812 := fun w h => List.mem_cons_of_mem _ (List.mem_append_right _ h)
  have hA : ∀ q9, s.heap.size ≤ q9 → va_A (sW cs h q z (nI L.length) b a) s.heap.size q9 := fun q9 h => Or.inr h
  have hS : va_S (va_A (sW cs h q z (nI L.length) b a) s.heap.size) s.heap s.heap [] := va_S.rf
  have hD : va_D (va_A (sW cs h q z (nI L.length) b a) s.heap.size) (sW cs h q z (nI L.length) b a) := hD0.self
  have hx := B.exec
  have hb := B.bytes
  have hr := B.returns
  have hts := atoms_spec (ws := wsJ4_append_bf812) B.pre
  have hown : s.vm.findClass RJ4 = some m.cls := findClass_of_methodNamed B.named
  have hlocks := B.notSynchronized
  have hl := lv_entry ([.ref h, .int (nI v)]) (n := 2) (Nat.le_of_ble_eq_true rfl)
  rw [show entryFrame m args 2 = entryFrame m ([.ref h, .int (nI v)] : List Value).toArray 2 from by rw [hav], lg_entry_eq]
  generalize (lg_sl ([.ref h, .int (nI v)]) ++ List.replicate (2 - (lg_sl ([.ref h, .int (nI v)])).length) Slot.unset).toArray = ls at hl ⊢
  have hl : lv_has ls 2 [(0, .ref h), (1, .int (nI v))] := hl
  refine lv_aload_n hx hb dJ4_append_bf812_0 rfl (lv_at hl 0 rfl) ?_
  refine lv_iload_n hx hb dJ4_append_bf812_1 rfl (lv_at hl 1 rfl) ?_
  have hF := va_free (wc := (sW cs h q z (nI L.length) b a)) hD hS hA [0, 1] rfl
  refine va_callr (va_runSU (hK.1 0 _ rfl).2 (As := [.int (nI v)]) (rest := []) ⟨hx, hb, hml, hown, hts⟩ (c_J5_appendI l dC dI cs h q z L b a v s.heap.size hI hL hv) (va_cwSU 1 hts gJ4_append_bf812_J5_append_c97b9_s53 rfl rfl rfl (by decide +kernel) ⟨Nat.le_of_ble_eq_true rfl, Nat.le_of_ble_eq_true rfl⟩) ⟨fun a U g mk q => ⟨q.1, sPw_bl q.2⟩, va_recv hK hP (ci := 0) (q0 := 0) rfl rfl, fun U hU hW => ⟨rfl, ⟨by rw [hU], by rw [hU]; exact hP, va_K.moved hW.alike hK, hD.weaken (fun _ _ _ _ => trivial), kC.at hC hS hF U hU hW⟩⟩⟩ rfl rfl hl.1 rfl (lv_room (Nat.le_of_ble_eq_true rfl)) dJ4_append_bf812_2 ⟨(by first | exact Nat.le_refl _ | exact Nat.zero_le _ | exact Nat.le_of_ble_eq_true rfl | (show 0 + _ ≤ 200; omega)), (by first | exact Nat.le_refl _ | exact Nat.zero_le _ | exact Nat.le_of_ble_eq_true rfl | (show 0 + _ ≤ 200; omega))⟩) hS (fun q _ h => hF q h) hF (fun u ra t9 H1 locs ht hvm hu hB hz hk hS => ?_)
  obtain ⟨q1, m1, b1, a1⟩ := u
  obtain ⟨era, hP1, hK1, hD1⟩ := hB
  have era := era.symm
  subst era
  rw [ht] at hP1
  have hP := hP1
  have hD := hD1.weaken (fun _ _ _ h => hF _ h)
  generalize H1 = H at hP hS ⊢
  refine lv_pop hx hb dJ4_append_bf812_5 rfl ?_
  refine lv_aload_n hx hb dJ4_append_bf812_6 rfl (lv_at hl 0 rfl) ?_
  exact W.aret (v := .ref h) (rt := .object "java/lang/StringBuilder") hx hb hr (Or.inl ⟨_, rfl⟩) (Or.inr ⟨_, rfl⟩) (fun t ht hW => ⟨⟨(q1, m1, b1, a1), h, rfl, hu, rfl, by rw [ht]; exact hP, va_K.moved hW.alike hK, hD⟩, hS.F ht⟩) hS.2.2 dJ4_append_bf812_7

set_option maxHeartbeats 4000000 in
set_option maxRecDepth 100000 in
theorem c_J5_charAt (l : Launch) (dC : Nat → ClassId) (dI : Nat → Nat → Nat) (cs : Nat → ClassId) (h q z : Nat) (L : List Nat) (b : Int32) (a : Nat → Int32) (i : Nat) (hI : sI L z a) (hi : i < L.length) : Met l yJ5_charAt_5068e wsJ5_charAt_5068e (rm_s 2 0 0) (va_Pc [.ref h, .int (nI i)] (sPr dC dI cs (sW cs h q z (nI L.length) b a))) (kQ (some (.int (nI (L.getD i 0))))) 0 0 (kF) := by
  refine Met.ofW (cc := cJ5_charAt_5068e) (maxL := 5) (ret := (some .char)) (by decide) rfl ?_
  intro p e s m args below meth c s₁ B hml hv
  obtain ⟨hav, hP, hK, hC⟩ := hv
  have hin : ∀ w ∈ wsJ40, w ∈ wsJ5_charAt_5068e := fun w h => List.mem_cons_of_mem _ (List.mem_append_right _ h)
  have hS : va_S kF s.heap s.heap [] := va_S.rf
  have hx := B.exec
  have hb := B.bytes
  have hr := B.returns
  have hts := atoms_spec (ws := wsJ5_charAt_5068e) B.pre
  have hown : s.vm.findClass RJ5 = some m.cls := findClass_of_methodNamed B.named
  have hlocks := B.notSynchronized
  have k1 := hts (.fieldLink RJ5 22 "java/lang/AbstractStringBuilder" "coder" "B") (by decide +kernel)
  have k2 := hts (.fieldLink RJ5 15 "java/lang/AbstractStringBuilder" "value" "[B") (by decide +kernel)
  have k3 := hts (.fieldLink RJ5 79 "java/lang/AbstractStringBuilder" "count" "I") (by decide +kernel)
  have k4 := hts (.methodLink RJ5 138 Lib.Math.min.name) (by decide +kernel)
  have k5 := hts (.static Lib.Math.min.name) (by decide +kernel)
  have k6 := hts (.initialized "java/lang/Math") (by decide +kernel)
  have k7 := hts (.code Lib.Math.min.name Lib.Math.min.code 2 (some .int)) (by decide +kernel)
  have hl := lv_entry ([.ref h, .int (nI i)]) (n := 5) (Nat.le_of_ble_eq_true rfl)
  rw [show entryFrame m args 5 = entryFrame m ([.ref h, .int (nI i)] : List Value).toArray 5 from by rw [hav], lg_entry_eq]
  generalize (lg_sl ([.ref h, .int (nI i)]) ++ List.replicate (5 - (lg_sl ([.ref h, .int (nI i)])).length) Slot.unset).toArray = ls at hl ⊢
  have hl : lv_has ls 5 [(0, .ref h), (1, .int (nI i))] := hl
  have hL := hI.1
  have hz := hI.2.1
  have hi4 : L.getD i 0 < 256 ∧ a i = sb_b (L.getD i 0) := hI.2.2.2 i hi
  obtain ⟨b1, b2, -⟩ := sb_byte _ hi4.1
  refine lv_aload_n hx hb dJ5_charAt_5068e_0 rfl (lv_at hl 0 rfl) ?_
  refine va_get (D := (dC, dI)) (ci := 0) (C := RJ4) (T := TJ4) (N := 4) hx hb hts hin hown hK hP 0 rfl rfl 1 (by decide) (v := .int 0) k1 (fun _ h9 => h9) rfl dJ5_charAt_5068e_1 ?_
  refine lv_istore_n (nL := 5) (lv' := [(2, .int 0), (0, .ref h), (1, .int (nI i))]) hx hb dJ5_charAt_5068e_4 rfl hl (by decide) rfl (fun ls hl => ?_)
  refine lv_aload_n hx hb dJ5_charAt_5068e_5 rfl (lv_at hl 1 rfl) ?_
  refine va_get (D := (dC, dI)) (ci := 0) (C := RJ4) (T := TJ4) (N := 4) hx hb hts hin hown hK hP 0 rfl rfl 0 (by decide) (v := .ref q) k2 (fun _ h9 => h9) rfl dJ5_charAt_5068e_6 ?_
  refine lv_astore_n (nL := 5) (lv' := [(3, .ref q), (2, .int 0), (0, .ref h), (1, .int (nI i))]) hx hb dJ5_charAt_5068e_9 rfl hl (by decide) rfl (fun ls hl => ?_)
  refine lv_aload_n hx hb dJ5_charAt_5068e_10 rfl (lv_at hl 2 rfl) ?_
  refine va_get (D := (dC, dI)) (ci := 0) (C := RJ4) (T := TJ4) (N := 4) hx hb hts hin hown hK hP 0 rfl rfl 3 (by decide) (v := .int (nI L.length)) k3 (fun _ h9 => h9) rfl dJ5_charAt_5068e_11 ?_
  refine lv_aload_n hx hb dJ5_charAt_5068e_14 rfl (lv_at hl 0 rfl) ?_
  refine va_alen hx hb hK hP 1 0 rfl rfl (v := (nI z)) rfl dJ5_charAt_5068e_15 ?_
  refine lv_iload_n hx hb dJ5_charAt_5068e_16 rfl (lv_at hl 1 rfl) ?_
  refine lv_ishr hx hb dJ5_charAt_5068e_17 ?_
  refine kt_v (show (.int (((nI z) : Int32) >>> ((0 : Int32) &&& 31)) : Value) = .int (nI z) from congrArg Value.int (sb_shr0 _)) ?_
  refine va_mmin hx hb (by rw [hml]; exact hl.1.symm) hown k4 k5 k6 k7 (by first | decide | exact Nat.le_of_ble_eq_true rfl) (by first | decide | exact Nat.le_of_ble_eq_true rfl) (by first | exact Nat.le_refl _ | exact Nat.zero_le _ | exact Nat.le_of_ble_eq_true rfl | (show 0 + _ ≤ 200; omega)) (by first | exact Nat.le_refl _ | exact Nat.zero_le _ | exact Nat.le_of_ble_eq_true rfl | (show 0 + _ ≤ 200; omega)) dJ5_charAt_5068e_18 ?_
  refine kt_v (show (.int (if (nI z) < (nI L.length) then (nI z) else (nI L.length)) : Value) = .int (nI L.length) from congrArg Value.int (if_neg (nI_nlt (by omega) (by omega)))) ?_
  refine lv_istore (nL := 5) (lv' := [(4, .int (nI L.length)), (3, .ref q), (2, .int 0), (0, .ref h), (1, .int (nI i))]) hx hb dJ5_charAt_5068e_21 hl (by decide) rfl (fun ls hl => ?_)
  refine lv_iload_n hx hb dJ5_charAt_5068e_23 rfl (lv_at hl 4 rfl) ?_
  refine lv_iload hx hb dJ5_charAt_5068e_24 (lv_at hl 0 rfl) ?_
  refine ko_call (v := none) (va_runS (As := [.int (nI i), .int (nI L.length)]) (rest := []) ⟨hx, hb, hml, hown, hts⟩ (c_J0_checkIndex l (nI i) (nI L.length) (nI_pos (by omega)) (nI_lt hi (by omega))) (va_cwS 2 hts gJ5_charAt_5068e_J0_checkIndex_df160 rfl rfl rfl (by decide +kernel) ⟨Nat.le_of_ble_eq_true rfl, Nat.le_of_ble_eq_true rfl⟩) ⟨fun a U g mk q => ⟨q.1, kY.moved (u := U) (U := U.calling g mk a) (Vm.Alike.refl U.vm) q.2⟩, fun U hU hW => ⟨rfl, (kC.at hC hS (fun _ h => h) U hU hW).2⟩⟩ rfl rfl hl.1 rfl (lv_room (Nat.le_of_ble_eq_true rfl)) dJ5_charAt_5068e_26 ⟨(by first | exact Nat.le_refl _ | exact Nat.zero_le _ | exact Nat.le_of_ble_eq_true rfl | (show 0 + _ ≤ 200; omega)), (by first | exact Nat.le_refl _ | exact Nat.zero_le _ | exact Nat.le_of_ble_eq_true rfl | (show 0 + _ ≤ 200; omega))⟩) ?_
  refine lv_iload_n hx hb dJ5_charAt_5068e_29 rfl (lv_at hl 2 rfl) ?_
  refine lv_if_ne (tgt := 42) hx hb dJ5_charAt_5068e_30 (by decide) (fun h => absurd h (fun z => z rfl)) (fun _ => ?_)
  refine lv_aload_n hx hb dJ5_charAt_5068e_33 rfl (lv_at hl 1 rfl) ?_
  refine lv_iload_n hx hb dJ5_charAt_5068e_34 rfl (lv_at hl 4 rfl) ?_
  refine va_bald hx hb hK hP 1 0 rfl rfl (vp_in_nI (n := i) (by omega) (by omega)) dJ5_charAt_5068e_35 ?_
  refine kt_v (show (.int (a (nI i).toNatClampNeg) : Value) = .int (sb_b (L.getD i 0)) from congrArg Value.int (by rw [nI_clamp (n := i) (by omega)]; exact hi4.2)) ?_
  refine lv_sipush (v := 255) hx hb dJ5_charAt_5068e_36 (by decide) ?_
  refine lv_iand hx hb dJ5_charAt_5068e_39 ?_
  refine kt_v (show (.int ((sb_b (L.getD i 0)) &&& 255) : Value) = .int (nI (L.getD i 0)) from congrArg Value.int b1) ?_
  refine lv_i2c (v := (nI (L.getD i 0))) hx hb dJ5_charAt_5068e_40 (b2) ?_
  exact W.zret (v := nI (L.getD i 0)) (ty := .char) hx hb hr (pk_charN (by have := hi4.1; omega)).1 (fun t ht hW => ⟨rfl, ht⟩) (fun _ h => nomatch h) dJ5_charAt_5068e_41

theorem dJ4_charAt_5068e_0 : decode cJ4_charAt_5068e 0 = .ok (.aload_n 0, 1) := by decide +kernel
theorem dJ4_charAt_5068e_1 : decode cJ4_charAt_5068e 1 = .ok (.iload_n 1, 1) := by decide +kernel
theorem dJ4_charAt_5068e_2 : decode cJ4_charAt_5068e 2 = .ok (.invokespecial 329, 3) := by decide +kernel
set_option maxRecDepth 20000 in
theorem ggJ4_charAt_5068e_J5_charAt_5068e : GoodIn wsJ4_charAt_5068e wsJ5_charAt_5068e := goodIn_r _ [6, 7, 8, 9, 10, 11, 12, 13, 14, 15, 16, 17, 18, 19, 20, 21, 22, 23, 24, 25, 26, 27, 28, 29, 30, 31, 32, 33, 34, 35, 36] (by decide +kernel) (by decide +kernel)
set_option maxRecDepth 20000 in
theorem gJ4_charAt_5068e_J5_charAt_5068e_s329 : GoodIn wsJ4_charAt_5068e (va_wsSU RJ4 329 yJ5_charAt_5068e wsJ5_charAt_5068e) := goodIn_app (goodIn_of _ (by decide +kernel)) ggJ4_charAt_5068e_J5_charAt_5068e
theorem dJ4_charAt_5068e_5 : decode cJ4_charAt_5068e 5 = .ok (.ireturn, 1) := by decide +kernel
set_option maxHeartbeats 4000000 in
set_option maxRecDepth 100000 in
theorem c_J4_charAt (l : Launch) (dC : Nat → ClassId) (dI : Nat → Nat → Nat) (cs : Nat → ClassId) (h q z : Nat) (L : List Nat) (b : Int32) (a : Nat → Int32) (i : Nat) (hI : sI L z a) (hi : i < L.length) : Met l yJ4_charAt_5068e wsJ4_charAt_5068e (rm_s 3 0 0) (va_Pc [.ref h, .int (nI i)] (sPr dC dI cs (sW cs h q z (nI L.length) b a))) (kQ (some (.int (nI (L.getD i 0))))) 0 0 (kF) := by
  refine Met.ofW (cc := cJ4_charAt_5068e) (maxL := 2) (ret := (some .char)) (by decide) rfl ?_
  intro p e s m args below meth c s₁ B hml hv
  obtain ⟨hav, hP, hK, hC⟩ := hv
  have hin : ∀ w ∈ wsJ40, w ∈ wsJ4_charAt_5068e := fun w h => List.mem_cons_of_mem _ (List.mem_append_right _ h)
  have hS : va_S kF s.heap s.heap [] := va_S.rf
  have hx := B.exec
  have hb := B.bytes
  have hr := B.returns
  have hts := atoms_spec (ws := wsJ4_charAt_5068e) B.pre
  have hown : s.vm.findClass RJ4 = some m.cls := findClass_of_methodNamed B.named
  have hlocks := B.notSynchronized
  have hl := lv_entry ([.ref h, .int (nI i)]) (n := 2) (Nat.le_of_ble_eq_true rfl)
  rw [show entryFrame m args 2 = entryFrame m ([.ref h, .int (nI i)] : List Value).toArray 2 from by rw [hav], lg_entry_eq]
  generalize (lg_sl ([.ref h, .int (nI i)]) ++ List.replicate (2 - (lg_sl ([.ref h, .int (nI i)])).length) Slot.unset).toArray = ls at hl ⊢
  have hl : lv_has ls 2 [(0, .ref h), (1, .int (nI i))] := hl
  refine lv_aload_n hx hb dJ4_charAt_5068e_0 rfl (lv_at hl 0 rfl) ?_
  refine lv_iload_n hx hb dJ4_charAt_5068e_1 rfl (lv_at hl 1 rfl) ?_
  refine ko_call (v := some (.int (nI (L.getD i 0)))) (va_runSU (hK.1 0 _ rfl).2 (As := [.int (nI i)]) (rest := []) ⟨hx, hb, hml, hown, hts⟩ (c_J5_charAt l dC dI cs h q z L b a i hI hi) (va_cwSU 1 hts gJ4_charAt_5068e_J5_charAt_5068e_s329 rfl rfl rfl (by decide +kernel) ⟨Nat.le_of_ble_eq_true rfl, Nat.le_of_ble_eq_true rfl⟩) ⟨fun a U g mk q => ⟨q.1, sPr_bl q.2⟩, va_recv hK hP (ci := 0) (q0 := 0) rfl rfl, fun U hU hW => ⟨rfl, ⟨by rw [hU]; exact hP, va_K.moved hW.alike hK, kC.at hC hS (fun _ h => h.elim) U hU hW⟩⟩⟩ rfl rfl hl.1 rfl (lv_room (Nat.le_of_ble_eq_true rfl)) dJ4_charAt_5068e_2 ⟨(by first | exact Nat.le_refl _ | exact Nat.zero_le _ | exact Nat.le_of_ble_eq_true rfl | (show 0 + _ ≤ 200; omega)), (by first | exact Nat.le_refl _ | exact Nat.zero_le _ | exact Nat.le_of_ble_eq_true rfl | (show 0 + _ ≤ 200; omega))⟩) ?_
  have hi4 : L.getD i 0 < 256 ∧ a i = sb_b (L.getD i 0) := hI.2.2.2 i hi
  exact W.zret (v := nI (L.getD i 0)) (ty := .char) hx hb hr (pk_charN (by have := hi4.1; omega)).1 (fun t ht hW => ⟨rfl, ht⟩) (fun _ h => nomatch h) dJ4_charAt_5068e_5

set_option maxHeartbeats 4000000 in
set_option maxRecDepth 100000 in
theorem c_J5_init (l : Launch) (dC : Nat → ClassId) (dI : Nat → Nat → Nat) (cs : Nat → ClassId) (h sz : Nat) : Met l yJ5_init_d00df wsJ5_init_d00df (rm_s 1 1 16) (va_Pc [.ref h, .int 16] (sPw dC dI cs sz [(h, .inr (0, [.null, .int 0, .int 0, .int 0]))])) (sQv dC dI cs (va_A [(h, .inr (0, [.null, .int 0, .int 0, .int 0]))] sz) h []) 1 16 (va_A [(h, .inr (0, [.null, .int 0, .int 0, .int 0]))] sz) := by
  refine Met.ofW (cc := cJ5_init_d00df) (maxL := 2) (ret := none) (by decide) rfl ?_
  intro p e s m args below meth c s₁ B hml hv
  obtain ⟨hav, hsz, hP, hK, hD0, hC⟩ := hv
  subst hsz
  have hin : ∀ w ∈ wsJ40, w ∈ wsJ5_init_d00df := fun w h => List.mem_cons_of_mem _ (List.mem_append_right _ h)
  have hA : ∀ q9, s.heap.size ≤ q9 → va_A [(h, .inr (0, [.null, .int 0, .int 0, .int 0]))] s.heap.size q9 := fun q9 h => Or.inr h
  have hS : va_S (va_A [(h, .inr (0, [.null, .int 0, .int 0, .int 0]))] s.heap.size) s.heap s.heap [] := va_S.rf
  have hD : va_D (va_A [(h, .inr (0, [.null, .int 0, .int 0, .int 0]))] s.heap.size) [(h, .inr (0, [.null, .int 0, .int 0, .int 0]))] := hD0.self
  have hx := B.exec
  have hb := B.bytes
  have hr := B.returns
  have hts := atoms_spec (ws := wsJ5_init_d00df) B.pre
  have hown : s.vm.findClass RJ5 = some m.cls := findClass_of_methodNamed B.named
  have hlocks := B.notSynchronized
  have k1 := hts (.methodLink RJ5 3 objectInit) (by decide +kernel)
  have k2 := hts (.instanceMethod objectInit) (by decide +kernel)
  have k3 := hts (.code objectInit ⟨#[0xb1]⟩ 1 none) (by decide +kernel)
  have k4 := hts (.fieldLink RJ5 18 "java/lang/String" "COMPACT_STRINGS" "Z") (by decide +kernel)
  have k5 := hts (.arrayClass .byte) (by decide +kernel)
  have k6 := hts (.fieldLink RJ5 15 "java/lang/AbstractStringBuilder" "value" "[B") (by decide +kernel)
  have k7 := hts (.fieldLink RJ5 22 "java/lang/AbstractStringBuilder" "coder" "B") (by decide +kernel)
  have hl := lv_entry ([.ref h, .int 16]) (n := 2) (Nat.le_of_ble_eq_true rfl)
  rw [show entryFrame m args 2 = entryFrame m ([.ref h, .int 16] : List Value).toArray 2 from by rw [hav], lg_entry_eq]
  generalize (lg_sl ([.ref h, .int 16]) ++ List.replicate (2 - (lg_sl ([.ref h, .int 16])).length) Slot.unset).toArray = ls at hl ⊢
  have hl : lv_has ls 2 [(0, .ref h), (1, .int 16)] := hl
  refine lv_aload_n hx hb dJ5_init_d00df_0 rfl (lv_at hl 0 rfl) ?_
  refine W.objInit hx hb hown k1 k2 k3 rfl (by rw [hml]; exact hl.1) rfl dJ5_init_d00df_1 (Nat.le_of_ble_eq_true rfl) (Nat.le_of_ble_eq_true rfl) ?_
  refine W.eq (g2 := F0 m 4 ls []) rfl ?_
  refine va_gets hx hb hC.1 hS hown k4 (fun _ h9 => h9) dJ5_init_d00df_4 ?_
  refine lv_if_eq (tgt := 25) hx hb dJ5_init_d00df_7 (by decide) (fun h => absurd h (by decide)) (fun _ => ?_)
  refine lv_aload_n hx hb dJ5_init_d00df_10 rfl (lv_at hl 0 rfl) ?_
  refine lv_iload_n hx hb dJ5_init_d00df_11 rfl (lv_at hl 1 rfl) ?_
  refine va_newa (atype := .byte) (a0 := (16, .inl (fun _ => 0))) (N' := 16) hx hb k5 (ty := .byte) rfl hK hP hD hS hA (fun _ => rfl) (by decide) (by decide +kernel) (Nat.le_of_ble_eq_true rfl) (Nat.le_of_ble_eq_true rfl) (Nat.le_of_ble_eq_true rfl) dJ5_init_d00df_12 (fun q cA H hK2 hP hD hS => ?_)
  have ecA : cA = cs 0 := Option.some.inj (((hK2.2 8 _ rfl).2 : s.vm.findClass _ = some _).symm.trans ((hK.2 0 _ rfl).2 : s.vm.findClass _ = some _))
  subst ecA
  have hP : va_P (dC, dI) vwCl [(h, .inr (0, [.null, .int 0, .int 0, .int 0])), (q, .inl (cs 0, 16, .inl (fun _ => 0)))] H := hP
  have hD : va_D (va_A [(h, .inr (0, [.null, .int 0, .int 0, .int 0]))] s.heap.size) [(h, .inr (0, [.null, .int 0, .int 0, .int 0])), (q, .inl (cs 0, 16, .inl (fun _ => 0)))] := hD
  refine va_put (D := (dC, dI)) (ci := 0) (v := .ref q) (ty := .array .byte) (C := RJ4) (T := TJ4) (N := 4) hx hb hts hin tyJ4 tyJ4_ok nmJ4 hown hK hP hD hS 0 rfl rfl 0 (by decide) k6 (fun _ h9 => h9) rfl (by decide +kernel) rfl rfl (Nat.le_of_ble_eq_true rfl) dJ5_init_d00df_14 (fun H locs hP hD hS => ?_)
  have hP : va_P (dC, dI) vwCl [(h, .inr (0, [.ref q, .int 0, .int 0, .int 0])), (q, .inl (cs 0, 16, .inl (fun _ => 0)))] H := hP
  have hD : va_D (va_A [(h, .inr (0, [.null, .int 0, .int 0, .int 0]))] s.heap.size) [(h, .inr (0, [.ref q, .int 0, .int 0, .int 0])), (q, .inl (cs 0, 16, .inl (fun _ => 0)))] := hD
  refine lv_aload_n hx hb dJ5_init_d00df_17 rfl (lv_at hl 0 rfl) ?_
  refine lv_iconst (v := 0) hx hb dJ5_init_d00df_18 (by decide) ?_
  refine va_put (D := (dC, dI)) (ci := 0) (v := .int 0) (ty := .byte) (C := RJ4) (T := TJ4) (N := 4) hx hb hts hin tyJ4 tyJ4_ok nmJ4 hown hK hP hD hS 0 rfl rfl 1 (by decide) k7 (fun _ h9 => h9) rfl (by decide +kernel) rfl rfl (Nat.le_of_ble_eq_true rfl) dJ5_init_d00df_19 (fun H locs hP hD hS => ?_)
  have hP : va_P (dC, dI) vwCl [(h, .inr (0, [.ref q, .int 0, .int 0, .int 0])), (q, .inl (cs 0, 16, .inl (fun _ => 0)))] H := hP
  have hD : va_D (va_A [(h, .inr (0, [.null, .int 0, .int 0, .int 0]))] s.heap.size) [(h, .inr (0, [.ref q, .int 0, .int 0, .int 0])), (q, .inl (cs 0, 16, .inl (fun _ => 0)))] := hD
  refine lv_goto (tgt := 38) hx hb dJ5_init_d00df_22 (by decide) ?_
  exact W.vret hx hb hr (fun t ht hW => ⟨⟨(q, 16, 0, fun _ => 0), rfl, ⟨Nat.zero_le _, (show 16 ≤ 200 by decide), sb_fit0, fun j hj => absurd hj (Nat.not_lt_zero _)⟩, by rw [ht]; exact hP, va_K.moved hW.alike hK, hD⟩, hS.F ht⟩) hS.2.2 dJ5_init_d00df_38

theorem dJ4_init_da8c8_0 : decode cJ4_init_da8c8 0 = .ok (.aload_n 0, 1) := by decide +kernel
theorem dJ4_init_da8c8_1 : decode cJ4_init_da8c8 1 = .ok (.bipush 16, 2) := by decide +kernel
set_option maxRecDepth 20000 in
theorem ggJ4_init_da8c8_J5_init_d00df : GoodIn wsJ4_init_da8c8 wsJ5_init_d00df := goodIn_r _ [4, 5, 6, 7, 8, 9, 10, 11, 12, 13, 14, 15, 16, 17, 18, 19, 20, 21, 22, 23] (by decide +kernel) (by decide +kernel)
set_option maxRecDepth 20000 in
theorem gJ4_init_da8c8_J5_init_d00df : GoodIn wsJ4_init_da8c8 (wsJ5_init_d00df) := ggJ4_init_da8c8_J5_init_d00df
theorem dJ4_init_da8c8_3 : decode cJ4_init_da8c8 3 = .ok (.invokespecial 1, 3) := by decide +kernel
theorem dJ4_init_da8c8_6 : decode cJ4_init_da8c8 6 = .ok (.return_, 1) := by decide +kernel
set_option maxHeartbeats 4000000 in
set_option maxRecDepth 100000 in
theorem c_J4_initN (l : Launch) (dC : Nat → ClassId) (dI : Nat → Nat → Nat) (cs : Nat → ClassId) (h sz : Nat) : Met l yJ4_init_da8c8 wsJ4_init_da8c8 (rm_s 2 1 16) (va_Pc [.ref h] (sPw dC dI cs sz [(h, .inr (0, [.null, .int 0, .int 0, .int 0]))])) (va_Qv (fun u : Nat × Nat × Nat × Int32 × (Nat → Int32) => u.1 = h ∧ sI [] u.2.2.1 u.2.2.2.2) (fun u t => cB dC dI cs (va_A [(h, .inr (0, [.null, .int 0, .int 0, .int 0]))] sz) (sW cs u.1 u.2.1 u.2.2.1 (nI 0) u.2.2.2.1 u.2.2.2.2) t) (va_A [(h, .inr (0, [.null, .int 0, .int 0, .int 0]))] sz)) 1 16 (va_A [(h, .inr (0, [.null, .int 0, .int 0, .int 0]))] sz) := by
  refine Met.ofW (cc := cJ4_init_da8c8) (maxL := 1) (ret := none) (by decide) rfl ?_
  intro p e s m args below meth c s₁ B hml hv
  obtain ⟨hav, hsz, hP, hK, hD0, hC⟩ := hv
  subst hsz
  have hin : ∀ w ∈ wsJ40, w ∈ wsJ4_init_da8c8 := fun w h => List.mem_cons_of_mem _ (List.mem_append_right _ h)
  have hA : ∀ q9, s.heap.size ≤ q9 → va_A [(h, .inr (0, [.null, .int 0, .int 0, .int 0]))] s.heap.size q9 := fun q9 h => Or.inr h
  have hS : va_S (va_A [(h, .inr (0, [.null, .int 0, .int 0, .int 0]))] s.heap.size) s.heap s.heap [] := va_S.rf
  have hD : va_D (va_A [(h, .inr (0, [.null, .int 0, .int 0, .int 0]))] s.heap.size) [(h, .inr (0, [.null, .int 0, .int 0, .int 0]))] := hD0.self
  have hx := B.exec
  have hb := B.bytes
  have hr := B.returns
  have hts := atoms_spec (ws := wsJ4_init_da8c8) B.pre
  have hown : s.vm.findClass RJ4 = some m.cls := findClass_of_methodNamed B.named
  have hlocks := B.notSynchronized
  have k1 := hts (.initialized RJ5) (by decide +kernel)
  have k2 := hts (.methodLink RJ4 1 yJ5_init_d00df) (by decide +kernel)
  have k3 := hts (.instanceMethod yJ5_init_d00df) (by decide +kernel)
  have hl := lv_entry ([.ref h]) (n := 1) (Nat.le_of_ble_eq_true rfl)
  rw [show entryFrame m args 1 = entryFrame m ([.ref h] : List Value).toArray 1 from by rw [hav], lg_entry_eq]
  generalize (lg_sl ([.ref h]) ++ List.replicate (1 - (lg_sl ([.ref h])).length) Slot.unset).toArray = ls at hl ⊢
  have hl : lv_has ls 1 [(0, .ref h)] := hl
  refine lv_aload_n hx hb dJ4_init_da8c8_0 rfl (lv_at hl 0 rfl) ?_
  refine lv_bipush (v := 16) hx hb dJ4_init_da8c8_1 (by decide) ?_
  have hF := va_free (wc := [(h, .inr (0, [.null, .int 0, .int 0, .int 0]))]) hD hS hA [0] rfl
  refine va_callv (va_runI (As := [.int 16]) (rest := []) ⟨hx, hb, hml, hown, hts⟩ (c_J5_init l dC dI cs h s.heap.size) (cwI 1 hts gJ4_init_da8c8_J5_init_d00df rfl rfl rfl k1 k2 k3 rfl (by decide +kernel) ⟨Nat.le_of_ble_eq_true rfl, Nat.le_of_ble_eq_true rfl⟩) ⟨fun a U g mk q => ⟨q.1, sPw_bl q.2⟩, fun U hU hW => ⟨rfl, by rw [hU], by rw [hU]; exact hP, va_K.moved hW.alike hK, hD.weaken (fun _ _ _ _ => trivial), kC.at hC hS hF U hU hW⟩⟩ rfl rfl hl.1 rfl (lv_room (Nat.le_of_ble_eq_true rfl)) dJ4_init_da8c8_3 ⟨(by first | exact Nat.le_refl _ | exact Nat.zero_le _ | exact Nat.le_of_ble_eq_true rfl | (show 0 + _ ≤ 200; omega)), (by first | exact Nat.le_refl _ | exact Nat.zero_le _ | exact Nat.le_of_ble_eq_true rfl | (show 0 + _ ≤ 200; omega))⟩) hS (fun q _ h => hF q h) hF (fun u t9 H1 locs ht hvm hu hB hz hk hS => ?_)
  obtain ⟨hP1, hK1, hD1⟩ := hB
  rw [ht] at hP1
  exact W.vret hx hb hr (fun t ht hW => ⟨⟨(h, u.1, u.2.1, u.2.2.1, u.2.2.2), rfl, ⟨rfl, hu⟩, by rw [ht]; exact hP1, va_K.moved hW.alike hK, hD1.weaken (fun _ _ _ h => hF _ h)⟩, hS.F ht⟩) hS.2.2 dJ4_init_da8c8_6

