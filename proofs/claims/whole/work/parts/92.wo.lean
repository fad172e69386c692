def ww_X4_wordOf (cs : Nat → ClassId) (ad : Nat → Nat) (raR : Nat → Nat) (raT : Nat) (xR : Nat) (nT : Nat) (R : kD) (T : Nat → Int32) : va_W := (wX4 cs ad raR xR raT R ++ ([(raT, .inl (cs 1, nT, .inl T))]))
abbrev rm_X4_wordOf : Room := { frames := 4, cells := 0, slots := 0, locals := 120 }
theorem f_X4_wordOf_in {a : Int32} {nT : Nat} {R : kD} {T : Nat → Int32} {v : Int32} (h : f_X4_wordOf a nT R T = some v) : ¬ (v < 0 ∨ 22 ≤ v.toNatClampNeg) := by
  unfold f_X4_wordOf at h
  refine (lp_ind (z := (fun _ => none)) (b := g_X4_wordOf_2 nT R T a) (fun rc => ∀ x, rc x = some v → ¬ (v < 0 ∨ 22 ≤ v.toNatClampNeg)) (fun _ h => nomatch h) (fun rc ih x h => ?_) 2000) _ h
  unfold g_X4_wordOf_2 at h
  by_cases h22 : (22 : Int32) ≤ x
  · rw [if_pos h22] at h
    have := Option.some.inj h
    subst this
    decide
  rw [if_neg h22] at h
  obtain ⟨hc, h⟩ := ck_e h
  have h99 : ∀ y, g_X4_wordOf_99 rc x y = some v → ¬ (v < 0 ∨ 22 ≤ v.toNatClampNeg) := by
    intro y h
    unfold g_X4_wordOf_99 at h
    by_cases h0 : y = 0
    · rw [if_pos h0] at h
      obtain ⟨w, -, h⟩ := bd1_e h
      exact ih _ h
    · rw [if_neg h0] at h
      have := Option.some.inj h
      subst this
      exact hc
  have h37 : ∀ y z, lp (fun _ _ => none) (g_X4_wordOf_37 rc nT R T x) 2000 y z = some v → ¬ (v < 0 ∨ 22 ≤ v.toNatClampNeg) := by
    refine lp_ind (z := (fun _ _ => none)) (b := g_X4_wordOf_37 rc nT R T x) (fun rc2 => ∀ y z, rc2 y z = some v → ¬ (v < 0 ∨ 22 ≤ v.toNatClampNeg)) (fun _ _ h => nomatch h) (fun rc2 ih2 y z h => ?_) 2000
    unfold g_X4_wordOf_37 at h
    by_cases b1 : y = 0
    · rw [if_pos b1] at h; exact h99 _ h
    rw [if_neg b1] at h
    by_cases b2 : (Int32.ofNat (wLn x.toNatClampNeg)) ≤ z
    · rw [if_pos b2] at h; exact h99 _ h
    rw [if_neg b2] at h
    by_cases b3 : (R.1 0 1) ≤ ((R.1 0 5) + z)
    · rw [if_pos b3] at h; exact h99 _ h
    rw [if_neg b3] at h
    obtain ⟨-, h⟩ := ck_e h
    obtain ⟨-, h⟩ := ck_e h
    obtain ⟨w, -, h⟩ := bd1_e h
    obtain ⟨-, h⟩ := ck_e h
    unfold g_X4_wordOf_91 at h
    by_cases b4 : (wCh x.toNatClampNeg z.toNatClampNeg) = (T w.toNatClampNeg)
    · rw [if_pos b4] at h
      obtain ⟨w2, -, h⟩ := bd1_e h
      exact ih2 _ _ h
    · rw [if_neg b4] at h
      obtain ⟨w2, -, h⟩ := bd1_e h
      exact ih2 _ _ h
  by_cases b5 : (Int32.ofNat (wLn x.toNatClampNeg)) = a
  · rw [if_pos b5] at h; exact h37 _ _ h
  · rw [if_neg b5] at h; exact h37 _ _ h
set_option maxHeartbeats 4000000 in
set_option maxRecDepth 100000 in
theorem c_X4_wordOf (l : Launch) (dC : Nat → ClassId) (dI : Nat → Nat → Nat) (cs : Nat → ClassId) (ad : Nat → Nat) (raR : Nat → Nat) (raT : Nat) (xR : Nat) (nT : Nat) (R : kD) (T : Nat → Int32) (a0 : Int32) (r : Int32) (hf : f_X4_wordOf a0 nT R T = some r) : Met l yX4_wordOf wsX4_wordOf rm_X4_wordOf (va_Pc [.ref (raR 0), .int a0] (cPe ad (kF) (cPr dC dI cs (ww_X4_wordOf cs ad raR raT xR nT R T)))) (kQ (some (.ref (ad r.toNatClampNeg)))) 0 0 (kF) := by
  refine Met.ofW (cc := cX4_wordOf) (maxL := 6) (ret := (some (.object "KeyLetters$Word"))) (by decide) rfl ?_
  intro p e s m args below meth c s₁ B hml hv
  obtain ⟨hav, hE, hP, hK, hN⟩ := hv
  have hx := B.exec
  have hb := B.bytes
  have hr := B.returns
  have hts := atoms_spec (ws := wsX4_wordOf) B.pre
  have hown : s.vm.findClass RX4 = some m.cls := findClass_of_methodNamed B.named
  have hlocks := B.notSynchronized
  have hinX4 := (show ∀ w ∈ wsX40, w ∈ wsX4_wordOf from fun w h => List.mem_cons_of_mem _ (List.mem_append_right _ h))
  have kW73 := hts (.fieldLink RX4 73 "KeyLetters$Reader" "WORDS" "[LKeyLetters$Word;") (List.mem_of_getElem? (i := 1) rfl)
  have k49 := hts (.fieldLink RX4 49 "KeyLetters$Reader" "place" "I") (List.mem_of_getElem? (i := 2) rfl)
  have k30 := hts (.fieldLink RX4 30 "KeyLetters$Reader" "bytes" "I") (List.mem_of_getElem? (i := 3) rfl)
  have k9 := hts (.fieldLink RX4 9 "KeyLetters$Reader" "text" "[I") (List.mem_of_getElem? (i := 4) rfl)
  have k15 := hts (.fieldLink RX4 15 "KeyLetters$Word" "OTHER" "LKeyLetters$Word;") (List.mem_of_getElem? (i := 5) rfl)
  obtain ⟨adK, adV, aW, g1, g2, g3, g4, g5⟩ := hE.2
  have hl := lv_entry ([.ref (raR 0), .int a0]) (n := 6) (Nat.le_of_ble_eq_true rfl)
  rw [show entryFrame m args 6 = entryFrame m ([.ref (raR 0), .int a0] : List Value).toArray 6 from by rw [hav], lg_entry_eq]
  generalize (lg_sl ([.ref (raR 0), .int a0]) ++ List.replicate (6 - (lg_sl ([.ref (raR 0), .int a0])).length) Slot.unset).toArray = ls at hl ⊢
  have hl : lv_has ls 6 [(0, .ref (raR 0)), (1, .int a0)] := hl
  unfold f_X4_wordOf at hf
  have h_2 := lp_ind (z := (fun _ => none)) (b := (g_X4_wordOf_2 nT R T a0)) (fun (rc_2 : Int32 → Option Int32) => ∀ (x2 : Int32) (ls : Array Slot), lv_has ls 6 [(0, .ref (raR 0)), (1, .int a0), (2, .int x2)] → rc_2 x2 = some r → W p l e (headSpec wsX4_wordOf rm_X4_wordOf).room s m args below meth c s.heap [] 0 0 (MQ below (kQ (some (.ref (ad r.toNatClampNeg)))) args s 0 0 (kF)) (F0 m 2 ls [])) (by
      intro x2 ls hl hf
      cases hf) (by
      intro rc_2 ih_2 x2 ls hl hf
      unfold g_X4_wordOf_2 at hf
      refine lv_iload_n hx hb dX4_wordOf_2 rfl (lv_at hl 2 rfl) ?_
      refine va_gets hx hb g2 va_S.rf hown kW73 (fun _ h9 => h9) dX4_wordOf_3 ?_
      refine va_tlen hx hb g3 va_S.rf (v := 22) rfl dX4_wordOf_6 ?_
      refine lv_icmp_ge (tgt := 116) hx hb dX4_wordOf_7 (by decide) (fun hb1 => ?_) (fun hb1 => ?_)
      · have hf := (if_pos hb1).symm.trans hf
        have hf := Option.some.inj hf
        subst hf
        refine va_gets hx hb (show va_Z "KeyLetters$Word" "OTHER" "LKeyLetters$Word;" (.ref (ad 0)) _ s s.heap from (hE.1.1 0 (by decide)).1) va_S.rf hown k15 (fun _ h9 => h9) dX4_wordOf_116 ?_
        exact W.aret (v := .ref (ad 0)) hx hb hr (Or.inl ⟨_, rfl⟩) (Or.inr ⟨_, rfl⟩) (fun t ht hW => ⟨rfl, ht⟩) (fun _ h => nomatch h) dX4_wordOf_119
      have hf := (if_neg hb1).symm.trans hf
      obtain ⟨hc, hf⟩ := ck_e hf
      have hn : x2.toNatClampNeg < 22 := Nat.not_le.mp fun q => hc (Or.inr q)
      have hT : kSt (adK x2.toNatClampNeg) (adV x2.toNatClampNeg) x2.toNatClampNeg kF s s.heap := ⟨(g1 _ hn).2.1, (g1 _ hn).2.2.1, (g1 _ hn).2.2.2.1, (g1 _ hn).2.2.2.2, g4, g5⟩
      have h_99 : ∀ (x4 : Int32) (y5 : Value) (z3 : Value) (ls : Array Slot), lv_has ls 6 [(0, .ref (raR 0)), (1, .int a0), (2, .int x2), (4, .int x4)] → g_X4_wordOf_99 rc_2 x2 x4 = some r → W p l e (headSpec wsX4_wordOf rm_X4_wordOf).room s m args below meth c s.heap [] 0 0 (MQ below (kQ (some (.ref (ad r.toNatClampNeg)))) args s 0 0 (kF)) (F0 m 99 ls []) := by
        intro x4 _ _ ls hl hf
        unfold g_X4_wordOf_99 at hf
        refine lv_iload hx hb dX4_wordOf_99 (lv_at hl 3 rfl) ?_
        refine lv_if_eq (tgt := 110) hx hb dX4_wordOf_101 (by decide) (fun hb2 => ?_) (fun hb2 => ?_)
        · have hf := (if_pos hb2).symm.trans hf
          obtain ⟨v1, ev1, hf⟩ := bd1_e hf
          refine lv_iinc (k := 2) (x := x2) (v := v1) (nL := 6) (lv' := [(2, .int v1), (0, .ref (raR 0)), (1, .int a0), (4, .int x4)]) hx hb dX4_wordOf_110 hl rfl (kt_inc (w := 1) (by decide) ev1) (by decide) rfl (fun ls hl => ?_)
          refine lv_goto (tgt := 2) hx hb dX4_wordOf_113 (by decide) ?_
          exact ih_2 v1 ls (lv_sub hl [1, 2, 0] rfl) hf
        · have hf := (if_neg hb2).symm.trans hf
          have hf := Option.some.inj hf
          subst hf
          refine va_gets hx hb g2 va_S.rf hown kW73 (fun _ h9 => h9) dX4_wordOf_104 ?_
          refine lv_iload_n hx hb dX4_wordOf_107 rfl (lv_at hl 2 rfl) ?_
          refine vb_tq hx hb g3 va_S.rf (i := x2) hc (v := .ref (ad x2.toNatClampNeg)) rfl dX4_wordOf_108 ?_
          exact W.aret (v := .ref (ad x2.toNatClampNeg)) hx hb hr (Or.inl ⟨_, rfl⟩) (Or.inr ⟨_, rfl⟩) (fun t ht hW => ⟨rfl, ht⟩) (fun _ h => nomatch h) dX4_wordOf_109
      have h_37 := lp_ind (z := (fun _ _ => none)) (b := (g_X4_wordOf_37 rc_2 nT R T x2)) (fun (rc_37 : Int32 → Int32 → Option Int32) => ∀ (x4 x5 : Int32) (ls : Array Slot), lv_has ls 6 [(0, .ref (raR 0)), (1, .int a0), (2, .int x2), (3, .ref (adK x2.toNatClampNeg)), (4, .int x4), (5, .int x5)] → rc_37 x4 x5 = some r → W p l e (headSpec wsX4_wordOf rm_X4_wordOf).room s m args below meth c s.heap [] 0 0 (MQ below (kQ (some (.ref (ad r.toNatClampNeg)))) args s 0 0 (kF)) (F0 m 37 ls [])) (by
          intro x4 x5 ls hl hf
          cases hf) (by
          intro rc_37 ih_37 x4 x5 ls hl hf
          unfold g_X4_wordOf_37 at hf
          refine lv_iload hx hb dX4_wordOf_37 (lv_at hl 4 rfl) ?_
          refine lv_if_eq (tgt := 99) hx hb dX4_wordOf_39 (by decide) (fun hb3 => ?_) (fun hb3 => ?_)
          · exact h_99 x4 .null .null ls (lv_sub hl [0, 1, 2, 4] rfl) ((if_pos hb3).symm.trans hf)
          have hf := (if_neg hb3).symm.trans hf
          refine lv_iload hx hb dX4_wordOf_42 (lv_at hl 5 rfl) ?_
          refine lv_aload_n hx hb dX4_wordOf_44 rfl (lv_at hl 3 rfl) ?_
          refine ko_call (v := some (.int (Int32.ofNat (wLn x2.toNatClampNeg)))) (va_runV (As := []) (rest := [.int x5]) ⟨hx, hb, hml, hown, hts⟩ (c_J0_length l (adK x2.toNatClampNeg) (adV x2.toNatClampNeg) x2.toNatClampNeg hn) (cwV 0 hts gX4_wordOf_J0_length_8abf5 rfl rfl rfl (by decide +kernel) ⟨Nat.le_of_ble_eq_true rfl, Nat.le_of_ble_eq_true rfl⟩) ⟨fun a U g mk q => ⟨q.1, kSt.bl q.2⟩, va_Orecv hT.1 va_S.rf, fun U hU hW => ⟨rfl, kSt.at hT U hU hW⟩⟩ rfl rfl hl.1 rfl (lv_room (Nat.le_of_ble_eq_true rfl)) dX4_wordOf_45 ⟨Nat.le_refl _, Nat.le_refl _⟩) ?_
          refine lv_icmp_ge (tgt := 99) hx hb dX4_wordOf_48 (by decide) (fun hb4 => ?_) (fun hb4 => ?_)
          · exact h_99 x4 .null .null ls (lv_sub hl [0, 1, 2, 4] rfl) ((if_pos hb4).symm.trans hf)
          have hf := (if_neg hb4).symm.trans hf
          refine lv_aload_n hx hb dX4_wordOf_51 rfl (lv_at hl 0 rfl) ?_
          refine va_get (D := (dC, dI)) (ci := 5) (C := RX4) (T := TX4) (N := 11) hx hb hts hinX4 hown hK hP 0 rfl rfl 5 (by decide) (v := .int (R.1 0 5)) k49 (fun _ h9 => h9) rfl dX4_wordOf_52 ?_
          refine lv_iload hx hb dX4_wordOf_55 (lv_at hl 5 rfl) ?_
          refine lv_iadd hx hb dX4_wordOf_57 ?_
          refine lv_aload_n hx hb dX4_wordOf_58 rfl (lv_at hl 0 rfl) ?_
          refine va_get (D := (dC, dI)) (ci := 5) (C := RX4) (T := TX4) (N := 11) hx hb hts hinX4 hown hK hP 0 rfl rfl 1 (by decide) (v := .int (R.1 0 1)) k30 (fun _ h9 => h9) rfl dX4_wordOf_59 ?_
          refine lv_icmp_ge (tgt := 99) hx hb dX4_wordOf_62 (by decide) (fun hb5 => ?_) (fun hb5 => ?_)
          · exact h_99 x4 .null .null ls (lv_sub hl [0, 1, 2, 4] rfl) ((if_pos hb5).symm.trans hf)
          have hf := (if_neg hb5).symm.trans hf
          obtain ⟨hcx, hf⟩ := ck_e hf
          obtain ⟨hcR, hf⟩ := ck_e hf
          obtain ⟨v3, ev3, hf⟩ := bd1_e hf
          obtain ⟨hcT, hf⟩ := ck_e hf
          have hj : x5.toNatClampNeg < wLn x2.toNatClampNeg := Nat.not_le.mp fun q => hcx (Or.inr q)
          have e5 : x5 = nI x5.toNatClampNeg := by
            obtain ⟨j, hj2, e⟩ := nI_of (fun q => hcx (Or.inl q))
            rw [e, nI_clamp hj2]
          have h_91 : ∀ (t0 : Int32) (ls : Array Slot), lv_has ls 6 [(0, .ref (raR 0)), (1, .int a0), (2, .int x2), (3, .ref (adK x2.toNatClampNeg)), (4, .int x4), (5, .int x5)] → g_X4_wordOf_91 rc_37 x5 t0 = some r → W p l e (headSpec wsX4_wordOf rm_X4_wordOf).room s m args below meth c s.heap [] 0 0 (MQ below (kQ (some (.ref (ad r.toNatClampNeg)))) args s 0 0 (kF)) (F0 m 91 ls [.int t0]) := by
            intro t0 ls hl hf
            unfold g_X4_wordOf_91 at hf
            obtain ⟨v2, ev2, hf⟩ := bd1_e hf
            refine lv_istore (nL := 6) (lv' := [(4, .int t0), (0, .ref (raR 0)), (1, .int a0), (2, .int x2), (3, .ref (adK x2.toNatClampNeg)), (5, .int x5)]) hx hb dX4_wordOf_91 hl (by decide) rfl (fun ls hl => ?_)
            refine lv_iinc (k := 5) (x := x5) (v := v2) (nL := 6) (lv' := [(5, .int v2), (4, .int t0), (0, .ref (raR 0)), (1, .int a0), (2, .int x2), (3, .ref (adK x2.toNatClampNeg))]) hx hb dX4_wordOf_93 hl rfl (kt_inc (w := 1) (by decide) ev2) (by decide) rfl (fun ls hl => ?_)
            refine lv_goto (tgt := 37) hx hb dX4_wordOf_96 (by decide) ?_
            exact ih_37 t0 v2 ls (lv_sub hl [2, 3, 4, 5, 1, 0] rfl) hf
          refine lv_aload_n hx hb dX4_wordOf_65 rfl (lv_at hl 3 rfl) ?_
          refine lv_iload hx hb dX4_wordOf_66 (lv_at hl 5 rfl) ?_
          refine kt_i e5.symm ?_
          refine ko_call (v := some (.int (wCh x2.toNatClampNeg x5.toNatClampNeg))) (va_runV (As := [.int (nI x5.toNatClampNeg)]) (rest := []) ⟨hx, hb, hml, hown, hts⟩ (c_J0_charAt l (adK x2.toNatClampNeg) (adV x2.toNatClampNeg) x2.toNatClampNeg x5.toNatClampNeg hn hj) (cwV 1 hts gX4_wordOf_J0_charAt_5068e rfl rfl rfl (by decide +kernel) ⟨Nat.le_of_ble_eq_true rfl, Nat.le_of_ble_eq_true rfl⟩) ⟨fun a U g mk q => ⟨q.1, kSt.bl q.2⟩, va_Orecv hT.1 va_S.rf, fun U hU hW => ⟨rfl, kSt.at hT U hU hW⟩⟩ rfl rfl hl.1 rfl (lv_room (Nat.le_of_ble_eq_true rfl)) dX4_wordOf_68 ⟨Nat.le_refl _, Nat.le_refl _⟩) ?_
          refine lv_aload_n hx hb dX4_wordOf_71 rfl (lv_at hl 0 rfl) ?_
          refine va_get (D := (dC, dI)) (ci := 5) (C := RX4) (T := TX4) (N := 11) hx hb hts hinX4 hown hK hP 0 rfl rfl 0 (by decide) (v := .ref (kTx xR raT (R.1 0 0))) k9 (fun _ h9 => h9) rfl dX4_wordOf_72 ?_
          rw [kTx_1 xR raT (Decidable.not_not.mp hcR)]
          refine lv_aload_n hx hb dX4_wordOf_75 rfl (lv_at hl 0 rfl) ?_
          refine va_get (D := (dC, dI)) (ci := 5) (C := RX4) (T := TX4) (N := 11) hx hb hts hinX4 hown hK hP 0 rfl rfl 5 (by decide) (v := .int (R.1 0 5)) k49 (fun _ h9 => h9) rfl dX4_wordOf_76 ?_
          refine lv_iload hx hb dX4_wordOf_79 (lv_at hl 5 rfl) ?_
          refine lv_iadd hx hb dX4_wordOf_81 ?_
          refine kt_i ev3 ?_
          refine va_iald hx hb hK hP 1 1 rfl rfl hcT dX4_wordOf_82 ?_
          refine lv_icmp_ne (tgt := 90) hx hb dX4_wordOf_83 (by decide) (fun hb6 => ?_) (fun hb6 => ?_)
          · have hf := (if_neg hb6).symm.trans hf
            refine lv_iconst (v := 0) hx hb dX4_wordOf_90 (by decide) ?_
            exact h_91 _ ls hl hf
          · have hf := (if_pos hb6).symm.trans hf
            refine lv_iconst (v := 1) hx hb dX4_wordOf_86 (by decide) ?_
            refine lv_goto (tgt := 91) hx hb dX4_wordOf_87 (by decide) ?_
            exact h_91 _ ls hl hf) 2000
      have h_32 : ∀ (t0 : Int32) (ls : Array Slot), lv_has ls 6 [(0, .ref (raR 0)), (1, .int a0), (2, .int x2), (3, .ref (adK x2.toNatClampNeg))] → g_X4_wordOf_32 rc_2 nT R T x2 t0 = some r → W p l e (headSpec wsX4_wordOf rm_X4_wordOf).room s m args below meth c s.heap [] 0 0 (MQ below (kQ (some (.ref (ad r.toNatClampNeg)))) args s 0 0 (kF)) (F0 m 32 ls [.int t0]) := by
        intro t0 ls hl hf
        unfold g_X4_wordOf_32 at hf
        refine lv_istore (nL := 6) (lv' := [(4, .int t0), (0, .ref (raR 0)), (1, .int a0), (2, .int x2), (3, .ref (adK x2.toNatClampNeg))]) hx hb dX4_wordOf_32 hl (by decide) rfl (fun ls hl => ?_)
        refine lv_iconst (v := 0) hx hb dX4_wordOf_34 (by decide) ?_
        refine lv_istore (nL := 6) (lv' := [(5, .int (0 : Int32)), (4, .int t0), (0, .ref (raR 0)), (1, .int a0), (2, .int x2), (3, .ref (adK x2.toNatClampNeg))]) hx hb dX4_wordOf_35 hl (by decide) rfl (fun ls hl => ?_)
        exact h_37 t0 (0 : Int32) ls (lv_sub hl [2, 3, 4, 5, 1, 0] rfl) hf
      refine va_gets hx hb g2 va_S.rf hown kW73 (fun _ h9 => h9) dX4_wordOf_10 ?_
      refine lv_iload_n hx hb dX4_wordOf_13 rfl (lv_at hl 2 rfl) ?_
      refine vb_tq hx hb g3 va_S.rf (i := x2) hc (v := .ref (ad x2.toNatClampNeg)) rfl dX4_wordOf_14 ?_
      obtain ⟨cf, k, fi, f, cell, q1, q2, q3, q4, q5, q6⟩ := (g1 _ hn).1
      refine va_Wgetf hx hb hown (va_Nw.use rfl (hN _ (List.mem_of_getElem? (i := 156) rfl))) q1 q2 q3 q4 (v := .ref (adK x2.toNatClampNeg)) q5 rfl rfl dX4_wordOf_15 ?_
      refine lv_astore_n (nL := 6) (lv' := [(3, .ref (adK x2.toNatClampNeg)), (0, .ref (raR 0)), (1, .int a0), (2, .int x2)]) hx hb dX4_wordOf_18 rfl hl (by decide) rfl (fun ls hl => ?_)
      refine lv_aload_n hx hb dX4_wordOf_19 rfl (lv_at hl 0 rfl) ?_
      refine ko_call (v := some (.int (Int32.ofNat (wLn x2.toNatClampNeg)))) (va_runV (As := []) (rest := []) ⟨hx, hb, hml, hown, hts⟩ (c_J0_length l (adK x2.toNatClampNeg) (adV x2.toNatClampNeg) x2.toNatClampNeg hn) (cwV 0 hts gX4_wordOf_J0_length_8abf5 rfl rfl rfl (by decide +kernel) ⟨Nat.le_of_ble_eq_true rfl, Nat.le_of_ble_eq_true rfl⟩) ⟨fun a U g mk q => ⟨q.1, kSt.bl q.2⟩, va_Orecv hT.1 va_S.rf, fun U hU hW => ⟨rfl, kSt.at hT U hU hW⟩⟩ rfl rfl hl.1 rfl (lv_room (Nat.le_of_ble_eq_true rfl)) dX4_wordOf_20 ⟨Nat.le_refl _, Nat.le_refl _⟩) ?_
      refine lv_iload_n hx hb dX4_wordOf_23 rfl (lv_at hl 2 rfl) ?_
      refine lv_icmp_ne (tgt := 31) hx hb dX4_wordOf_24 rfl (fun hb7 => ?_) (fun hb7 => ?_)
      · have hf := (if_neg hb7).symm.trans hf
        refine lv_iconst (v := 0) hx hb dX4_wordOf_31 (by decide) ?_
        exact h_32 _ ls (lv_sub hl [1, 2, 3, 0] rfl) hf
      · have hf := (if_pos hb7).symm.trans hf
        refine lv_iconst (v := 1) hx hb dX4_wordOf_27 (by decide) ?_
        refine lv_goto (tgt := 32) hx hb dX4_wordOf_28 rfl ?_
        exact h_32 _ ls (lv_sub hl [1, 2, 3, 0] rfl) hf) 2000
  refine lv_iconst (v := 0) hx hb dX4_wordOf_0 (by decide) ?_
  refine lv_istore_n (nL := 6) (lv' := [(2, .int (0 : Int32)), (0, .ref (raR 0)), (1, .int a0)]) hx hb dX4_wordOf_1 rfl hl (by decide) rfl (fun ls hl => ?_)
  exact h_2 (0 : Int32) ls (lv_sub hl [1, 2, 0] rfl) hf
