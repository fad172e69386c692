/-! machine-free: OFFICE read: phrases, knows, answers, a line -/
section tk
variable {n L : Nat} {T : Nat → Int32} {l : List Nat} {k v p a : Nat} {R M : kD}
theorem q_rdP (h : TK n L T l k v p a R M) (hL : L < 2 ^ 31) (hk : k = 1) (hW : WT M) {nm np : Nat} {O : kD} (hr : RF nm np O (M.1 7) (M.2 9)) : LR n L (p + 2) T O R M (f_X3_readPhrase 940 O R T) (f_X12_readPhrase M) := by
  obtain ⟨⟨⟨c1, c2⟩, ⟨s0, s1, p1, p2, p3⟩, _⟩, _⟩ := id hr
  have hn01 : ¬ nI 1 = nI 0 := by decide
  unfold f_X3_readPhrase f_X12_readPhrase
  simp (disch := omega) only [↓q_m1, q_lit, ↓q_bd, p2, q_lt, q_cl, s1, q_eq]
  by_cases hnp : np < 8
  · rw [if_pos hnp, if_neg (show ¬ np = 8 by omega)]
    obtain ⟨R1, M1, l1, k1, v1, q1, a1, g1, g2, g3, g4, g5, g6⟩ := TK_nn h hL (by omega)
    have g5r := MXr_of g5
    rw [g1, g2]
    simp only [↓q_bo]
    have hr1 : RF nm np O (M1.1 7) (M1.2 9) := by
      rw [g5.2.1 7 (by omega), g5.2.2.1 9 (by omega)]; exact hr
    rcases q_fresh g3 (WT_f hW g5r) hr1 with ⟨e, R2, M2, f1, f2, f3, f4, f5⟩ | ⟨hk1, f1, f2⟩
    · rw [f1, f2]
      simp only [↓q_bo2, ↓reduceIte]
      exact ⟨0, O, R2, M2, by omega, rfl, rfl, MRr_t (MRr_of g6) f4, MXo_r (MXr_t g5r f5), rfl, Or.inl ⟨rfl, e, _, f3⟩⟩
    · have hp1 : p < q1 := g4.2 (by omega) (by omega)
      have hNM := TK_NM g3 hk1
      rw [f1, nI_add, f2 (20 + np) (by omega)]
      obtain ⟨R2, M2, l2, k2, v2, q2, a2, i1, i2, i3, i4, i5, i6⟩ := TK_nn (TK_g g3 (M' := kL M1 9 (20 + np) (M1.2 0 17)) rfl rfl rfl) hL (by omega)
      simp (disch := omega) only [i1, i2, ↓q_bo, ↓q_bo2, hn01, ↓reduceIte, q_lt, Nat.not_lt_zero, false_or, q_cl, show ¬ 8 ≤ np by omega, ↓q_bd, nI_add, show (kL O 7 np (R1.2 0 7)).1 0 2 = nI np from p2]
      have i5r := MXr_of i5
      have fr2 : MXo M M2 := MXo_t (MXo_r g5r) (MXo_t (MXo_9 M1 (20 + np) (by omega) _) (MXo_r i5r))
      rcases q_puts i3 hL (lo := 1) (hi := 40) (t := 15 + np) (by omega) (by omega) (by omega) with ⟨e, R3, M3, f1, f2, f3, f4, f5⟩ | ⟨hk2, f1, f2, f3, f4, R3, M3, l3, k3, v3, q3, a3, f5, f6, f7, f8, f9, f10, f11, f12⟩
      · rw [f1, f2]
        simp only [↓q_bo2, ↓reduceIte]
        exact ⟨0, _, R3, M3, by omega, rfl, rfl, MRr_t (MRr_of g6) (MRr_t (MRr_of i6) f4), MXo_t fr2 (MXo_r f5), rfl, Or.inl ⟨rfl, e, _, f3⟩⟩
      · rw [f4, f6]
        simp (disch := omega) only [↓q_bo, ↓q_bo2, hn01, ↓reduceIte, q_lt, Nat.not_lt_zero, false_or, q_cl, show ¬ 8 ≤ np by omega, ↓q_bd, nI_add, f3, f5, show (kI (kL O 7 np (R1.2 0 7)) 8 np (nI v2)).1 0 2 = nI np from p2]
        have fr3 : MXo M (kI M3 7 (15 + np) (nI v2)) := MXo_t fr2 (MXo_t (MXo_r f9) (MXo_7 M3 _ _))
        rcases q_puts f7 hL (lo := 0) (hi := 99) (t := 23 + np) (by omega) (by omega) (by omega) with ⟨e, R4, M4, j1, j2, j3, j4, j5⟩ | ⟨hk3, j1, j2, j3, j4, R4, M4, l4, k4, v4, q4, a4, j5, j6, j7, j8, j9, j10, j11, j12⟩
        · rw [j1, j2]
          simp only [↓q_bo2, ↓reduceIte]
          exact ⟨0, _, R4, M4, by omega, rfl, rfl, MRr_t (MRr_of g6) (MRr_t (MRr_of i6) (MRr_t f10 j4)), MXo_t fr3 (MXo_r j5), rfl, Or.inl ⟨rfl, e, _, j3⟩⟩
        · have e7 : M3.1 7 = M.1 7 := ((f9.2.1 7 (by omega)).trans (i5.2.1 7 (by omega))).trans (g5.2.1 7 (by omega))
          have e47 : M4.1 7 = upd (M.1 7) (15 + np) (nI v2) := by
            rw [j9.2.1 7 (by omega)]
            show upd (M3.1 7) (15 + np) (nI v2) = _
            rw [e7]
          have e9 : M4.2 9 = vp_updL (M.2 9) (20 + np) (M1.2 0 17) := by
            rw [j9.2.2.1 9 (by omega)]
            show M3.2 9 = _
            rw [f9.2.2.1 9 (by omega), i5.2.2.1 9 (by omega)]
            show vp_updL (M1.2 9) (20 + np) (M1.2 0 17) = _
            rw [g5.2.2.1 9 (by omega)]
          have e71 : (kI M4 7 (23 + np) (nI v3)).1 7 1 = nI np := by
            show upd (M4.1 7) (23 + np) (nI v3) 1 = _
            rw [up_ne (by omega), e47, up_ne (by omega)]; exact s1
          rw [j4, j6]
          simp (disch := omega) only [↓q_bo, ↓q_bo2, hn01, ↓reduceIte, q_lt, Nat.not_lt_zero, false_or, q_cl, show ¬ 8 ≤ np by omega, ↓q_bd, nI_add, j3, j5, e71, show (kI (kI (kL O 7 np (R1.2 0 7)) 8 np (nI v2)) 9 np (nI v3)).1 0 2 = nI np from p2, show (kI (kI (kI (kL O 7 np (R1.2 0 7)) 8 np (nI v2)) 9 np (nI v3)) 10 np (nI 0)).1 0 2 = nI np from p2]
          refine ⟨1, _, R4, _, by omega, rfl, rfl, MRr_t (MRr_of g6) (MRr_t (MRr_of i6) (MRr_t f10 j10)), MXo_t fr3 (MXo_t (MXo_r j9) (MXo_t (MXo_7 M4 _ _) (MXo_7 _ _ _))), rfl, Or.inr ⟨rfl, nm, np + 1, l4, k4, v4, q4, a4, ?_, TK_g j7 rfl rfl rfl, fun h3 => ?_, ((j11.trans f11).trans (i6 9 (by omega) (by omega) (by omega) (by omega) (by omega))).trans (g6 9 (by omega) (by omega) (by omega) (by omega) (by omega)), ?_⟩⟩
          · show RF nm (np + 1) _ (upd (upd (M4.1 7) (23 + np) (nI v3)) 1 (nI (np + 1))) (M4.2 9)
            rw [e47, e9]
            exact RF_p hr hnp hNM (c := v2) (d := v3) (by omega) (by omega) (by omega) rfl rfl rfl rfl rfl rfl rfl rfl rfl rfl
          · have := j8 h3
            have := f8 (by omega)
            have := i4.2 (by omega) (by omega)
            omega
          · show M4.1 0 15 = _
            exact ((j12.trans f12).trans (i5.1 15 (by omega) (by omega) (by omega) (by omega) (by omega))).trans (g5.1 15 (by omega) (by omega) (by omega) (by omega) (by omega))
  · rw [if_neg hnp, if_pos (show np = 8 by omega)]
    obtain ⟨R', M', h1, h2, h3, h4, h5⟩ := q_bad h 4 (by omega) (by omega)
    rw [h1, h2]
    simp only [↓q_bo2, true_or, not_true_eq_false, ↓reduceIte]
    exact ⟨0, O, R', M', by omega, rfl, rfl, h4, MXo_r h5, rfl, Or.inl ⟨rfl, 4, a, h3⟩⟩
theorem qb_cases (b : Bool) : (b = true ∧ q_b b = nI 1) ∨ (b = false ∧ q_b b = nI 0) := by
  cases b
  · exact Or.inr ⟨rfl, rfl⟩
  · exact Or.inl ⟨rfl, rfl⟩
theorem q_rdK (h : TK n L T l k v p a R M) (hL : L < 2 ^ 31) (hk : k = 1) (hW : WT M) {nm np : Nat} {O : kD} (hr : RF nm np O (M.1 7) (M.2 9)) : LR n L (p + 2) T O R M (f_X3_readKnows 940 O R T) (f_X12_readKnows M) := by
  obtain ⟨⟨⟨c1, c2⟩, ⟨s0, s1, p1, p2, p3⟩, _⟩, hI, hN1, hN2, _⟩ := id hr
  have hn01 : ¬ nI 1 = nI 0 := by decide
  obtain ⟨R1, M1, l1, k1, v1, q1, a1, g1, g2, g3, g4, g5, g6⟩ := TK_nn h hL (by omega)
  have g5r := MXr_of g5
  have e17 : M1.1 7 = M.1 7 := g5.2.1 7 (by omega)
  have e19 : M1.2 9 = M.2 9 := g5.2.2.1 9 (by omega)
  unfold f_X3_readKnows f_X12_readKnows f_X12_takesName
  simp (disch := omega) only [↓q_m1, q_lit, g1, g2, ↓q_bo, p1, p2, q_cl, e17, s0]
  rcases q_needed g3 (WT_f hW g5r) (nA := 6) c1 (by omega) (base := 14) (by omega) (by rw [e19]; exact hN1) with ⟨e, R2, M2, f1, f2, f3, f4, f5⟩ | ⟨hk1, m, hm, f1, f2⟩
  · rw [f1, f2]
    simp only [↓q_bo2, ↓reduceIte]
    exact ⟨0, O, R2, M2, by omega, rfl, rfl, MRr_t (MRr_of g6) f4, MXo_r (MXr_t g5r f5), rfl, Or.inl ⟨rfl, e, _, f3⟩⟩
  · have hp1 : p < q1 := g4.2 (by omega) (by omega)
    obtain ⟨R2, M2, l2, k2, v2, q2, a2, i1, i2, i3, i4, i5, i6⟩ := TK_nn (TK_18 g3 (nI m)) hL (by omega)
    have i5r := MXr_of i5
    have hh15 : M2.1 0 15 = M1.1 0 15 := (i5.1 15 (by omega) (by omega) (by omega) (by omega) (by omega)).trans rfl
    have e218 : M2.1 0 18 = nI m := (i5.1 18 (by omega) (by omega) (by omega) (by omega) (by omega)).trans rfl
    have e27 : M2.1 7 = M.1 7 := (i5.2.1 7 (by omega)).trans e17
    have e29 : M2.2 9 = M.2 9 := (i5.2.2.1 9 (by omega)).trans e19
    have fr2 : MXr M M2 := MXr_t g5r (MXr_t (MXr_18 M1 _) i5r)
    rw [f1, f2]
    simp (disch := omega) only [↓q_bo2, hn01, ↓reduceIte, i1, i2, ↓q_bo, q_neg, ↓q_bd, e218, e27, s1]
    rcases q_needed i3 (WT_f hW fr2) (nA := 8) c2 (by omega) (base := 20) (by omega) (by rw [e29]; exact hN2) with ⟨e, R3, M3, f1, f2, f3, f4, f5⟩ | ⟨hk2, q, hq, f1, f2⟩
    · rw [f1, f2]
      simp only [↓q_bo2, ↓reduceIte]
      exact ⟨0, O, R3, M3, by omega, rfl, rfl, MRr_t (MRr_of g6) (MRr_t (MRr_of i6) f4), MXo_r (MXr_t fr2 f5), rfl, Or.inl ⟨rfl, e, _, f3⟩⟩
    · have hp2 := i4.2 (by omega) (by omega)
      have i3b := TK_18 i3 (nI q)
      obtain ⟨b1, b2⟩ := q_knows hr.1 hm hq
      rw [f1, f2]
      simp (disch := omega) only [↓q_bo2, hn01, ↓reduceIte, ↓q_bo, q_neg, ↓q_bd, b1, nI_add, q_lt, Nat.not_lt_zero, false_or, q_cl, show ¬ 39 ≤ 9 + m by omega, show ¬ 6 ≤ m by omega, show (kI M2 0 18 (nI q)).1 7 = M.1 7 from e27, show (kI M2 0 18 (nI q)).1 0 18 = nI q from rfl, b2]
      rcases qb_cases ((O.1 6 m).toNatClampNeg.testBit q) with ⟨d1, d2⟩ | ⟨d1, d2⟩
      · obtain ⟨R', M', h1, h2, h3, h4, h5⟩ := q_bad i3b 3 (by omega) (by omega)
        rw [d2, if_neg hn01, if_neg hn01, h1, h2]
        simp only [↓q_bo2, true_or, not_true_eq_false, ↓reduceIte]
        exact ⟨0, O, R', M', by omega, rfl, rfl, MRr_t (MRr_of g6) (MRr_t (MRr_of i6) h4), MXo_r (MXr_t fr2 (MXr_t (MXr_18 M2 _) h5)), rfl, Or.inl ⟨rfl, 3, _, h3⟩⟩
      · obtain ⟨w, w1, w2, w3⟩ := RF_k hr hm hq
        rw [d2, if_pos rfl, if_pos rfl, w1, w2]
        obtain ⟨R3, M3, l3, k3, v3, q3, a3, i1, i2, i3, i4, i5, i6b⟩ := TK_nn (TK_g i3b (M' := kI (kI M2 0 18 (nI q)) 7 (9 + m) w) rfl rfl rfl) hL (by omega)
        rw [i1, i2]
        simp only [↓q_bo]
        have fr3 : MXo M M3 := MXo_t (MXo_r fr2) (MXo_t (MXo_r (MXr_18 M2 _)) (MXo_t (MXo_7 _ _ _) (MXo_r (MXr_of i5))))
        refine ⟨1, _, R3, M3, by omega, rfl, rfl, MRr_t (MRr_of g6) (MRr_t (MRr_of i6) (MRr_of i6b)), fr3, rfl, Or.inr ⟨rfl, nm, np, l3, k3, v3, q3, a3, ?_, i3, fun h3 => ?_, ((i6b 9 (by omega) (by omega) (by omega) (by omega) (by omega)).trans (i6 9 (by omega) (by omega) (by omega) (by omega) (by omega))).trans (g6 9 (by omega) (by omega) (by omega) (by omega) (by omega)), ((i5.1 15 (by omega) (by omega) (by omega) (by omega) (by omega)).trans (hh15)).trans (g5.1 15 (by omega) (by omega) (by omega) (by omega) (by omega))⟩⟩
        · rw [i5.2.1 7 (by omega), i5.2.2.1 9 (by omega)]
          show RF nm np (kI O 6 m w) (upd (M2.1 7) (9 + m) w) (M2.2 9)
          rw [e27, e29]; exact w3
        · have := i4.1 h3
          omega
theorem q_rdA (h : TK n L T l k v p a R M) (hL : L < 2 ^ 31) (hk : k = 1) (hW : WT M) {nm np : Nat} {O : kD} (hr : RF nm np O (M.1 7) (M.2 9)) : LR n L (p + 2) T O R M (f_X3_readAnswers 940 O R T) (f_X12_readAnswers M) := by
  obtain ⟨⟨⟨c1, c2⟩, ⟨s0, s1, p1, p2, p3⟩, _, _, _, hAn⟩, hI, hN1, hN2, _⟩ := id hr
  have hn01 : ¬ nI 1 = nI 0 := by decide
  obtain ⟨R1, M1, l1, k1, v1, q1, a1, g1, g2, g3, g4, g5, g6⟩ := TK_nn h hL (by omega)
  have g5r := MXr_of g5
  have e17 : M1.1 7 = M.1 7 := g5.2.1 7 (by omega)
  have e19 : M1.2 9 = M.2 9 := g5.2.2.1 9 (by omega)
  unfold f_X3_readAnswers f_X12_readAnswers f_X12_takesName
  simp (disch := omega) only [↓q_m1, q_lit, g1, g2, ↓q_bo, p1, p2, q_cl, e17, s1]
  rcases q_needed g3 (WT_f hW g5r) (nA := 8) c2 (by omega) (base := 20) (by omega) (by rw [e19]; exact hN2) with ⟨e, R2, M2, f1, f2, f3, f4, f5⟩ | ⟨hk1, m, hm, f1, f2⟩
  · rw [f1, f2]
    simp only [↓q_bo2, ↓reduceIte]
    exact ⟨0, O, R2, M2, by omega, rfl, rfl, MRr_t (MRr_of g6) f4, MXo_r (MXr_t g5r f5), rfl, Or.inl ⟨rfl, e, _, f3⟩⟩
  · have hp1 : p < q1 := g4.2 (by omega) (by omega)
    obtain ⟨R2, M2, l2, k2, v2, q2, a2, i1, i2, i3, i4, i5, i6⟩ := TK_nn (TK_18 g3 (nI m)) hL (by omega)
    have i5r := MXr_of i5
    have hh15 : M2.1 0 15 = M1.1 0 15 := (i5.1 15 (by omega) (by omega) (by omega) (by omega) (by omega)).trans rfl
    have e218 : M2.1 0 18 = nI m := (i5.1 18 (by omega) (by omega) (by omega) (by omega) (by omega)).trans rfl
    have e27 : M2.1 7 = M.1 7 := (i5.2.1 7 (by omega)).trans e17
    have e29 : M2.2 9 = M.2 9 := (i5.2.2.1 9 (by omega)).trans e19
    have fr2 : MXr M M2 := MXr_t g5r (MXr_t (MXr_18 M1 _) i5r)
    rw [f1, f2]
    simp (disch := omega) only [↓q_bo2, hn01, ↓reduceIte, i1, i2, ↓q_bo, q_neg, ↓q_bd, e218, e27, s1]
    rcases q_needed i3 (WT_f hW fr2) (nA := 8) c2 (by omega) (base := 20) (by omega) (by rw [e29]; exact hN2) with ⟨e, R3, M3, f1, f2, f3, f4, f5⟩ | ⟨hk2, q, hq, f1, f2⟩
    · rw [f1, f2]
      simp only [↓q_bo2, ↓reduceIte]
      exact ⟨0, O, R3, M3, by omega, rfl, rfl, MRr_t (MRr_of g6) (MRr_t (MRr_of i6) f4), MXo_r (MXr_t fr2 f5), rfl, Or.inl ⟨rfl, e, _, f3⟩⟩
    · have hp2 := i4.2 (by omega) (by omega)
      have i3b := TK_18 i3 (nI q)
      obtain ⟨x, x1, x2, x3⟩ := hAn q hq
      have b1 := (q_answer (M := kSI M 6 (M.1 7)) (O := O) hr.1 hm hq).1
      have ec : (O.1 10 q).toNatClampNeg = x := by rw [x2]; exact q_cl (by omega)
      rw [ec] at b1
      have b2 : f_X12_bitOf (M.1 7 (31 + q)) (nI m) = q_b (x.testBit m) := by rw [x3]; exact (q_bit x x1 m (by omega)).2
      rw [f1, f2]
      simp (disch := omega) only [↓q_bo2, hn01, ↓reduceIte, ↓q_bo, q_neg, ↓q_bd, b1, nI_add, q_lt, Nat.not_lt_zero, false_or, q_cl, show ¬ 39 ≤ 31 + q by omega, show ¬ 8 ≤ q by omega, show (kI M2 0 18 (nI q)).1 7 = M.1 7 from e27, show (kI M2 0 18 (nI q)).1 0 18 = nI q from rfl, b2]
      rcases qb_cases (x.testBit m) with ⟨d1, d2⟩ | ⟨d1, d2⟩
      · obtain ⟨R', M', h1, h2, h3, h4, h5⟩ := q_bad i3b 3 (by omega) (by omega)
        rw [d2, if_neg hn01, if_neg hn01, h1, h2]
        simp only [↓q_bo2, true_or, not_true_eq_false, ↓reduceIte]
        exact ⟨0, O, R', M', by omega, rfl, rfl, MRr_t (MRr_of g6) (MRr_t (MRr_of i6) h4), MXo_r (MXr_t fr2 (MXr_t (MXr_18 M2 _) h5)), rfl, Or.inl ⟨rfl, 3, _, h3⟩⟩
      · obtain ⟨w, w1, w2, w3⟩ := RF_a hr hm hq
        have e72 : (kI (kI M2 0 18 (nI q)) 7 (31 + q) w).1 7 2 = M.1 7 2 := by
          show upd (M2.1 7) (31 + q) w 2 = _
          rw [up_ne (by omega), e27]
        rw [d2, if_pos rfl, if_pos rfl, w1, w2, e72]
        obtain ⟨R3, M3, l3, k3, v3, q3, a3, i1, i2, i3, i4, i5, i6b⟩ := TK_nn (TK_g i3b (M' := kI (kI (kI M2 0 18 (nI q)) 7 (31 + q) w) 7 2 (M.1 7 2 + nI 1)) rfl rfl rfl) hL (by omega)
        rw [i1, i2]
        simp only [↓q_bo]
        have fr3 : MXo M M3 := MXo_t (MXo_r fr2) (MXo_t (MXo_r (MXr_18 M2 _)) (MXo_t (MXo_7 _ _ _) (MXo_t (MXo_7 _ _ _) (MXo_r (MXr_of i5)))))
        refine ⟨1, _, R3, M3, by omega, rfl, rfl, MRr_t (MRr_of g6) (MRr_t (MRr_of i6) (MRr_of i6b)), fr3, rfl, Or.inr ⟨rfl, nm, np, l3, k3, v3, q3, a3, ?_, i3, fun h3 => ?_, ((i6b 9 (by omega) (by omega) (by omega) (by omega) (by omega)).trans (i6 9 (by omega) (by omega) (by omega) (by omega) (by omega))).trans (g6 9 (by omega) (by omega) (by omega) (by omega) (by omega)), ((i5.1 15 (by omega) (by omega) (by omega) (by omega) (by omega)).trans (hh15)).trans (g5.1 15 (by omega) (by omega) (by omega) (by omega) (by omega))⟩⟩
        · rw [i5.2.1 7 (by omega), i5.2.2.1 9 (by omega)]
          show RF nm np (kI (kI O 10 q w) 0 3 (O.1 0 3 + nI 1)) (upd (upd (M2.1 7) (31 + q) w) 2 (M.1 7 2 + nI 1)) (M2.2 9)
          rw [e27, e29]; exact w3
        · have := i4.1 h3
          omega
end tk
