/-! machine-free: SENTENCE: ONE -/
theorem kBeg_ix : ∀ x, x < 22 → kBeg (nI x) = if 13 ≤ x then nI 1 else nI 0 := by decide +kernel
theorem SZ_c {nm np c e d k δ : Nat} {N M : kD} (h : SZ nm np c e d k δ [] N M) (hc : c < 20) : SZ nm np (c + 1) e d k δ [] (kI N 0 0 (nI (c + 1))) (kI M 0 41 (nI (c + 1))) := by
  obtain ⟨⟨n0, m41, n1⟩, ⟨c1, c2, c3, c4⟩, ⟨er, her, m40, hse, hpq⟩, hm, hdp⟩ := h
  exact ⟨⟨rfl, rfl, n1⟩, ⟨hc, by omega, by omega, by omega⟩, ⟨er, her, m40, hse, trivial⟩, hm, hdp⟩
/-- a mark is laid: not, or a bracket -/
theorem SZ_push {nm np c e d k δ : Nat} {N M : kD} (h : SZ nm np c e d k δ [] N M) (x : Nat) (hk : k + 1 ≤ 2 * c) : SZ nm np c e (d + 1) (k + 1) δ [] N (kI (kI (kI M 39 k (nI x)) 0 42 (nI (k + 1))) 0 43 (nI (d + 1))) := by
  obtain ⟨hn, ⟨c1, c2, c3, c4⟩, ⟨er, her, m40, hse, hpq⟩, hm, hdp⟩ := h
  exact ⟨hn, ⟨c1, c2, hk, c4⟩, ⟨er, her, m40, hse, trivial⟩, ⟨rfl, rfl⟩, hdp⟩
theorem q_103 {M : kD} {k d x : Nat} (hk : k < 45) (m42 : M.1 0 42 = nI k) (m43 : M.1 0 43 = nI d) : g_X12_operand_103 (nI k) (nI x) M = some (nI 1, kI (kI (kI M 39 k (nI x)) 0 42 (nI (k + 1))) 0 43 (nI (d + 1))) := by
  unfold g_X12_operand_103
  simp (disch := omega) only [↓q_m1, q_lit, ↓q_bd, q_lt, Nat.not_lt_zero, false_or, q_cl, show ¬ 45 ≤ k by omega, ↓reduceIte, q_kI, q_up, Nat.reduceEqDiff, m42, m43, nI_add]
/-- what a bracket's end finds -/
theorem q_behE {n L : Nat} {T : Nat → Int32} {l : List Nat} {kk v p a : Nat} {R M : kD} (h : TK n L T l kk v p a R M) {nm np c e d k δ : Nat} {Q : List Nat} {N : kD} (hz : SZ nm np c e d k δ Q N M) (hQ : LQ 2 Q) (hb : BT 2 k M) (ha : tw kk l ≠ 12) (ho : tw kk l ≠ 11) :
    ∃ M', f_X12_behind M = (if nI (if kk = 3 ∧ v = 41 then 1 else 0) = nI 0 then g_X12_behind_114 M' else if nI k = nI 0 then g_X12_behind_114 M' else bd1 (kI M' 0 42 (nI k - nI 1)) fun M19 => bd1 (kI M19 0 43 (nI d - nI 1)) fun M20 => bo (f_X12_next M20) fun M21 => some (nI 1, M21)) ∧ MXp M M' ∧ SZ nm np c e d k δ [] N M' := by
  obtain ⟨Ma, M', a1, a2, a3, a4, a5⟩ := q_flush (t := 2) (Or.inr rfl) hz hQ hb
  refine ⟨M', ?_, a4, a5⟩
  have wa := (TKw (TK_p h a3) (w := 12) (N := 6385252) (by omega) (by omega) (by decide +kernel)).2
  have wo := (TKw (TK_p h a3) (w := 11) (N := 28530) (by omega) (by omega) (by decide +kernel)).2
  have ws := (TKs (TK_p h a4) (s := 41) (by omega)).2
  have m42 : M'.1 0 42 = nI k := a5.2.2.2.1.1
  have m43 : M'.1 0 43 = nI d := a5.2.2.2.1.2
  unfold f_X12_behind
  simp only [↓q_m1, q_lit, q_litL]
  rw [a1, q_bo, wa, wo, if_neg ha, if_neg ho, if_pos rfl, if_pos rfl, show (nI 22 : Int32) = nI (20 + 2) from rfl, a2, q_bo, ws, m42]
  simp only [q_kI, q_up, ↓reduceIte, Nat.reduceEqDiff, m43, ↓q_bd]
/-- the marks lie below: they come off -/
theorem SZ_close {nm np c e d k δ : Nat} {N M : kD} (h : SZ nm np c e (d + 1) (k + 1) δ [] N M) : SZ nm np c e d k δ [] N (kI (kI M 0 42 (nI k)) 0 43 (nI d)) := by
  obtain ⟨hn, ⟨c1, c2, c3, c4⟩, ⟨er, her, m40, hse, hpq⟩, hm, hdp⟩ := h
  have c3' : k + 1 + 0 ≤ 2 * c := c3
  exact ⟨hn, ⟨c1, c2, by show k + 0 ≤ 2 * c; omega, c4⟩, ⟨er, her, m40, hse, trivial⟩, ⟨rfl, rfl⟩, hdp⟩
theorem q_readOne {n L nm np d : Nat} {T : Nat → Int32} {O : kD} {fC fO : Int32 → Nat → kD → kD → kD → (Nat → Int32) → Option (Int32 × kD × kD)} (hL : L < 2 ^ 31) (hd : d ≤ 20) (hC : d ≤ 8 → IT n L nm np (d + 1) 2 T O fC) (hO : d ≤ 8 → IT n L nm np (d + 1) 0 T O fO) : IT n L nm np d 0 T O (F_X8_readOne fC fO) := by
  intro f c e k δ l kk v p a N R M h hS hz h44 hf _
  have hz0 := hz
  obtain ⟨⟨n0, m41, n1⟩, ⟨c1, c2, c3, c4⟩, _, ⟨m42, m43⟩, _⟩ := hz0
  have c3 : k + 0 ≤ 2 * c := c3
  have m42 : M.1 0 42 = nI k := m42
  have m43 : M.1 0 43 = nI d := m43
  obtain ⟨f, rfl⟩ : ∃ q, f = q + 1 := ⟨f - 1, by omega⟩
  have hDs : lpS (f + 1) (nI 1) M = bo2 (f_X12_operand M) fun v11 M10 => if v11 = nI 0 then some (mI - M10.1 0 16, M10) else lpS f (nI 1) M10 := by
    show g_X12_sentence_48 (lpS f) (nI 1) M = _
    exact q_48a h44
  have hx22 := tw_lt kk l
  have hR6 : R.1 0 6 = nI (tw kk l) := h.2.2.2.2.2.2.2.2.2.1
  have hsC := (TKs h (s := 40) (by omega)).1
  have hsM := (TKs h (s := 40) (by omega)).2
  have hnM := (TKw h (w := 13) (N := 7237492) (by omega) (by omega) (by decide +kernel)).2
  have hlM := TKl h
  have hk1 : 13 ≤ tw kk l → kk = 1 := by
    intro h9
    unfold tw at h9
    by_cases h8 : kk = 1
    · exact h8
    · rw [if_neg h8] at h9; omega
  rw [hDs]
  -- refused, both
  have hbad : ∀ ee, 1 ≤ ee → ee ≤ 4 → ∀ C D, (C = bo2 (f_X4_refuse (nI ee) 940 R T) fun v58 Rv59 => if ¬ (v58 = nI 0 ∨ v58 = nI 1) then none else some (v58, N, Rv59)) → (D = bo2 (f_X12_bad (nI ee) M) fun v2 M1 => if ¬ (v2 = nI 0 ∨ v2 = nI 1) then none else some (v2, M1)) → SO n L nm np c e d k δ 0 (f + 1) T R M C (bo2 D fun v11 M10 => if v11 = nI 0 then some (mI - M10.1 0 16, M10) else lpS f (nI 1) M10) := by
    intro ee he1 he4 C D hC9 hD9
    obtain ⟨R', M', g1, g2, g3, g4, g5⟩ := q_bad h ee he1 he4
    rw [hC9, hD9, g1, g2, q_bo2, q_bo2, if_neg (by decide), if_neg (by decide), q_bo2, if_pos rfl]
    refine Or.inl ⟨N, R', M', ee, a, rfl, ?_, g3, g4, MXs_r' g5⟩
    rw [g3.2.2.2.2.2.2]
  by_cases hst : 13 ≤ tw kk l ∨ (kk = 3 ∧ v = 40)
  · -- what begins a ONE
    generalize hsp : (if kk = 3 ∧ v = 40 then 1 else 0) = sp at hsC hsM
    have hsp1 : sp = 0 ∨ sp = 1 := by
      rw [← hsp]; split <;> omega
    have hspx : sp = 0 → 13 ≤ tw kk l := by
      intro h9
      rcases hst with h8 | h8
      · exact h8
      · rw [if_pos h8] at hsp; omega
    have hspy : sp = 1 → kk = 3 ∧ v = 40 ∧ tw kk l = 0 := by
      intro h9
      by_cases h8 : kk = 3 ∧ v = 40
      · refine ⟨h8.1, h8.2, ?_⟩
        unfold tw
        rw [if_neg (by omega)]
      · rw [if_neg h8] at hsp; omega
    have hCg : F_X8_readOne fC fO (nI d) 940 N R O T = g_X8_readOne_33 fC fO 940 O T (nI d) (nI sp) (nI (tw kk l)) N R := by
      unfold F_X8_readOne
      simp (disch := omega) only [↓q_m1, q_lit, ↓q_bd, hsC, hR6, q_lt, Nat.not_lt_zero, false_or, q_cl, show ¬ 22 ≤ tw kk l by omega, ↓reduceIte, kBeg_ix _ hx22]
      rcases hsp1 with rfl | rfl
      · rw [if_pos rfl, if_pos (hspx rfl), if_neg n10]
      · rw [if_neg n10]
    have hDg : f_X12_operand M = g_X12_operand_38 (nI (if tw kk l = 13 then 1 else 0)) (nI sp) (if 14 ≤ tw kk l then nI (tw kk l - 14) else mI) M := by
      unfold f_X12_operand
      simp only [↓q_m1, q_lit, q_litL, ↓q_bd]
      rw [hnM, hsM, hlM]
      rcases hsp1 with rfl | rfl
      · have := hspx rfl
        by_cases h13 : tw kk l = 13
        · rw [if_pos h13, if_neg n10]
        · rw [if_neg h13, if_pos rfl, if_pos rfl, if_pos (show 14 ≤ tw kk l by omega), if_pos (by rw [q_le (by omega) (by omega)]; omega)]
      · have := hspy rfl
        rw [if_neg (show ¬ tw kk l = 13 by omega), if_pos rfl, if_neg n10]
    rw [hCg, hDg]
    by_cases hfull : 20 ≤ c ∨ 8 < d
    · refine hbad 4 (by omega) (by omega) _ _ ?_ ?_
      · unfold g_X8_readOne_33 g_X8_readOne_48
        by_cases h20 : 20 ≤ c
        · simp (disch := omega) only [↓q_m1, q_lit, ↓q_bd, n0, q_le, h20, ↓reduceIte]
        · simp (disch := omega) only [↓q_m1, q_lit, ↓q_bd, n0, q_le, h20, show ¬ d ≤ 8 by omega, ↓reduceIte]
      · unfold g_X12_operand_38 g_X12_operand_56
        by_cases h20 : 20 ≤ c
        · simp (disch := omega) only [↓q_m1, q_lit, ↓q_bd, m41, m43, q_le, q_eq, show c = 20 by omega, ↓reduceIte]
        · simp (disch := omega) only [↓q_m1, q_lit, ↓q_bd, m41, m43, q_le, q_eq, show ¬ c = 20 by omega, show ¬ d ≤ 8 by omega, ↓reduceIte]
    · have hc20 : c < 20 := by omega
      have hd8 : d ≤ 8 := by omega
      have hz1 := SZ_c hz hc20
      have hT1 : TK n L T l kk v p a R (kI M 0 41 (nI (c + 1))) := TK_s h (fun j hj => up_ne (by omega)) rfl rfl
      have hkk3 : kk ≤ 3 := by
        rcases hst with h9 | h9
        · have := hk1 h9; omega
        · omega
      obtain ⟨R1, M1, l1, k1, v1, p1, a1, x1, x2, x3, x4, x5⟩ := TK_nn2 hT1 hL hkk3
      have hz2 : SZ nm np (c + 1) e d k δ [] (kI N 0 0 (nI (c + 1))) M1 := SZ_r hz1 (MXr_of x4)
      have f42 : M1.1 0 42 = nI k := hz2.2.2.2.1.1
      have f43 : M1.1 0 43 = nI d := hz2.2.2.2.1.2
      have f44 : M1.1 0 44 = nI 0 := (x4.1 44 (by omega) (by omega) (by omega) (by omega) (by omega)).trans h44
      have f15 : M1.1 0 15 = M.1 0 15 := (x4.1 15 (by omega) (by omega) (by omega) (by omega) (by omega)).trans rfl
      have f39 : M1.1 39 = M.1 39 := (x4.2.1 39 (by omega)).trans rfl
      have fM1 : MXs M M1 := MXs_t (MXs_0 M 41 _ (by omega)) (MXs_r' (MXr_of x4))
      have fR1 : MRr R R1 := MRr_of x5
      have f9 : R1.1 0 9 = R.1 0 9 := x5 9 (by omega) (by omega) (by omega) (by omega) (by omega)
      have hC2 : g_X8_readOne_33 fC fO 940 O T (nI d) (nI sp) (nI (tw kk l)) N R = (if nI sp = nI 0 then if tw kk l = 13 then bo3 (fO (nI (d + 1)) 940 (kI N 0 0 (nI (c + 1))) R1 O T) fun v34 Nv35 Rv36 => if v34 = nI 0 then some (nI 0, Nv35, Rv36) else bo2 (f_X8_keepWord (nI 13) (nI 0) (nI 0) Nv35) fun v38 Nv39 => if v38 = nI 0 then some (nI 0, Nv39, Rv36) else some (nI 1, Nv39, Rv36) else if tw kk l = 17 then bo3 (f_X8_readNamed (nI (tw kk l)) (O.1 0 2) 8 940 (kI N 0 0 (nI (c + 1))) R1 (O.2 7) T) fun v28 Nv29 Rv30 => if ¬ (v28 = nI 0 ∨ v28 = nI 1) then none else some (v28, Nv29, Rv30) else if tw kk l = 18 then bo3 (f_X8_readNamed (nI (tw kk l)) (O.1 0 1) 6 940 (kI N 0 0 (nI (c + 1))) R1 (O.2 4) T) fun v28 Nv29 Rv30 => if ¬ (v28 = nI 0 ∨ v28 = nI 1) then none else some (v28, Nv29, Rv30) else if tw kk l = 19 then g_X8_readOne_210 fC fO 940 O T (nI (tw kk l)) (kI N 0 0 (nI (c + 1))) R1 else if tw kk l = 20 then g_X8_readOne_210 fC fO 940 O T (nI (tw kk l)) (kI N 0 0 (nI (c + 1))) R1 else if tw kk l = 21 then g_X8_readOne_210 fC fO 940 O T (nI (tw kk l)) (kI N 0 0 (nI (c + 1))) R1 else bo2 (f_X8_keepWord (nI (tw kk l)) (nI 0) (nI 0) (kI N 0 0 (nI (c + 1)))) fun v15 Nv16 => if ¬ (v15 = nI 0 ∨ v15 = nI 1) then none else some (v15, Nv16, R1) else bo3 (fC (nI (d + 1)) 940 (kI N 0 0 (nI (c + 1))) R1 O T) fun v44 Nv45 Rv46 => if v44 = nI 0 then some (nI 0, Nv45, Rv46) else bo2 (f_X4_passSign (nI 41) 940 Rv46 T) fun v48 Rv49 => if v48 = nI 0 then some (nI 0, Nv45, Rv49) else some (nI 1, Nv45, Rv49)) := by
        unfold g_X8_readOne_33
        simp (disch := omega) only [↓q_m1, q_lit, ↓q_bd, n0, q_le, show ¬ 20 ≤ c by omega, hd8, ↓reduceIte, nI_add, x1, ↓q_bo, q_lt, Nat.not_lt_zero, false_or, q_cl, show ¬ 22 ≤ tw kk l by omega, q_eq]
      rw [hC2]
      rcases hsp1 with hsp0 | hsp0
      · -- a word
        have h13 := hspx hsp0
        have hkk1 := hk1 h13
        rw [hsp0, if_pos rfl]
        by_cases hnot : tw kk l = 13
        · -- not
          rw [if_pos hnot, if_pos hnot]
          have hD2 : g_X12_operand_38 (nI 1) (nI 0) (if 14 ≤ tw kk l then nI (tw kk l - 14) else mI) M = some (nI 1, kI (kI (kI M1 39 k (nI 20)) 0 42 (nI (k + 1))) 0 43 (nI (d + 1))) := by
            unfold g_X12_operand_38 g_X12_operand_84
            simp (disch := omega) only [↓q_m1, q_lit, ↓q_bd, m41, m43, q_le, q_eq, show ¬ c = 20 by omega, hd8, ↓reduceIte, nI_add, x2, ↓q_bo, f42, n10, Nat.reduceEqDiff]
            exact q_103 (by omega) f42 f43
          rw [hD2, q_bo2, if_neg n10]
          have hz3 := SZ_push hz2 20 (by omega)
          have hT3 : TK n L T l1 k1 v1 p1 a1 R1 (kI (kI (kI M1 39 k (nI 20)) 0 42 (nI (k + 1))) 0 43 (nI (d + 1))) := TK_s x3 (fun j hj => by
            show upd (upd (M1.1 0) 42 _) 43 _ j = _
            rw [up_ne (by omega), up_ne (by omega)]) rfl rfl
          have fM2 : MXs M1 (kI (kI (kI M1 39 k (nI 20)) 0 42 (nI (k + 1))) 0 43 (nI (d + 1))) := MXs_t (MXs_39 M1 k _) (MXs_t (MXs_0 _ 42 _ (by omega)) (MXs_0 _ 43 _ (by omega)))
          rcases hO hd8 f (c + 1) e (k + 1) δ l1 k1 v1 p1 a1 (kI N 0 0 (nI (c + 1))) R1 _ hT3 (SH_s hS (MXs_t fM1 fM2)) hz3 f44 (by omega) (Or.inl rfl) with ⟨N4, R4, M4, ee, aa, y1, y2, y3, y4, y5⟩ | ⟨N4, R4, M4, f4, c4, e4, Q4, l4, k4, v4, p4, a4, y1, y2, _, y3, y4, y5, y6, y7, y8, y9, y10, y11, y12, y13, y14⟩
          · rw [y1, q_bo3, if_pos rfl, y2]
            exact Or.inl ⟨N4, R4, M4, ee, aa, rfl, rfl, y3, MRr_t fR1 y4, MXs_t fM1 (MXs_t fM2 y5)⟩
          · have hc4 := y6.2.1.1
            have n41 := y6.1.2.2
            have hee := y6.2.1.2.1
            rw [y1, q_bo3, if_neg n10, q_kpN n41 (by omega) (by omega), q_bo2, if_neg n10, y2]
            have f4k : M4.1 39 k = nI 20 := by
              rw [y12 k (by omega)]
              show upd (M1.1 39) k (nI 20) k = _
              rw [up_eq]
            have hsn := SZ_snoc (d := d) (δ' := δ + 1) y6 (show 20 ≤ 20 ∧ 20 ≤ 22 by omega) f4k (by rw [if_pos rfl]) ⟨fun _ => by omega, fun h9 => by omega⟩ (by omega)
            refine Or.inr ⟨_, R4, M4, f4, c4, e4 + 1, Q4 ++ [20], l4, k4, v4, p4, a4, rfl, rfl, ⟨fun h9 => by omega, fun h9 => by omega⟩, by omega, by omega, by omega, hsn, LQ_n y7, y8, y9, MRr_t fR1 y10, MXs_t fM1 (MXs_t fM2 y11), fun i hi => ?_, y13.trans f9, y14.trans f15⟩
            rw [y12 i (by omega)]
            show upd (M1.1 39) k (nI 20) i = _
            rw [up_ne (by omega), f39]
        · -- a leaf
          have h14 : 14 ≤ tw kk l := by omega
          rw [if_neg hnot, if_neg hnot, if_pos h14]
          have hz3 : SZ nm np (c + 1) e d k δ [] (kI N 0 0 (nI (c + 1))) (kI M1 0 44 (nI 1)) := SZ_M hz2 (fun j j1 j2 => up_ne (by omega)) rfl rfl
          have hT3 : TK n L T l1 k1 v1 p1 a1 R1 (kI M1 0 44 (nI 1)) := TK_s x3 (fun j hj => up_ne (by omega)) rfl rfl
          have fM2 : MXs M1 (kI M1 0 44 (nI 1)) := MXs_0 M1 44 _ (by omega)
          have hS3 := SH_s hS (MXs_t fM1 fM2)
          have hO2 : O.1 0 2 = nI np := hS.1.1.2.1.2.2.2.1
          have hO1 : O.1 0 1 = nI nm := hS.1.1.2.1.2.2.1
          have hnp := hS.1.1.1.2
          have hnm := hS.1.1.1.1
          have hNR4 : NR nm 0 (O.2 4) ((kI M1 0 44 (nI 1)).2 9) := hS3.1.2.2.1
          have hNR7 : NR np 6 (O.2 7) ((kI M1 0 44 (nI 1)).2 9) := hS3.1.2.2.2.1
          have e61 : (kI M1 0 44 (nI 1)).1 6 1 = nI np := hS3.1.1.2.1.2.1
          have e60 : (kI M1 0 44 (nI 1)).1 6 0 = nI nm := hS3.1.1.2.1.1
          have hD2 : g_X12_operand_38 (nI 0) (nI 0) (nI (tw kk l - 14)) M = (if 17 ≤ tw kk l then if 19 ≤ tw kk l then (if ((kI M1 0 44 (nI 1)).1 0 11) = nI 3 then if ((kI M1 0 44 (nI 1)).1 0 14) < nI 60 then g_X12_operand_232 (kI M1 0 44 (nI 1)) else if ((kI M1 0 44 (nI 1)).1 0 14) ≤ nI 62 then bo (f_X12_next (kI M1 0 44 (nI 1))) fun M24 => if (M24.1 0 11) = nI 2 then bo (f_X12_code (nI (tw kk l - 14)) ((kI M1 0 44 (nI 1)).1 0 14) (M24.1 0 14) M24) fun M26 => bo (f_X12_next M26) fun M28 => some (nI 1, M28) else bo2 (f_X12_bad (nI 1) M24) fun v31 M30 => if ¬ (v31 = nI 0 ∨ v31 = nI 1) then none else some (v31, M30) else g_X12_operand_232 (kI M1 0 44 (nI 1)) else g_X12_operand_232 (kI M1 0 44 (nI 1))) else if tw kk l = 17 then bo2 (f_X12_looksAt (nI 6) ((kI M1 0 44 (nI 1)).1 6 1) (kI M1 0 44 (nI 1))) fun v42 M41 => g_X12_operand_181 (nI (tw kk l - 14)) v42 M41 else bo2 (f_X12_looksAt (nI 0) ((kI M1 0 44 (nI 1)).1 6 0) (kI M1 0 44 (nI 1))) fun v42 M41 => g_X12_operand_181 (nI (tw kk l - 14)) v42 M41 else bo (f_X12_code (nI (tw kk l - 14)) (nI 0) (nI 0) (kI M1 0 44 (nI 1))) fun M46 => some (nI 1, M46)) := by
            unfold g_X12_operand_38
            simp (disch := omega) only [↓q_m1, q_lit, ↓q_bd, m41, m43, q_le, q_eq, show ¬ c = 20 by omega, hd8, ↓reduceIte, nI_add, x2, ↓q_bo, q_cl, show (3 ≤ tw kk l - 14) = (17 ≤ tw kk l) from propext (by omega), show (5 ≤ tw kk l - 14) = (19 ≤ tw kk l) from propext (by omega), show (tw kk l - 14 = 3) = (tw kk l = 17) from propext (by omega)]
          rw [hD2]
          have hout : ∀ C D, LF n L nm np (c + 1) e d k δ T R1 (kI M1 0 44 (nI 1)) C D → SO n L nm np c e d k δ 0 (f + 1) T R M C (bo2 D fun v11 M10 => if v11 = nI 0 then some (mI - M10.1 0 16, M10) else lpS f (nI 1) M10) := by
            intro C D hlf
            rcases hlf with ⟨N', R', M', ee, a', y1, y2, y3, y4, y5⟩ | ⟨N', R', M', l', k', v', p', a', y1, y2, y3, y4, y5, y6, y7, y8, y9, y10⟩
            · rw [y1, y2, q_bo2, if_pos rfl]
              refine Or.inl ⟨N', R', M', ee, a', rfl, ?_, y3, MRr_t fR1 y4, MXs_t fM1 (MXs_t fM2 y5)⟩
              rw [y3.2.2.2.2.2.2]
            · rw [y1, y2, q_bo2, if_neg n10]
              refine Or.inr ⟨N', R', M', f, c + 1, e + 1, [], l', k', v', p', a', rfl, rfl, ⟨fun h9 => by omega, fun h9 => by omega⟩, by omega, by omega, by omega, y3, LQ_0 0, y4.trans rfl, y5, MRr_t fR1 y6, MXs_t fM1 (MXs_t fM2 y7), fun i hi => ?_, y9.trans f9, y10.trans f15⟩
              rw [y8]
              show M1.1 39 i = _
              rw [f39]
          by_cases h17 : 17 ≤ tw kk l
          · rw [if_pos h17]
            by_cases h19 : 19 ≤ tw kk l
            · rw [if_pos h19, if_neg (show ¬ tw kk l = 17 by omega), if_neg (show ¬ tw kk l = 18 by omega)]
              have hcmp := hout _ _ (q_comp (w := tw kk l) hT3 hL hz3 (by omega) (by omega) ⟨h19, by omega⟩)
              have h210 : g_X8_readOne_210 fC fO 940 O T (nI (tw kk l)) (kI N 0 0 (nI (c + 1))) R1 = bo3 (f_X8_readComparison (nI (tw kk l)) 940 (kI N 0 0 (nI (c + 1))) R1 T) fun v6 Nv7 Rv8 => if ¬ (v6 = nI 0 ∨ v6 = nI 1) then none else some (v6, Nv7, Rv8) := by
                unfold g_X8_readOne_210
                simp only [↓q_m1, q_lit]
              rw [h210]
              have : tw kk l = 19 ∨ tw kk l = 20 ∨ tw kk l = 21 := by omega
              have hite : ∀ (Z W : Option (Int32 × kD × kD)), (if tw kk l = 19 then Z else if tw kk l = 20 then Z else if tw kk l = 21 then Z else W) = Z := by
                intro Z W
                rcases this with h9 | h9 | h9
                · rw [if_pos h9]
                · rw [if_neg (by omega), if_pos h9]
                · rw [if_neg (by omega), if_neg (by omega), if_pos h9]
              rw [hite]
              exact hcmp
            · rw [if_neg h19]
              by_cases h17' : tw kk l = 17
              · rw [if_pos h17', if_pos h17', hO2, e61]
                exact hout _ _ (q_named (w := tw kk l) (base := 6) (cnt := np) (nA := 8) hT3 hL hS3.2 hnp (by omega) (by omega) hNR7 hz3 (by omega) (by omega) (Or.inl ⟨h17', rfl⟩))
              · rw [if_neg h17', if_neg h17', if_pos (show tw kk l = 18 by omega), hO1, e60]
                exact hout _ _ (q_named (w := tw kk l) (base := 0) (cnt := nm) (nA := 6) hT3 hL hS3.2 hnm (by omega) (by omega) hNR4 hz3 (by omega) (by omega) (Or.inr ⟨by omega, rfl⟩))
          · rw [if_neg h17, if_neg (show ¬ tw kk l = 17 by omega), if_neg (show ¬ tw kk l = 18 by omega), if_neg (show ¬ tw kk l = 19 by omega), if_neg (show ¬ tw kk l = 20 by omega), if_neg (show ¬ tw kk l = 21 by omega)]
            exact hout _ _ (q_plain (w := tw kk l) hT3 hz3 (by omega) (by omega) ⟨h14, by omega⟩)
      · -- a bracket
        obtain ⟨hk3, hv40, hx0⟩ := hspy hsp0
        rw [hsp0, if_neg n10, if_neg (show ¬ tw kk l = 13 by omega), if_neg (show ¬ 14 ≤ tw kk l by omega)]
        have hD2 : g_X12_operand_38 (nI 0) (nI 1) mI M = some (nI 1, kI (kI (kI M1 39 k (nI 23)) 0 42 (nI (k + 1))) 0 43 (nI (d + 1))) := by
          unfold g_X12_operand_38 g_X12_operand_84
          simp (disch := omega) only [↓q_m1, q_lit, ↓q_bd, m41, m43, q_le, q_eq, show ¬ c = 20 by omega, hd8, ↓reduceIte, nI_add, x2, ↓q_bo, f42, n10, Nat.reduceEqDiff]
          exact q_103 (by omega) f42 f43
        rw [hD2, q_bo2, if_neg n10]
        have hz3 := SZ_push hz2 23 (by omega)
        have hT3 : TK n L T l1 k1 v1 p1 a1 R1 (kI (kI (kI M1 39 k (nI 23)) 0 42 (nI (k + 1))) 0 43 (nI (d + 1))) := TK_s x3 (fun j hj => by
          show upd (upd (M1.1 0) 42 _) 43 _ j = _
          rw [up_ne (by omega), up_ne (by omega)]) rfl rfl
        have fM2 : MXs M1 (kI (kI (kI M1 39 k (nI 23)) 0 42 (nI (k + 1))) 0 43 (nI (d + 1))) := MXs_t (MXs_39 M1 k _) (MXs_t (MXs_0 _ 42 _ (by omega)) (MXs_0 _ 43 _ (by omega)))
        have g39 : ∀ i, i ≤ k → (kI (kI (kI M1 39 k (nI 23)) 0 42 (nI (k + 1))) 0 43 (nI (d + 1))).1 39 i = if i = k then nI 23 else M.1 39 i := by
          intro i hi
          show upd (M1.1 39) k (nI 23) i = _
          rw [f39]; rfl
        have g44 : (kI (kI (kI M1 39 k (nI 23)) 0 42 (nI (k + 1))) 0 43 (nI (d + 1))).1 0 44 = nI 0 := f44
        have g15 : (kI (kI (kI M1 39 k (nI 23)) 0 42 (nI (k + 1))) 0 43 (nI (d + 1))).1 0 15 = M1.1 0 15 := rfl
        generalize kI (kI (kI M1 39 k (nI 23)) 0 42 (nI (k + 1))) 0 43 (nI (d + 1)) = M3 at hz3 hT3 fM2 g39 g44 g15 ⊢
        have hB3 : BT 2 (k + 1) M3 := Or.inr (Or.inr ⟨23, by omega, by omega, by omega, fun _ => by omega, by rw [Nat.add_sub_cancel, g39 k (Nat.le_refl k), if_pos rfl]⟩)
        have h344 : M3.1 0 44 = nI 0 := g44
        rcases hC hd8 f (c + 1) e (k + 1) δ l1 k1 v1 p1 a1 (kI N 0 0 (nI (c + 1))) R1 M3 hT3 (SH_s hS (MXs_t fM1 fM2)) hz3 h344 (by omega) hB3 with ⟨N4, R4, M4, ee, aa, y1, y2, y3, y4, y5⟩ | ⟨N4, R4, M4, f4, c4, e4, Q4, l4, k4, v4, p4, a4, y1, y2, yte, y3, y4, y5, y6, y7, y8, y9, y10, y11, y12, y13, y14⟩
        · rw [y1, q_bo3, if_pos rfl, y2]
          exact Or.inl ⟨N4, R4, M4, ee, aa, rfl, rfl, y3, MRr_t fR1 y4, MXs_t fM1 (MXs_t fM2 y5)⟩
        · have hc4 := y6.2.1.1
          have hB4 : BT 2 (k + 1) M4 := Or.inr (Or.inr ⟨23, by omega, by omega, by omega, fun _ => by omega, by rw [Nat.add_sub_cancel, y12 k (by omega), g39 k (Nat.le_refl k), if_pos rfl]⟩)
          obtain ⟨f4, rfl⟩ : ∃ q, f4 = q + 1 := ⟨f4 - 1, by omega⟩
          rw [y1, q_bo3, if_neg n10, y2]
          have hs41 := (TKs y9 (s := 41) (by omega)).1
          unfold f_X4_passSign
          simp only [↓q_m1, q_lit]
          rw [hs41]
          by_cases hcl : k4 = 3 ∧ v4 = 41
          · -- the bracket ends
            obtain ⟨M5, b1, b2, b3⟩ := q_behE y9 y6 y7 hB4 (yte.1 (by omega)) (yte.2 (by omega))
            rw [if_pos hcl, if_neg n10] at b1 ⊢
            rw [if_neg (show ¬ nI (k + 1) = nI 0 by rw [q_eq (by omega) (by omega)]; omega), q_sub (by omega), q_sub (by omega), Nat.add_sub_cancel, Nat.add_sub_cancel, q_bd, q_bd] at b1
            have hz5 := SZ_close b3
            have hT5 : TK n L T l4 k4 v4 p4 a4 R4 (kI (kI M5 0 42 (nI k)) 0 43 (nI d)) := TK_s (TK_p y9 b2) (fun j hj => by
              show upd (upd (M5.1 0) 42 _) 43 _ j = _
              rw [up_ne (by omega), up_ne (by omega)]) rfl rfl
            have fM5 : MXs M4 (kI (kI M5 0 42 (nI k)) 0 43 (nI d)) := MXs_t (MXs_p b2) (MXs_t (MXs_0 _ 42 _ (by omega)) (MXs_0 _ 43 _ (by omega)))
            obtain ⟨R6, M6, l6, k6, v6, p6, a6, z1, z2, z3, z4, z5⟩ := TK_nn2 hT5 hL (by omega)
            have hD6 : lpS (f4 + 1) (nI 1) M4 = lpS f4 (nI 1) M6 := by
              show g_X12_sentence_48 (lpS f4) (nI 1) M4 = _
              rw [q_48b y8 (TK_11 y9 (by omega)), b1, z2, q_bo, q_bo2, if_neg n10]
            have e39 : (kI (kI M5 0 42 (nI k)) 0 43 (nI d)).1 39 = M4.1 39 := b2.2.1 39 (by omega) (by omega)
            have e44 : (kI (kI M5 0 42 (nI k)) 0 43 (nI d)).1 0 44 = nI 1 := (b2.1 44 (by omega) (by omega) (by omega)).trans y8
            have e15 : (kI (kI M5 0 42 (nI k)) 0 43 (nI d)).1 0 15 = M4.1 0 15 := b2.1 15 (by omega) (by omega) (by omega)
            rw [hD6, z1, q_bo, q_bo2, if_neg n10]
            refine Or.inr ⟨N4, R6, M6, f4, c4, e4, [], l6, k6, v6, p6, a6, rfl, rfl, ⟨fun h9 => by omega, fun h9 => by omega⟩, by omega, by omega, by omega, SZ_r hz5 (MXr_of z4), LQ_0 0, ?_, z3, MRr_t fR1 (MRr_t y10 (MRr_of z5)), MXs_t fM1 (MXs_t fM2 (MXs_t y11 (MXs_t fM5 (MXs_r' (MXr_of z4))))), fun i hi => ?_, ?_, ?_⟩
            · rw [z4.1 44 (by omega) (by omega) (by omega) (by omega) (by omega)]; exact e44
            · rw [z4.2.1 39 (by omega), e39, y12 i (by omega), g39 i (by omega), if_neg (by omega)]
            · rw [z5 9 (by omega) (by omega) (by omega) (by omega) (by omega)]; exact y13.trans f9
            · rw [z4.1 15 (by omega) (by omega) (by omega) (by omega) (by omega), e15, y14, g15]; exact f15
          · rw [if_neg hcl, if_pos rfl]
            have hfail : ∀ M5, MXp M4 M5 → SF R M (bo2 (bo2 (f_X4_refuse (nI 1) 940 R4 T) fun v4 Rv5 => if ¬ (v4 = nI 0 ∨ v4 = nI 1) then none else some (v4, Rv5)) fun v48 Rv49 => if v48 = nI 0 then some (nI 0, N4, Rv49) else some (nI 1, N4, Rv49)) (bo2 (f_X12_bad (nI 1) M5) fun _ M6 => some (mI - M6.1 0 16, M6)) := by
              intro M5 b2
              obtain ⟨R', M', w1, w2, w3, w4, w5⟩ := q_bad (TK_p y9 b2) 1 (by omega) (by omega)
              rw [w1, w2, q_bo2, q_bo2, if_neg (by decide), q_bo2, if_pos rfl]
              refine ⟨N4, R', M', 1, a4, rfl, ?_, w3, MRr_t fR1 (MRr_t y10 w4), MXs_t fM1 (MXs_t fM2 (MXs_t y11 (MXs_t (MXs_p b2) (MXs_r' w5))))⟩
              rw [w3.2.2.2.2.2.2]
            rcases q_isEnd y9 with ⟨k0, _, e2⟩ | ⟨k0, _, e2⟩
            · -- the end of the text inside a bracket
              obtain ⟨Ma, M5, a1, a2, a3, b2, a5⟩ := q_flush (t := 2) (Or.inr rfl) y6 y7 hB4
              have m542 : M5.1 0 42 = nI (k + 1) := a5.2.2.2.1.1
              have hD6 : lpS (f4 + 1) (nI 1) M4 = bo2 (f_X12_bad (nI 1) M5) fun _ M6 => some (mI - M6.1 0 16, M6) := by
                show g_X12_sentence_48 (lpS f4) (nI 1) M4 = _
                unfold g_X12_sentence_48 g_X12_sentence_83
                simp only [↓q_m1, q_lit]
                rw [if_neg n10, y8, if_neg n10, if_pos e2, a1, q_bo, show (nI 22 : Int32) = nI (20 + 2) from rfl, a2, q_bo, m542, if_neg (show ¬ nI (k + 1) ≤ nI 0 by rw [q_le (by omega) (by omega)]; omega)]
              rw [hD6]
              exact Or.inl (hfail M5 b2)
            · obtain ⟨M5, b1, b2, b3⟩ := q_behE y9 y6 y7 hB4 (yte.1 (by omega)) (yte.2 (by omega))
              rw [if_neg hcl, if_pos rfl] at b1
              have hD6 : lpS (f4 + 1) (nI 1) M4 = bo2 (f_X12_bad (nI 1) M5) fun _ M6 => some (mI - M6.1 0 16, M6) := by
                show g_X12_sentence_48 (lpS f4) (nI 1) M4 = _
                rw [q_48b y8 (TK_11 y9 k0), b1]
                unfold g_X12_behind_114
                simp only [↓q_m1, q_lit]
                obtain ⟨R', M', w1, w2, w3, w4, w5⟩ := q_bad (TK_p y9 b2) 1 (by omega) (by omega)
                rw [w2, q_bo2, q_bo2, if_neg (by decide), q_bo2, if_pos rfl]
              rw [hD6]
              exact Or.inl (hfail M5 b2)
  · refine hbad 1 (by omega) (by omega) _ _ ?_ ?_
    · unfold F_X8_readOne
      simp (disch := omega) only [↓q_m1, q_lit, ↓q_bd, hsC, hR6, q_lt, Nat.not_lt_zero, false_or, q_cl, show ¬ 22 ≤ tw kk l by omega, ↓reduceIte, kBeg_ix _ hx22]
      rw [if_neg (show ¬ (kk = 3 ∧ v = 40) by omega), if_pos rfl, if_neg (show ¬ 13 ≤ tw kk l by omega), if_pos rfl]
    · unfold f_X12_operand
      simp only [↓q_m1, q_lit, q_litL, ↓q_bd]
      rw [hnM, hsM, hlM, if_neg (show ¬ tw kk l = 13 by omega), if_pos rfl, if_neg (show ¬ (kk = 3 ∧ v = 40) by omega), if_pos rfl, if_neg (show ¬ 14 ≤ tw kk l by omega), if_neg (show ¬ nI 0 ≤ mI by decide)]
