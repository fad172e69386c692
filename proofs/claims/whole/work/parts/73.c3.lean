/-! machine-free: SENTENCE: leaves -/
def tw (k : Nat) (l : List Nat) : Nat := if k = 1 then wordIx l else 0
theorem tw_lt (k : Nat) (l : List Nat) : tw k l < 22 := by
  unfold tw
  have := wordIx_lt l
  split <;> omega
section tk
variable {n L : Nat} {T : Nat → Int32} {l : List Nat} {k v p a : Nat} {R M : kD}
theorem TKw (h : TK n L T l k v p a R M) {w N : Nat} (h1 : 1 ≤ w) (hw : w < 22) (hN : encR (wB w) = N) : f_X4_seesWord (nI w) 940 R T = some (nI (if tw k l = w then 1 else 0)) ∧ f_X12_isWord (lN N) M = nI (if tw k l = w then 1 else 0) := by
  obtain ⟨c, hc1, h2, h3, h4⟩ := q_isW h h1 hw hN
  have : c = if tw k l = w then 1 else 0 := by
    unfold tw
    by_cases hk : k = 1
    · rw [if_pos hk]
      by_cases hl : wordIx l = w
      · rw [if_pos hl]; exact h4.mpr ⟨hk, (wordIx_eq h1 hw).mp hl⟩
      · rw [if_neg hl]
        by_cases hc : c = 1
        · exact absurd ((wordIx_eq h1 hw).mpr (h4.mp hc).2) hl
        · omega
    · rw [if_neg hk, if_neg (by omega)]
      by_cases hc : c = 1
      · exact absurd (h4.mp hc).1 hk
      · omega
  rw [h2, h3, this]
  exact ⟨rfl, rfl⟩
theorem TKs (h : TK n L T l k v p a R M) {s : Nat} (hs : s = 59 ∨ s = 40 ∨ s = 41 ∨ s = 60 ∨ s = 61 ∨ s = 62) : f_X4_seesSign (nI s) 940 R T = nI (if k = 3 ∧ v = s then 1 else 0) ∧ f_X12_isSign (nI s) M = nI (if k = 3 ∧ v = s then 1 else 0) := by
  obtain ⟨c, hc1, h2, h3, h4⟩ := q_isSn h hs
  have : c = if k = 3 ∧ v = s then 1 else 0 := by
    by_cases hk : k = 3 ∧ v = s
    · rw [if_pos hk]; exact h4.mpr hk
    · rw [if_neg hk]
      by_cases hc : c = 1
      · exact absurd (h4.mp hc) hk
      · omega
  rw [h2, h3, this]
  exact ⟨rfl, rfl⟩
theorem leaf_ix : ∀ x, x < 22 → (if nI (if x = 14 then 1 else 0) = nI 0 then if nI (if x = 15 then 1 else 0) = nI 0 then if nI (if x = 16 then 1 else 0) = nI 0 then if nI (if x = 17 then 1 else 0) = nI 0 then if nI (if x = 18 then 1 else 0) = nI 0 then if nI (if x = 19 then 1 else 0) = nI 0 then if nI (if x = 20 then 1 else 0) = nI 0 then if nI (if x = 21 then 1 else 0) = nI 0 then mI else nI 7 else nI 6 else nI 5 else nI 4 else nI 3 else nI 2 else nI 1 else nI 0) = if 14 ≤ x then nI (x - 14) else mI := by decide +kernel
theorem TKl (h : TK n L T l k v p a R M) : f_X12_leafOf M = if 14 ≤ tw k l then nI (tw k l - 14) else mI := by
  unfold f_X12_leafOf
  simp only [↓q_m1, q_lit, q_litL]
  rw [(TKw h (w := 14) (N := 1751477348) (by omega) (by omega) (by decide +kernel)).2, (TKw h (w := 15) (N := 119165820433268) (by omega) (by omega) (by decide +kernel)).2, (TKw h (w := 16) (N := 1836414053) (by omega) (by omega) (by decide +kernel)).2, (TKw h (w := 17) (N := 1633840229) (by omega) (by omega) (by decide +kernel)).2, (TKw h (w := 18) (N := 1870095731) (by omega) (by omega) (by decide +kernel)).2, (TKw h (w := 19) (N := 6909547) (by omega) (by omega) (by decide +kernel)).2, (TKw h (w := 20) (N := 513021015141) (by omega) (by omega) (by decide +kernel)).2, (TKw h (w := 21) (N := 121450625394034) (by omega) (by omega) (by decide +kernel)).2]
  exact leaf_ix _ (tw_lt k l)
/-- a leaf read: both sides' answers -/
def LF (n L nm np c e d b δ : Nat) (T : Nat → Int32) (R M : kD) (C : Option (Int32 × kD × kD)) (D : Option (Int32 × kD)) : Prop :=
  (∃ N' R' M' ee a, C = some (nI 0, N', R') ∧ D = some (nI 0, M') ∧ BD ee a R' M' ∧ MRr R R' ∧ MXs M M') ∨
  (∃ N' R' M' l k v p a, C = some (nI 1, N', R') ∧ D = some (nI 1, M') ∧ SZ nm np c (e + 1) d b (δ + 1) [] N' M' ∧ M'.1 0 44 = M.1 0 44 ∧ TK n L T l k v p a R' M' ∧ MRr R R' ∧ MXs M M' ∧ M'.1 39 = M.1 39 ∧ R'.1 0 9 = R.1 0 9 ∧ M'.1 0 15 = M.1 0 15)
theorem gd_1 : ¬ ¬ (nI 1 = nI 0 ∨ nI 1 = nI 1) := by decide
theorem q_plain (h : TK n L T l k v p a R M) {nm np c e d b δ w : Nat} {N : kD} (hz : SZ nm np c e d b δ [] N M) (he : e + 1 ≤ 2 * c) (hδ : δ + 1 ≤ c) (hw : 14 ≤ w ∧ w ≤ 16) :
    LF n L nm np c e d b δ T R M (bo2 (f_X8_keepWord (nI w) (nI 0) (nI 0) N) fun v15 Nv16 => if ¬ (v15 = nI 0 ∨ v15 = nI 1) then none else some (v15, Nv16, R)) (bo (f_X12_code (nI (w - 14)) (nI 0) (nI 0) M) fun M46 => some (nI 1, M46)) := by
  have hc := hz.2.1.1
  have e1 : N.1 0 1 = nI e := hz.1.2.2
  have ecw : cW w = w - 14 := by
    unfold cW
    rw [if_neg (by omega), if_neg (by omega), if_neg (by omega)]
  obtain ⟨h40, hz2⟩ := SZ_leaf (s := nI 0) (v := nI 0) hz (show 14 ≤ w ∧ w ≤ 21 by omega) ⟨w, by omega, by omega, rfl, rfl, rfl, rfl, fun h9 => by omega, fun h9 => by omega, fun h9 => by omega⟩ he hδ
  rw [ecw] at hz2
  rw [q_kpN e1 (by omega) (by omega), q_bo2, if_neg gd_1, q_cdM h40 (by omega), q_bo]
  exact Or.inr ⟨_, R, _, l, k, v, p, a, rfl, rfl, hz2, rfl, TK_p h (cdM_p _ _ _ _ _), MRr_r R, MXs_p (cdM_p _ _ _ _ _), rfl, rfl, rfl⟩
theorem q_named (h : TK n L T l k v p a R M) (hL : L < 2 ^ 31) (hW : WT M) {nm np c e d b δ w cnt nA base : Nat} {N : kD} {A : Nat → Int64} (hcn : cnt ≤ nA) (hn : nA ≤ 8) (hb : base + cnt ≤ 28) (hN : NR cnt base A (M.2 9)) (hz : SZ nm np c e d b δ [] N M) (he : e + 1 ≤ 2 * c) (hδ : δ + 1 ≤ c) (hw : (w = 17 ∧ cnt = np) ∨ (w = 18 ∧ cnt = nm)) :
    LF n L nm np c e d b δ T R M (bo3 (f_X8_readNamed (nI w) (nI cnt) nA 940 N R A T) fun v28 Nv29 Rv30 => if ¬ (v28 = nI 0 ∨ v28 = nI 1) then none else some (v28, Nv29, Rv30)) (bo2 (f_X12_looksAt (nI base) (nI cnt) M) fun v42 M41 => g_X12_operand_181 (nI (w - 14)) v42 M41) := by
  have hc := hz.2.1.1
  have e1 : N.1 0 1 = nI e := hz.1.2.2
  have ecw : cW w = w - 14 := by
    unfold cW
    rw [if_neg (by omega), if_neg (by omega), if_neg (by omega)]
  unfold f_X8_readNamed g_X12_operand_181
  simp only [↓q_m1, q_lit]
  rcases q_needed h hW hcn hn hb hN with ⟨ee, R', M', g1, g2, g3, g4, g5⟩ | ⟨hk, i, hi, g1, g2⟩
  · rw [g1, g2, q_bo2, q_bo2, if_pos rfl, if_pos rfl, q_bo3, if_neg (by decide)]
    exact Or.inl ⟨N, R', M', ee, a, rfl, rfl, g3, g4, MXs_r' g5⟩
  · have hz1 : SZ nm np c e d b δ [] N (kI M 0 18 (nI i)) := SZ_r hz (MXr_18 M (nI i))
    have hse : SE nm np (nI w) (nI 0) (nI i) (nI (cW w)) (nI 0) (nI i) := by
      refine ⟨w, by omega, by omega, rfl, rfl, rfl, rfl, fun h9 => ⟨i, by omega, rfl⟩, fun h9 => ⟨i, by omega, rfl⟩, fun h9 => by omega⟩
    obtain ⟨h40, hz2⟩ := SZ_leaf (s := nI 0) (v := nI i) hz1 (show 14 ≤ w ∧ w ≤ 21 by omega) hse he hδ
    rw [ecw] at hz2
    have hTK := TK_p (TK_18 h (nI i)) (cdM_p (kI M 0 18 (nI i)) e (nI (w - 14)) (nI 0) (nI i))
    obtain ⟨R2, _, _, _, _, _, _, c1, _⟩ := TK_nx h hL (by omega)
    obtain ⟨R3, M3, l3, k3, v3, p3, a3, d1, d2, d3, d4, d5, d6⟩ := TK_nx hTK hL (by omega)
    have d7 : MRn R R3 ∧ MXn (cdM (kI M 0 18 (nI i)) e (nI (w - 14)) (nI 0) (nI i)) M3 := by
      obtain ⟨b0, b1, b2, b3, b4, b5, b6, b7, b8, b9, bK⟩ := hTK
      obtain ⟨b81, b82, b83⟩ := b8 (by omega)
      obtain ⟨R4, M4, l4, k4, v4, p4, a4, x1, x2, x3, x4, x5, x6⟩ := q_next b4 hL b0 b1 b2 b3 b82 b83 b81
      have y1 : R4 = R3 := Option.some.inj (x1.symm.trans d1)
      have y2 : M4 = M3 := Option.some.inj (x2.symm.trans d2)
      subst y1; subst y2
      exact ⟨x6, x5⟩
    have e18 : (kI M 0 18 (nI i)).1 0 18 = nI i := rfl
    rw [g1, g2, q_bo2, q_bo2, if_neg (by rw [q_neg i (by omega)]; exact id), if_neg (show ¬ nI 1 = nI 0 by decide), d1, q_bo, q_kpN e1 (by omega) (by omega), q_bo2, if_neg gd_1, q_bo3, if_neg gd_1, e18, q_cdM h40 (by omega), q_bo, d2, q_bo]
    refine Or.inr ⟨_, R3, M3, l3, k3, v3, p3, a3, rfl, rfl, SZ_r hz2 d5, ?_, d3, d6, MXs_t (MXs_r' (MXr_18 M (nI i))) (MXs_t (MXs_p (cdM_p _ _ _ _ _)) (MXs_r' d5)), ?_, d7.1 9 (by omega) (by omega) (by omega) (by omega) (by omega), ?_⟩
    · rw [d5.1 44 (by omega) (by omega) (by omega) (by omega) (by omega) (by omega) (by omega) (by omega)]; rfl
    · rw [d5.2.1 39 (by omega)]; rfl
    · rw [d7.2.1 15 (by omega) (by omega) (by omega) (by omega) (by omega)]; rfl
/-- next, with both frames -/
theorem TK_nn2 (h : TK n L T l k v p a R M) (hL : L < 2 ^ 31) (hk : k ≤ 3) : ∃ R' M' l' k' v' p' a', f_X4_advance 940 R T = some R' ∧ f_X12_next M = some M' ∧ TK n L T l' k' v' p' a' R' M' ∧ MXn M M' ∧ MRn R R' := by
  obtain ⟨b0, b1, b2, b3, b4, b5, b6, b7, b8, b9, bK⟩ := h
  obtain ⟨b81, b82, b83⟩ := b8 (by omega)
  obtain ⟨R4, M4, l4, k4, v4, p4, a4, x1, x2, x3, x4, x5, x6⟩ := q_next b4 hL b0 b1 b2 b3 b82 b83 b81
  exact ⟨R4, M4, l4, k4, v4, p4, a4, x1, x2, x3, x5, x6⟩
theorem q_comp (h : TK n L T l k v p a R M) (hL : L < 2 ^ 31) {nm np c e d b δ w : Nat} {N : kD} (hz : SZ nm np c e d b δ [] N M) (he : e + 1 ≤ 2 * c) (hδ : δ + 1 ≤ c) (hw : 19 ≤ w ∧ w ≤ 21) :
    LF n L nm np c e d b δ T R M (bo3 (f_X8_readComparison (nI w) 940 N R T) fun v6 Nv7 Rv8 => if ¬ (v6 = nI 0 ∨ v6 = nI 1) then none else some (v6, Nv7, Rv8)) (if (M.1 0 11) = nI 3 then
  if (M.1 0 14) < nI 60 then
  g_X12_operand_232  M
  else
  if (M.1 0 14) ≤ nI 62 then
  bo (f_X12_next M) fun M24 =>
  if (M24.1 0 11) = nI 2 then
  bo (f_X12_code (nI (w - 14)) (M.1 0 14) (M24.1 0 14) M24) fun M26 =>
  bo (f_X12_next M26) fun M28 =>
  some (nI 1, M28)
  else
  bo2 (f_X12_bad (nI 1) M24) fun v31 M30 =>
  if ¬ (v31 = nI 0 ∨ v31 = nI 1) then none else
  some (v31, M30)
  else
  g_X12_operand_232  M
  else
  g_X12_operand_232  M) := by
  have hn01 : ¬ nI 1 = nI 0 := by decide
  have hc := hz.2.1.1
  have e1 : N.1 0 1 = nI e := hz.1.2.2
  have ecw : cW w = w - 14 := by
    unfold cW
    rw [if_neg (by omega), if_neg (by omega), if_neg (by omega)]
  have s60 := (TKs h (s := 60) (by omega)).1
  have s61 := (TKs h (s := 61) (by omega)).1
  have s62 := (TKs h (s := 62) (by omega)).1
  have hbad : ∀ D, D = g_X12_operand_232 M → ¬ (k = 3 ∧ 60 ≤ v ∧ v ≤ 62) → LF n L nm np c e d b δ T R M (bo3 (f_X8_readComparison (nI w) 940 N R T) fun v6 Nv7 Rv8 => if ¬ (v6 = nI 0 ∨ v6 = nI 1) then none else some (v6, Nv7, Rv8)) D := by
    intro D hD hkv
    obtain ⟨R', M', g1, g2, g3, g4, g5⟩ := q_bad h 1 (by omega) (by omega)
    unfold f_X8_readComparison
    simp only [↓q_m1, q_lit]
    rw [s60, s61, s62, if_neg (show ¬ (k = 3 ∧ v = 60) by omega), if_neg (show ¬ (k = 3 ∧ v = 61) by omega), if_neg (show ¬ (k = 3 ∧ v = 62) by omega), if_pos rfl, if_pos rfl, if_pos rfl, g1, q_bo2, if_neg (by decide), q_bo3, if_neg (by decide), hD]
    unfold g_X12_operand_232
    simp only [↓q_m1, q_lit]
    rw [g2, q_bo2, if_neg (by decide)]
    exact Or.inl ⟨N, R', M', 1, a, rfl, rfl, g3, g4, MXs_r' g5⟩
  by_cases hkv : k = 3 ∧ 60 ≤ v ∧ v ≤ 62
  · obtain ⟨hk, hv1, hv2⟩ := hkv
    have hsg : R.1 0 8 = nI v ∧ M.1 0 14 = nI v ∧ M.1 0 11 = nI 3 := by
      obtain ⟨_, _, _, _, _, _, _, _, _, _, bK⟩ := h
      rcases bK with h9 | h9 | h9 | h9 | h9
      · omega
      · omega
      · omega
      · exact ⟨h9.2.2.2.1, h9.2.2.2.2.1, h9.2.2.1⟩
      · omega
    have hC : f_X8_readComparison (nI w) 940 N R T = g_X8_readComparison_33 940 T (nI w) N R := by
      unfold f_X8_readComparison
      simp only [↓q_m1, q_lit]
      rw [s60, s61, s62]
      by_cases h60 : v = 60
      · rw [if_pos (show k = 3 ∧ v = 60 from ⟨hk, h60⟩), if_neg hn01]
      · rw [if_neg (show ¬ (k = 3 ∧ v = 60) by omega), if_pos rfl]
        by_cases h61 : v = 61
        · rw [if_pos (show k = 3 ∧ v = 61 from ⟨hk, h61⟩), if_neg hn01]
        · rw [if_neg (show ¬ (k = 3 ∧ v = 61) by omega), if_pos rfl, if_pos (show k = 3 ∧ v = 62 by omega), if_neg hn01]
    rw [hC, hsg.2.1, if_pos hsg.2.2, if_neg (by rw [q_lt (by omega) (by omega)]; omega), if_pos (by rw [q_le (by omega) (by omega)]; omega)]
    unfold g_X8_readComparison_33
    obtain ⟨R1, M1, l1, k1, v1, p1, a1, x1, x2, x3, x4, x5⟩ := TK_nn2 h hL (by omega)
    simp only [↓q_m1, q_lit, ↓q_bd]
    rw [hsg.1, x1, x2, q_bo, q_bo]
    have f39 : M1.1 39 = M.1 39 := x4.2.1 39 (by omega)
    have f44 : M1.1 0 44 = M.1 0 44 := x4.1 44 (by omega) (by omega) (by omega) (by omega) (by omega)
    by_cases hk2 : k1 = 2
    · have hnum : R1.1 0 8 = nI v1 ∧ M1.1 0 14 = nI v1 ∧ M1.1 0 11 = nI 2 ∧ R1.1 0 4 = nI 3 ∧ v1 < 1000 := by
        obtain ⟨_, _, _, _, _, _, _, _, _, _, bK⟩ := x3
        rcases bK with h9 | h9 | h9 | h9 | h9
        · omega
        · omega
        · exact ⟨h9.2.2.2.1, h9.2.2.2.2.1, h9.2.2.1, h9.2.1, h9.2.2.2.2.2⟩
        · omega
        · omega
      obtain ⟨u1, u2, u3, u4, u5⟩ := hnum
      have hnn : f_X4_needsNumber (nI 0) (nI 999) 940 R1 T = some (nI 1, R1) := by
        unfold f_X4_needsNumber
        simp (disch := omega) only [↓q_m1, q_lit, u4, ↓reduceIte, u1, q_lt, Nat.not_lt_zero, q_le, show v1 ≤ 999 by omega]
      have hz1 : SZ nm np c e d b δ [] N M1 := SZ_r hz (MXr_of x4)
      have hse : SE nm np (nI w) (nI v) (nI v1) (nI (cW w)) (nI v) (nI v1) := by
        refine ⟨w, by omega, by omega, rfl, rfl, rfl, rfl, fun h9 => by omega, fun h9 => by omega, fun _ => ⟨?_, v1, by omega, rfl⟩⟩
        have : v = 60 ∨ v = 61 ∨ v = 62 := by omega
        rcases this with rfl | rfl | rfl
        · exact Or.inl rfl
        · exact Or.inr (Or.inl rfl)
        · exact Or.inr (Or.inr rfl)
      obtain ⟨h40, hz2⟩ := SZ_leaf hz1 (show 14 ≤ w ∧ w ≤ 21 by omega) hse he hδ
      rw [ecw] at hz2
      obtain ⟨R3, M3, l3, k3, v3, p3, a3, d1, d2, d3, d4, d5⟩ := TK_nn2 (TK_p x3 (cdM_p M1 e (nI (w - 14)) (nI v) (nI v1))) hL (by omega)
      rw [hnn, q_bo2, if_neg hn01, u1, d1, q_bo, q_kpN e1 (by omega) (by omega), q_bo2, if_neg gd_1, q_bo3, if_neg gd_1, u2, if_pos u3, q_cdM h40 (by omega), q_bo, d2, q_bo]
      refine Or.inr ⟨_, R3, M3, l3, k3, v3, p3, a3, rfl, rfl, SZ_r hz2 (MXr_of d4), ?_, d3, MRr_t (MRr_of x5) (MRr_of d5), MXs_t (MXs_r' (MXr_of x4)) (MXs_t (MXs_p (cdM_p _ _ _ _ _)) (MXs_r' (MXr_of d4))), ?_, ?_, ?_⟩
      · rw [d4.1 44 (by omega) (by omega) (by omega) (by omega) (by omega)]; exact f44
      · rw [d4.2.1 39 (by omega)]; exact f39
      · rw [d5 9 (by omega) (by omega) (by omega) (by omega) (by omega)]
        exact x5 9 (by omega) (by omega) (by omega) (by omega) (by omega)
      · rw [d4.1 15 (by omega) (by omega) (by omega) (by omega) (by omega)]
        exact x4.1 15 (by omega) (by omega) (by omega) (by omega) (by omega)
    · have hno : ¬ R1.1 0 4 = nI 3 ∧ ¬ M1.1 0 11 = nI 2 := by
        obtain ⟨_, _, _, _, _, _, _, _, _, _, bK⟩ := x3
        rcases bK with ⟨k0, y1, y2⟩ | ⟨k0, y1, y2, _⟩ | ⟨k0, y1, y2, _⟩ | ⟨k0, y1, y2, _⟩ | ⟨k0, y1, y2⟩
        · rw [y1, y2]; exact ⟨by decide, by decide⟩
        · rw [y1, y2]; exact ⟨by decide, by decide⟩
        · omega
        · rw [y1, y2]; exact ⟨by decide, by decide⟩
        · rw [y2]
          refine ⟨?_, by decide⟩
          rcases y1 with y1 | ⟨y1, _⟩
          · rw [y1]; decide
          · rw [y1]; decide
      obtain ⟨R', M', g1, g2, g3, g4, g5⟩ := q_bad x3 1 (by omega) (by omega)
      have hnn : f_X4_needsNumber (nI 0) (nI 999) 940 R1 T = some (nI 0, R') := by
        unfold f_X4_needsNumber
        simp only [↓q_m1, q_lit]
        rw [if_neg hno.1, g1, q_bo2, if_neg (by decide)]
      rw [hnn, q_bo2, if_pos rfl, q_bo3, if_neg (by decide), if_neg hno.2, g2, q_bo2, if_neg (by decide)]
      exact Or.inl ⟨N, R', M', 1, a1, rfl, rfl, g3, MRr_t (MRr_of x5) g4, MXs_t (MXs_r' (MXr_of x4)) (MXs_r' g5)⟩
  · refine hbad _ ?_ hkv
    obtain ⟨_, _, _, _, _, _, _, _, _, _, bK⟩ := h
    rcases bK with ⟨k0, y1, y2⟩ | ⟨k0, y1, y2, _⟩ | ⟨k0, y1, y2, _⟩ | ⟨k0, y1, y2, y3, y4, y5⟩ | ⟨k0, y1, y2⟩
    · rw [if_neg (by rw [y2]; decide)]
    · rw [if_neg (by rw [y2]; decide)]
    · rw [if_neg (by rw [y2]; decide)]
    · rw [if_pos y2, y4]
      have hv62 : v ≤ 62 := by unfold isSg at y5; omega
      rw [if_pos (by rw [q_lt (by omega) (by omega)]; omega)]
    · rw [if_neg (by rw [y2]; decide)]
end tk
