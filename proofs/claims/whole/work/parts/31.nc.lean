/-! machine-free: days by draws -/
theorem q_ofT (y : Int32) (t : Nat) (ht : t < 2 ^ 32) (h : y.toBitVec.toNat = t) : y = nI t := by
  refine Int32.toBitVec_inj.mp (BitVec.eq_of_toNat_eq ?_)
  rw [h, pk_tn ht]
theorem q_ush (x : Int32) : ∃ v, v < 2 ^ 24 ∧ kUshr x (nI 8) = nI v := by
  refine ⟨x.toBitVec.toNat / 2 ^ 8, ?_, ?_⟩
  · have := x.toBitVec.isLt
    omega
  · refine q_ofT _ _ ?_ ?_
    · have := x.toBitVec.isLt
      omega
    · exact pk_ushr x (nI 8) 8 (by decide)
def mk (M : kD) (s : Nat → Int32) (x : Int32) : kD := kI (kSI M 6 s) 0 35 x
theorem mk_6 (M : kD) (s : Nat → Int32) (x : Int32) : (mk M s x).1 6 = s := rfl
theorem mk_35 (M : kD) (s : Nat → Int32) (x : Int32) : (mk M s x).1 0 35 = x := rfl
theorem mk_S (M : kD) (s t : Nat → Int32) (x : Int32) : kSI (mk M s x) 6 t = mk M t x := by
  unfold mk
  rw [q_SIc _ _ _ _ _ _ (by omega), q_SS]
theorem mk_x (M : kD) (s : Nat → Int32) (x y : Int32) : kI (mk M s x) 0 35 y = mk M s y := by
  unfold mk
  rw [q_II]
theorem mk_I (M : kD) (s : Nat → Int32) (x : Int32) (k : Nat) (v : Int32) : kI (mk M s x) 6 k v = mk M (upd s k v) x := by
  rw [q_kI_S, mk_S]
  rfl
theorem q_draw (D M : kD) (s : Nat → Int32) (x : Int32) {n : Nat} (h0 : 0 < n) (hn : n < 1000) :
    ∃ v y, v < n ∧ f_X1_draw (nI n) (kI D 0 0 x) = some (nI v, kI D 0 0 y) ∧ f_X12_draw (nI n) (mk M s x) = some (nI v, mk M s y) := by
  obtain ⟨t, ht, e⟩ := q_ush (x * nI 1103515245 + nI 12345)
  refine ⟨t % n, x * nI 1103515245 + nI 12345, Nat.mod_lt _ h0, ?_, ?_⟩
  · unfold f_X1_draw
    simp (disch := omega) only [↓q_m1, q_lit, ↓q_bd, ↓reduceIte, q_le, show ¬ n ≤ 0 by omega, q_eq, show ¬ n = 0 by omega, q_II, show (kI D 0 0 x).1 0 0 = x from rfl]
    rw [show (kI D 0 0 (x * nI 1103515245 + nI 12345)).1 0 0 = x * nI 1103515245 + nI 12345 from rfl, e, q_rem (by omega) h0 (by omega)]
  · unfold f_X12_draw
    simp (disch := omega) only [↓q_m1, q_lit, ↓q_bd, ↓reduceIte, q_eq, show ¬ n = 0 by omega, mk_35, mk_x, e, q_rem]
theorem q_drawDay {nm np d lt w h B : Nat} {O S D M : kD} {s : Nat → Int32} {x : Int32} (ho : RO nm np O s) (hs : RS nm np d lt w h B S s) (hB : B ≤ 1000000000) (hm0 : 0 < nm) :
    ∃ S' x' s' lt' w' h', f_X9_drawAct S O (kI D 0 0 x) = some (S', kI D 0 0 x') ∧ f_X12_drawDay (mk M s x) = some (mk M s' x') ∧ RS nm np d lt' w' h' (B + 40) S' s' ∧ (∀ k, k < 39 → s' k = s k) ∧ (∀ k, 98 ≤ k → s' k = s k) := by
  have hn : nm ≤ 6 := ho.1.1
  have hp : np ≤ 8 := ho.1.2
  have e0 : s 0 = nI nm := ho.2.1.1
  have e1 : s 1 = nI np := ho.2.1.2.1
  have e2 : O.1 0 1 = nI nm := ho.2.1.2.2.1
  have e3 : O.1 0 2 = nI np := ho.2.1.2.2.2.1
  have hs1 := RS_B (show B ≤ B + 40 by omega) hs
  obtain ⟨v, x1, hv, d1, d2⟩ := q_draw D M s x (n := 8) (by omega) (by omega)
  unfold f_X9_drawAct f_X12_drawDay
  simp (disch := omega) only [↓q_m1, q_lit, e2, q_eq, show ¬ nm = 0 by omega, ↓reduceIte, d1, d2, q_bo2]
  by_cases hv0 : v = 0
  · subst hv0
    obtain ⟨m, x2, hm, d3, d4⟩ := q_draw D M s x1 (n := nm) hm0 (by omega)
    have hb := q_held (M := mk M s x1) hs hn hm
    have hh := hs.1.2.2.2.2
    have h42 : s 42 = nI h := hs.2.1.2.2.2.2.2.2.2.1
    have h3 : S.1 0 3 = nI h := hs.2.1.2.2.2.2.2.2.1
    have hx := q_xor1 h (q_h64 hn hh) m (by omega)
    have hmc := q_hm hn e2 hm
    have hM : (bd1 (kI (mk M s x2) 6 42 ((mk M s x1).1 6 42 ^^^ (nI 1 <<< (nI m &&& nI 31)))) fun M33 => g_X12_drawDay_33 (nI 0) M33) = some (mk M (upd s 42 (nI (h ^^^ 2 ^ m))) x2) := by
      unfold g_X12_drawDay_33 g_X12_drawDay_81 f_X12_isIn
      simp (disch := omega) only [↓q_m1, q_lit, ↓q_bd, ↓reduceIte, mk_6, h42, hx, mk_I, q_eq, Nat.reduceEqDiff, q_lt, show (0 : Nat) < 2 by omega]
    have hC : (if f_X9_isHeld (nI m) S = nI 0 then g_X9_drawAct_47 O (nI m) (nI 10) S (kI D 0 0 x2) else g_X9_drawAct_47 O (nI m) (nI 20) S (kI D 0 0 x2)) = some (kI S 0 3 (nI (h ^^^ 2 ^ m)), kI D 0 0 x2) := by
      rw [hb.1]
      unfold g_X9_drawAct_47 f_X9_performIfItCan f_X9_whyNot f_X9_perform g_X9_perform_53
      cases hbt : h.testBit m with
      | true =>
        simp (disch := omega) only [↓q_m1, q_lit, ↓q_bd, ↓reduceIte, q_qb, Bool.true_eq_false, q_eq, Nat.reduceEqDiff, hmc, q_10, hb.1, hbt, q_bo, h3, q_hand h (q_h64 hn hh) m (by omega) hbt]
      | false =>
        simp (disch := omega) only [↓q_m1, q_lit, ↓q_bd, ↓reduceIte, q_qb, q_eq, Nat.reduceEqDiff, hmc, q_10, hb.1, hbt, q_bo, h3, q_hor h (q_h64 hn hh) m (by omega) hbt]
    simp (disch := omega) only [↓reduceIte, d3, q_bo2, hC, mk_6, q_cl, e0, d4]
    refine ⟨_, x2, upd s 42 (nI (h ^^^ 2 ^ m)), lt, w, h ^^^ 2 ^ m, rfl, hM, RS_held hs1 hn (q_xlt nm hn h hh m hm), fun k hk => pk_un (by omega), fun k hk => pk_un (by omega)⟩
  · by_cases hv1 : v = 1
    · subst hv1
      obtain ⟨m, x2, hm, d3, d4⟩ := q_draw D M s x1 (n := nm) hm0 (by omega)
      obtain ⟨n, x3, hn6, d5, d6⟩ := q_draw D M s x2 (n := 60) (by omega) (by omega)
      obtain ⟨i, hi, hi1, hi2⟩ := hs.2.2.1 m hm
      have hmc := q_hm hn e2 hm
      unfold g_X12_drawDay_33 g_X12_drawDay_81 f_X12_isIn f_X9_performIfItCan f_X9_whyNot f_X9_perform
      by_cases hin : i < n + 1
      · simp (disch := omega) only [↓q_m1, q_lit, ↓q_bd, ↓reduceIte, q_eq, Nat.reduceEqDiff, d3, q_bo2, d5, mk_6, q_cl, e0, d4, d6, nI_add, hmc, q_10, q_lt, q_le, show ¬ n + 1 < 1 by omega, show n + 1 ≤ 999 by omega, Nat.not_lt_zero, false_or, show ¬ 6 ≤ m by omega, hi1, hin, q_bo, show ¬ 279 ≤ 44 + m by omega, hi2, show ¬ n + 1 ≤ i by omega, mk_I, show (1 : Nat) < 2 by omega]
        refine ⟨_, x3, _, lt, w, h, rfl, rfl, RS_ink hs1 hn hm (by omega), fun k hk => pk_un (by omega), fun k hk => pk_un (by omega)⟩
      · simp (disch := omega) only [↓q_m1, q_lit, ↓q_bd, ↓reduceIte, q_eq, Nat.reduceEqDiff, d3, q_bo2, d5, mk_6, q_cl, e0, d4, d6, nI_add, hmc, q_10, q_lt, q_le, show ¬ n + 1 < 1 by omega, show n + 1 ≤ 999 by omega, Nat.not_lt_zero, false_or, show ¬ 6 ≤ m by omega, hi1, hin, q_bo, show ¬ 279 ≤ 44 + m by omega, hi2, show n + 1 ≤ i by omega, show (1 : Nat) < 2 by omega]
        refine ⟨_, x3, _, lt, w, h, rfl, rfl, hs1, fun k hk => rfl, fun k hk => rfl⟩
    · by_cases hv4 : v ≤ 4 ∧ 0 < np
      · obtain ⟨m, x2, hm, d3, d4⟩ := q_draw D M s x1 (n := nm) hm0 (by omega)
        obtain ⟨q, x3, hq, d5, d6⟩ := q_draw D M s x2 (n := np) hv4.2 (by omega)
        obtain ⟨y, hy, y1, y2, y3⟩ := q_why (M := mk M s x3) ho hs hm hq
        have hmc := q_hm hn e2 hm
        unfold g_X12_drawDay_33 g_X12_drawDay_81 f_X12_isIn f_X9_performIfItCan f_X9_whyNot f_X9_perform
        by_cases hy0 : y = 0
        · subst hy0
          obtain ⟨c, i, c1, c2, c3, c4, -⟩ := y3 rfl
          obtain ⟨S', s', t1, t2, t3, t4, t5⟩ := q_types (M := mk M s x3) ho hs hm hq hB ⟨c, i, c1, c2, c3, c4⟩
          simp (disch := omega) only [↓q_m1, q_lit, ↓q_bd, ↓reduceIte, q_eq, hv0, hv1, q_lt, q_le, show ¬ 4 < v by omega, show ¬ np ≤ 0 by omega, d3, d5, q_bo2, mk_6, q_cl, e0, e1, d4, d6, show ¬ np = 0 by omega, show ¬ v < 2 by omega, q_10, Nat.reduceEqDiff, hmc, y1, y2, q_bo, t1, t2, mk_S, e3]
          exact ⟨_, x3, _, q + 1, m + 1, h, rfl, rfl, t3, t4, t5⟩
        · simp (disch := omega) only [↓q_m1, q_lit, ↓q_bd, ↓reduceIte, q_eq, hv0, hv1, q_lt, q_le, show ¬ 4 < v by omega, show ¬ np ≤ 0 by omega, d3, d5, q_bo2, mk_6, q_cl, e0, e1, d4, d6, show ¬ np = 0 by omega, show ¬ v < 2 by omega, q_10, Nat.reduceEqDiff, hmc, y1, y2, q_bo, hy0, e3]
          exact ⟨_, x3, _, lt, w, h, rfl, rfl, hs1, fun k hk => rfl, fun k hk => rfl⟩
      · have hC : (if nI 4 < nI v then some (S, kI D 0 0 x1) else if O.1 0 2 ≤ nI 0 then some (S, kI D 0 0 x1) else bo2 (f_X1_draw (nI nm) (kI D 0 0 x1)) fun v7 Dv8 => bo2 (f_X1_draw (O.1 0 2) Dv8) fun v10 Dv11 => bo (f_X9_performIfItCan (nI 0) v7 v10 S O) fun Sv13 => some (Sv13, Dv11)) = some (S, kI D 0 0 x1) := by
          by_cases h4 : 4 < v
          · rw [if_pos (by rw [q_lt (by omega) (by omega)]; exact h4)]
          · rw [if_neg (by rw [q_lt (by omega) (by omega)]; exact h4), e3, if_pos (by rw [q_le (by omega) (by omega)]; omega)]
        have hM : g_X12_drawDay_33 (nI v) (mk M s x1) = some (mk M s x1) := by
          unfold g_X12_drawDay_33 g_X12_drawDay_81 f_X12_isIn
          by_cases h4 : 4 < v
          · simp (disch := omega) only [↓q_m1, q_lit, ↓reduceIte, q_eq, hv1, q_lt, show ¬ v < 2 by omega, h4]
          · simp (disch := omega) only [↓q_m1, q_lit, ↓reduceIte, q_eq, hv1, q_lt, show ¬ v < 2 by omega, h4, q_10, mk_6, q_cl, e1, show np = 0 by omega, Nat.reduceEqDiff]
        simp (disch := omega) only [q_eq, hv0, hv1, ↓reduceIte]
        exact ⟨_, x1, _, lt, w, h, hC, hM, hs1, fun k hk => rfl, fun k hk => rfl⟩
