/-! machine-free: more acts -/
theorem q_isIn (a lo hi : Nat) (x : Int32) (hlo : lo < 2 ^ 31) (hhi : hi < 2 ^ 31) : (∃ n, lo ≤ n ∧ n ≤ hi ∧ x = nI n ∧ f_X12_isIn x (nI lo) (nI hi) = nI 1) ∨ ((∀ n, lo ≤ n → n ≤ hi → x ≠ nI n) ∧ f_X12_isIn x (nI lo) (nI hi) = nI 0 ∧ (x < nI lo ∨ nI hi < x)) := by
  unfold f_X12_isIn
  simp only [↓q_m1, q_lit]
  by_cases h1 : x < nI lo
  · refine Or.inr ⟨fun n h2 h3 e => ?_, by rw [if_pos h1], Or.inl h1⟩
    rw [e, q_lt (by omega) (by omega)] at h1
    omega
  · rw [if_neg h1]
    by_cases h2 : nI hi < x
    · refine Or.inr ⟨fun n h4 h5 e => ?_, by rw [if_pos h2], Or.inr h2⟩
      rw [e, q_lt (by omega) (by omega)] at h2
      omega
    · refine Or.inl ?_
      have h0 : ¬ x < 0 := by
        intro h9
        refine h1 (Int32.lt_of_lt_of_le h9 ?_)
        show nI 0 ≤ nI lo
        rw [q_le (by omega) hlo]
        omega
      obtain ⟨n, hn, rfl⟩ := nI_of h0
      rw [q_lt hn hlo] at h1
      rw [q_lt hhi hn] at h2
      exact ⟨n, by omega, by omega, rfl, by rw [if_neg (by rw [q_lt hhi hn]; exact h2)]⟩
theorem q_ribbon {nm np B : Nat} {O S Hy M K C N : kD} {HS : Nat → kD} (ho : RO nm np O (M.1 6)) (hr : RSH nm np B S Hy HS M) (a b : Int32) :
    ∃ v S' Hy' HS' M', f_X11_ribbon a b K C O S N Hy HS = some (v, S', Hy', HS') ∧ f_X12_ribbon a b M = some (v, M') ∧ MX M M' ∧ RSH nm np B S' Hy' HS' M' := by
  have hr0 := hr
  obtain ⟨d, lt, w, h, u, o, hd, hs, hH, hu⟩ := hr
  have hn : nm ≤ 6 := ho.1.1
  have e0 : (kI M 0 0 (nI 0)).1 6 0 = nI nm := ho.2.1.1
  have e2 : O.1 0 1 = nI nm := ho.2.1.2.2.1
  unfold f_X11_ribbon f_X11_doOne f_X9_whyNot f_X12_ribbon
  simp (disch := omega) only [↓q_m1, q_lit, ↓q_bd, ↓reduceIte, q_eq, Nat.reduceEqDiff]
  rcases q_mach hn e2 e0 a with ⟨m, hm, rfl, hm1, hm2⟩ | ⟨-, hm1, hm2⟩
  · rw [hm1, hm2, q_bo]
    simp only [q_10, ↓reduceIte]
    rcases q_isIn 0 1 999 b (by omega) (by omega) with ⟨n, h1, h2, rfl, h3⟩ | ⟨-, h3, h4⟩
    · obtain ⟨i, hi, hi1, hi2⟩ := hs.2.2.1 m hm
      have hi3 : (kI M 0 0 (nI 0)).1 6 (44 + m) = nI i := hi2
      rw [h3]
      simp (disch := omega) only [q_10, ↓reduceIte, q_lt, q_le, show ¬ n < 1 by omega, show n ≤ 999 by omega, q_cl, Nat.not_lt_zero, false_or, show ¬ 6 ≤ m by omega, hi1, nI_add, show ¬ 279 ≤ 44 + m by omega, hi3]
      by_cases hin : i < n
      · obtain ⟨Hy', HS', un', u', o', k1, k2, k3, k4, -⟩ := q_keep (M := kI M 0 0 (nI 0)) hn hs hd hH hu
        rw [if_pos hin, if_pos hin, k2]
        unfold f_X9_perform
        simp (disch := omega) only [↓q_m1, q_lit, ↓q_bd, ↓reduceIte, q_eq, Nat.reduceEqDiff, q_bo, q_bo2, k1, hm1, q_10, q_cl, q_lt, Nat.not_lt_zero, false_or, show ¬ 6 ≤ m by omega]
        refine ⟨_, _, _, _, _, rfl, rfl, MX_k (v := nI 0) (w := nI (u' + 1)) (un := un') (s' := upd (M.1 6) (44 + m) (nI n)) (fun k hk => pk_un (by omega)) (fun k hk => pk_un (by omega)), d, lt, w, h, u' + 1, o', hd, RS_ink hs hn hm (by omega), k3, rfl⟩
      · rw [if_neg hin, if_neg hin]
        simp only [q_bo, q_10, ↓reduceIte]
        exact ⟨_, _, _, _, _, rfl, rfl, MX_0 M _, hr0⟩
    · rw [h3]
      simp only [↓reduceIte]
      rcases h4 with h4 | h4
      · rw [if_pos h4]
        simp (disch := omega) only [q_bo, q_neg', ↓reduceIte]
        exact ⟨_, _, _, _, _, rfl, rfl, MX_0 M _, hr0⟩
      · have h5 : ¬ b < nI 1 := fun h9 => by
          have := Int32.lt_trans h4 h9
          rw [q_lt (by omega) (by omega)] at this
          omega
        rw [if_neg h5, if_neg (Int32.not_le.mpr h4)]
        simp (disch := omega) only [q_bo, q_neg', ↓reduceIte]
        exact ⟨_, _, _, _, _, rfl, rfl, MX_0 M _, hr0⟩
  · rw [hm1, hm2, q_bo]
    simp (disch := omega) only [↓reduceIte, q_bo, q_bo2, q_neg']
    exact ⟨_, _, _, _, _, rfl, rfl, MX_0 M _, hr0⟩
theorem owE_cut {X Y : Nat → Int32} {nm : Nat} (hn : nm ≤ 6) (h : ∀ i, i < 36 → X i = Y (62 + i) ∧ (nm ≤ i / 6 ∨ nm ≤ i % 6 → Y (62 + i) = nI 0)) : owE X 6 = owE (fun i => Y (62 + i)) nm := by
  cases hE : owE (fun i => Y (62 + i)) nm with
  | true =>
    unfold owE at hE
    obtain ⟨m, k, hm, hk, hc⟩ := @of_decide_eq_true _ (Classical.propDecidable _) hE
    refine owE_t (m := m) (k := k) (by omega) hk ?_
    unfold owC at hc ⊢
    rw [(h (m * 6 + k) (by omega)).1, (h (k * 6 + m) (by omega)).1]
    exact hc
  | false =>
    refine owE_f fun m k hm hk hc => ?_
    unfold owC at hc
    by_cases hmn : m < nm
    · have : owE (fun i => Y (62 + i)) nm = true := owE_t hmn hk (by
        show ¬ Y (62 + (m * 6 + k)) ≤ nI 0 ∧ ¬ Y (62 + (k * 6 + m)) ≤ nI 0
        rw [← (h (m * 6 + k) (by omega)).1, ← (h (k * 6 + m) (by omega)).1]
        exact hc)
      rw [hE] at this
      cases this
    · refine hc.1 ?_
      rw [(h (m * 6 + k) (by omega)).1, (h (m * 6 + k) (by omega)).2 (Or.inl (by omega))]
      exact Int32.le_refl _
theorem q_clear {nm np B : Nat} {O S Hy M K C N : kD} {HS : Nat → kD} (ho : RO nm np O (M.1 6)) (hr : RSH nm np B S Hy HS M) :
    ∃ v S' Hy' HS' M', f_X11_clear K C O S N Hy HS = some (v, S', Hy', HS') ∧ f_X12_clear M = some (v, M') ∧ MX M M' ∧ RSH nm np B S' Hy' HS' M' := by
  have hr0 := hr
  obtain ⟨d, lt, w, h, u, o, hd, hs, hH, hu⟩ := hr
  have hn : nm ≤ 6 := ho.1.1
  have e0 : (kI M 0 0 (nI 0)).1 6 0 = nI nm := ho.2.1.1
  have hE : owE (S.1 8) 6 = owE (fun i => (kI M 0 0 (nI 0)).1 6 (62 + i)) nm := owE_cut hn (fun i hi => ⟨(hs.2.2.2.2.2 i hi).1, (hs.2.2.2.2.2 i hi).2.1⟩)
  unfold f_X11_clear f_X11_doOne f_X9_whyNot f_X12_clear
  simp (disch := omega) only [↓q_m1, q_lit, ↓q_bd, ↓reduceIte, q_eq, Nat.reduceEqDiff, q_bothC, q_bothM hn e0, q_bo, hE]
  cases owE (fun i => (kI M 0 0 (nI 0)).1 6 (62 + i)) nm with
  | false =>
    simp (disch := omega) only [q_qb, ↓reduceIte, q_bo, q_10, Bool.not_false, show (q_b true ≤ nI 0) = False from eq_false (by decide), q_bo2]
    exact ⟨_, _, _, _, _, rfl, rfl, MX_0 M _, hr0⟩
  | true =>
    obtain ⟨Hy', HS', un', u', o', k1, k2, k3, k4, -⟩ := q_keep (M := kI M 0 0 (nI 0)) hn hs hd hH hu
    obtain ⟨S', s', t1, t2, t3, t4, t5⟩ := q_settle (M := kI (kSI (kI M 0 0 (nI 0)) 20 un') 0 22 (nI (u' + 1))) ho hs
    simp (disch := omega) only [q_qb, Bool.true_eq_false, ↓reduceIte, q_bo, Bool.not_true, show (q_b false ≤ nI 0) = True from eq_true (by decide), k1, k2, q_bo2, t2]
    unfold f_X9_perform
    simp (disch := omega) only [↓q_m1, q_lit, ↓reduceIte, q_eq, Nat.reduceEqDiff, t1, q_bo, q_bo2]
    exact ⟨_, _, _, _, _, rfl, rfl, MX_k t4 t5, d, lt, w, h, u' + 1, o', hd, t3, k3, rfl⟩
theorem q_going {n d : Nat} (hn : n ≤ 60) (hd : d ≤ 400) : kMin (nI n) (nI 400 - nI d) = nI (min n (400 - d)) := by
  rw [q_sub hd]
  unfold kMin
  simp (disch := omega) only [q_lt]
  by_cases h : 400 - d < n
  · rw [if_pos h, Nat.min_eq_right (by omega)]
  · rw [if_neg h, Nat.min_eq_left (by omega)]
theorem q_isDays (a : Int32) : f_X11_isDays a = f_X12_isIn a (nI 1) (nI 60) := rfl
theorem q_days {nm np B : Nat} {O S Hy M K C N : kD} {HS : Nat → kD} (ho : RO nm np O (M.1 6)) (hr : RSH nm np B S Hy HS M) (hB : B ≤ 900000000) (a : Int32) :
    ∃ v S' Hy' HS' M', f_X11_days a K C O S N Hy HS = some (v, S', Hy', HS') ∧ f_X12_days a M = some (v, M') ∧ MX M M' ∧ RSH nm np (B + 2400) S' Hy' HS' M' := by
  have hr0 := RSH_B (show B ≤ B + 2400 by omega) hr
  obtain ⟨d, lt, w, h, u, o, hd, hs, hH, hu⟩ := hr
  have hn : nm ≤ 6 := ho.1.1
  have h39 : M.1 6 39 = nI d := hs.2.1.2.1
  have h00 : S.1 0 0 = nI d := hs.2.1.1
  unfold f_X11_days f_X12_days f_X9_daysLeft
  simp only [↓q_m1, q_lit, ↓q_bd, q_isDays]
  rcases q_isIn 0 1 60 a (by omega) (by omega) with ⟨n, h1, h2, rfl, h3⟩ | ⟨-, h3, h4⟩
  · rw [h3]
    simp (disch := omega) only [q_10, ↓reduceIte, h00, q_going h2 hd, q_le, q_cl, q_kI, Nat.reduceEqDiff, h39, q_eq]
    by_cases hd4 : d = 400
    · subst hd4
      rw [if_pos rfl]
      simp (disch := omega) only [Nat.sub_self, Nat.min_zero, Nat.le_refl, ↓reduceIte]
      exact ⟨_, _, _, _, _, rfl, rfl, MX_0 M _, hr0⟩
    · have hg : ¬ min n (400 - d) ≤ 0 := by
        have : min n (400 - d) = n ∨ min n (400 - d) = 400 - d := by omega
        omega
      obtain ⟨Hy', HS', un', u', o', k1, k2, k3, k4, -⟩ := q_keep (M := kI M 0 0 (nI 0)) hn hs hd hH hu
      obtain ⟨S', s', lt', w', t1, t2, t3, t4, t5⟩ := q_goes (M := kI (kSI (kI M 0 0 (nI 0)) 20 un') 0 22 (nI (u' + 1))) ho hs hB n h2 hd
      rw [if_neg hg, if_neg hd4, k1, k2, q_bo2, q_bo, t1, t2, q_bo, q_bo2]
      exact ⟨_, _, _, _, _, rfl, rfl, MX_k t4 t5, d + min n (400 - d), lt', w', h, u' + 1, o', by omega, RS_B (by omega) t3, RH_B (by omega) k3, rfl⟩
  · rw [h3]
    simp only [↓reduceIte]
    exact ⟨_, _, _, _, _, rfl, rfl, MX_0 M _, hr0⟩
theorem q_back26 (M : kD) (u : Nat) (hu : u ≤ 7) (h : M.1 0 22 = nI u) : ∃ F, lp (fun _ _ => none) g_X12_undo_26 2000 (nI 0) M = some (nI u, kSI M 6 F) ∧ (∀ j, j < 59 → F (39 + j) = M.1 20 (59 * u + j)) ∧ ∀ k, k < 39 ∨ 98 ≤ k → F k = M.1 6 k := by
  refine ⟨atW (fun j => M.1 20 (59 * u + j)) (M.1 6) 39 59, ?_, fun j hj => atW_in _ _ _ _ _ hj, fun k hk => atW_out _ _ _ _ _ hk⟩
  have h1 := q_one (fun f k (x : Nat → Int32) => lp (fun _ _ => none) g_X12_undo_26 f (nI k) (kSI M 6 x)) (fun k x => x = atW (fun j => M.1 20 (59 * u + j)) (M.1 6) 39 k) (fun q => q = some (nI u, kSI M 6 (atW (fun j => M.1 20 (59 * u + j)) (M.1 6) 39 59))) 59 ?_ ?_ 59 0 2000 (M.1 6) (by omega) (by omega) (by rw [atW_0])
  · rw [q_SM] at h1; exact h1
  · intro f k x _ hk hx ih
    simp only [q_lp]
    generalize lp _ g_X12_undo_26 f = rc at ih ⊢
    unfold g_X12_undo_26
    simp (disch := omega) only [↓q_m1, q_lit, ↓q_bd, ↓reduceIte, q_le, show ¬ 59 ≤ k by omega, nI_add, pk_mul, q_lt, Nat.not_lt_zero, false_or, q_cl, show ¬ 279 ≤ 39 + k by omega, q_kSI, h, show ¬ 472 ≤ 59 * u + k by omega, q_SI, Nat.reduceEqDiff]
    exact ih _ (by rw [hx]; exact atW_step (fun j => M.1 20 (59 * u + j)) _ _ _)
  · intro f x hx
    simp only [q_lp]
    generalize lp _ g_X12_undo_26 f = rc
    unfold g_X12_undo_26
    simp (disch := omega) only [↓q_m1, q_lit, ↓reduceIte, q_le, Nat.le_refl, q_kSI, h, Nat.reduceEqDiff, hx]
theorem q_takeC (Hy : kD) (HS : Nat → kD) (S : kD) (u o : Nat) (h0 : Hy.1 0 0 = nI (u + 1)) (h1 : Hy.1 0 1 = nI o) (hu : u ≤ 7) (ho : o < 8) :
    ∃ S', SA S' (HS ((o + u) % 8)) ∧ f_X2_takeBack Hy HS S = some (nI 1, kI Hy 0 0 (nI u), S') := by
  obtain ⟨S', e, hA⟩ := q_copyS S (HS ((o + u) % 8))
  refine ⟨S', hA, ?_⟩
  have hr : (o + u) % 8 < 8 := Nat.mod_lt _ (by omega)
  unfold f_X2_takeBack
  simp (disch := omega) only [↓q_m1, q_lit, ↓q_bd, h0, q_eq, show ¬ u + 1 = 0 by omega, ↓reduceIte, q_sub, Nat.add_sub_cancel, q_kI, q_up, h1, Nat.reduceEqDiff, nI_add, q_rem]
  generalize (o + u) % 8 = r at e hr ⊢
  have : r = 0 ∨ r = 1 ∨ r = 2 ∨ r = 3 ∨ r = 4 ∨ r = 5 ∨ r = 6 ∨ r = 7 := by omega
  rcases this with rfl | rfl | rfl | rfl | rfl | rfl | rfl | rfl <;>
    simp (disch := omega) only [q_eq, Nat.reduceEqDiff, ↓reduceIte, e, q_bo]
theorem q_undo {nm np B : Nat} {O S Hy M K C N : kD} {HS : Nat → kD} (ho : RO nm np O (M.1 6)) (hr : RSH nm np B S Hy HS M) :
    ∃ v S' Hy' M', f_X11_undo K C O S N Hy HS = some (v, S', Hy') ∧ f_X12_undo M = some (v, M') ∧ MX M M' ∧ RSH nm np B S' Hy' HS M' := by
  have hr0 := hr
  obtain ⟨d, lt, w, h, u, o, hd, hs, ⟨hu8, ho8, h0, h1, hi⟩, hu⟩ := hr
  have hn : nm ≤ 6 := ho.1.1
  unfold f_X11_undo f_X12_undo
  cases u with
  | zero =>
    unfold f_X2_takeBack
    simp (disch := omega) only [↓q_m1, q_lit, ↓q_bd, h0, ↓reduceIte, q_bo3, q_kI, q_up, hu, Nat.reduceEqDiff]
    exact ⟨_, _, _, _, rfl, rfl, MX_0 M _, hr0⟩
  | succ u =>
    obtain ⟨S', hA, e⟩ := q_takeC Hy HS S u o h0 h1 (by omega) ho8
    obtain ⟨d2, lt2, w2, h2, hd2, hr2⟩ := hi u (by omega)
    obtain ⟨F, hb, hF1, hF2⟩ := q_back26 (kI (kI M 0 0 (nI 0)) 0 22 (nI u)) u (by omega) rfl
    simp (disch := omega) only [↓q_m1, q_lit, ↓q_bd, e, q_10, ↓reduceIte, q_bo3, q_kI, q_up, hu, Nat.reduceEqDiff, q_eq, show ¬ u + 1 = 0 by omega, q_sub, Nat.add_sub_cancel, hb]
    refine ⟨_, _, _, _, rfl, rfl, ?_, ?_⟩
    · refine ⟨rfl, fun b h0 h6 h20 _ => ?_, fun k h0 h22 _ => ?_, fun k hk => hF2 k (Or.inl hk), fun k hk => hF2 k (Or.inr hk)⟩
      · show (if b = 6 then _ else if b = 0 then _ else if b = 0 then _ else M.1 b) = _
        rw [if_neg h6, if_neg h0, if_neg h0]
      · show upd (upd (M.1 0) 0 _) 22 _ k = _
        rw [pk_un h22, pk_un h0]
    · refine ⟨d2, lt2, w2, h2, u, o, hd2, RS_S hA (RS_s (fun k h39 h98 => ?_) hr2 hn) hn, ⟨by omega, ho8, rfl, h1, fun i hi2 => hi i (by omega)⟩, rfl⟩
      show F k = M.1 20 _
      rw [show k = 39 + (k - 39) by omega, hF1 _ (by omega)]
      show M.1 20 _ = _
      exact congrArg (M.1 20) (by omega)
