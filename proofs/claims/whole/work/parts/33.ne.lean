/-! machine-free: tried and taken back: silent, odds -/
theorem q_tries (M : kD) : ∃ b, f_X12_tries M = some (kSI M 21 b) ∧ ∀ j, j < 59 → b j = M.1 6 (39 + j) := by
  refine ⟨cpW (fun j => M.1 6 (39 + j)) (M.1 21) 59, ?_, fun j hj => by unfold cpW; rw [if_pos hj]⟩
  have h1 := q_one (fun f k (x : Nat → Int32) => lp (fun _ _ => none) g_X12_tries_2 f (nI k) (kSI M 21 x)) (fun k x => x = cpW (fun j => M.1 6 (39 + j)) (M.1 21) k) (fun q => q = some (kSI M 21 (cpW (fun j => M.1 6 (39 + j)) (M.1 21) 59))) 59 ?_ ?_ 59 0 2000 (M.1 21) (by omega) (by omega) (by funext j; unfold cpW; rw [if_neg (by omega)])
  · rw [q_SM] at h1; exact h1
  · intro f k x _ hk hx ih
    simp only [q_lp]
    generalize lp _ g_X12_tries_2 f = rc at ih ⊢
    unfold g_X12_tries_2
    simp (disch := omega) only [↓q_m1, q_lit, ↓q_bd, ↓reduceIte, q_le, show ¬ 59 ≤ k by omega, nI_add, q_lt, Nat.not_lt_zero, false_or, q_cl, show ¬ 279 ≤ 39 + k by omega, q_kSI, q_SI, Nat.reduceEqDiff]
    exact ih _ (by rw [hx]; exact cpW_step (fun j => M.1 6 (39 + j)) _ _)
  · intro f x hx
    simp only [q_lp]
    generalize lp _ g_X12_tries_2 f = rc
    unfold g_X12_tries_2
    simp (disch := omega) only [↓q_m1, q_lit, ↓reduceIte, q_le, Nat.le_refl, hx]
theorem q_backM (M : kD) : ∃ F, f_X12_back M = some (kSI M 6 F) ∧ (∀ j, j < 59 → F (39 + j) = M.1 21 j) ∧ ∀ k, k < 39 ∨ 98 ≤ k → F k = M.1 6 k := by
  refine ⟨atW (fun j => M.1 21 j) (M.1 6) 39 59, ?_, fun j hj => atW_in _ _ _ _ _ hj, fun k hk => atW_out _ _ _ _ _ hk⟩
  have h1 := q_one (fun f k (x : Nat → Int32) => lp (fun _ _ => none) g_X12_back_2 f (nI k) (kSI M 6 x)) (fun k x => x = atW (fun j => M.1 21 j) (M.1 6) 39 k) (fun q => q = some (kSI M 6 (atW (fun j => M.1 21 j) (M.1 6) 39 59))) 59 ?_ ?_ 59 0 2000 (M.1 6) (by omega) (by omega) (by rw [atW_0])
  · rw [q_SM] at h1; exact h1
  · intro f k x _ hk hx ih
    simp only [q_lp]
    generalize lp _ g_X12_back_2 f = rc at ih ⊢
    unfold g_X12_back_2
    simp (disch := omega) only [↓q_m1, q_lit, ↓q_bd, ↓reduceIte, q_le, show ¬ 59 ≤ k by omega, nI_add, q_lt, Nat.not_lt_zero, false_or, q_cl, show ¬ 279 ≤ 39 + k by omega, q_kSI, q_SI, Nat.reduceEqDiff]
    exact ih _ (by rw [hx]; exact atW_step (fun j => M.1 21 j) _ _ _)
  · intro f x hx
    simp only [q_lp]
    generalize lp _ g_X12_back_2 f = rc
    unfold g_X12_back_2
    simp (disch := omega) only [↓q_m1, q_lit, ↓reduceIte, q_le, Nat.le_refl, hx]
theorem RSH_s {nm np B : Nat} {S Hy M M' : kD} {HS : Nat → kD} (hn : nm ≤ 6) (hr : RSH nm np B S Hy HS M) (h1 : ∀ k, 39 ≤ k → k < 98 → M'.1 6 k = M.1 6 k) (h2 : M'.1 20 = M.1 20) (h3 : M'.1 0 22 = M.1 0 22) : RSH nm np B S Hy HS M' := by
  obtain ⟨d, lt, w, h, u, o, hd, hs, hH, hu⟩ := hr
  exact ⟨d, lt, w, h, u, o, hd, RS_s h1 hs hn, by rw [h2]; exact hH, by rw [h3]; exact hu⟩
theorem q_silent {nm np B : Nat} {O S Hy M K C N TR : kD} {HS : Nat → kD} (ho : RO nm np O (M.1 6)) (hr : RSH nm np B S Hy HS M) (hB : B ≤ 900000000) :
    ∃ v TR' M', f_X11_silent K C O S N TR = some (v, TR') ∧ f_X12_silent M = some (v, M') ∧ MX M M' ∧ RSH nm np B S Hy HS M' := by
  have hr0 := hr
  obtain ⟨d, lt, w, h, u, o, hd, hs, hH, hu⟩ := hr
  have hn : nm ≤ 6 := ho.1.1
  obtain ⟨T1, c1, c2⟩ := q_copyS TR S
  obtain ⟨b, b1, b2⟩ := q_tries (kI M 0 0 (nI 0))
  have key := q_two (fun f k (z : kD) => lp (fun _ _ => none) (g_X11_silent_16 K C O S N) f (nI (k + 1)) z) (fun f k (t : Nat → Int32) => lp (fun _ _ _ => none) g_X12_silent_13 f mI (nI (k + 1)) (kSI (kSI (kI M 0 0 (nI 0)) 21 b) 6 t))
    (fun k z t => ∃ lt w, RS nm np (d + k) lt w h (B + 40 * k) z t ∧ (∀ k, k < 39 → t k = M.1 6 k) ∧ (∀ k, 98 ≤ k → t k = M.1 6 k))
    (fun r1 r2 => ∃ v TR' t, r1 = some (v, TR') ∧ r2 = g_X12_silent_38 v (kSI (kSI (kI M 0 0 (nI 0)) 21 b) 6 t) ∧ (∀ k, k < 39 → t k = M.1 6 k) ∧ (∀ k, 98 ≤ k → t k = M.1 6 k)) 99 ?_ ?_ 99 0 2000 2000 T1 (M.1 6) (by omega) (by omega) (by omega) ⟨lt, w, by simpa using RS_S c2 hs hn, fun _ _ => rfl, fun _ _ => rfl⟩
  · obtain ⟨v, TR', t, k1, k2, k3, k4⟩ := key
    have e : kSI (kSI (kI M 0 0 (nI 0)) 21 b) 6 (M.1 6) = kSI (kI M 0 0 (nI 0)) 21 b := q_SM (kSI (kI M 0 0 (nI 0)) 21 b) 6
    rw [e] at k2
    obtain ⟨F, f1, f2, f3⟩ := q_backM (kSI (kSI (kI M 0 0 (nI 0)) 21 b) 6 t)
    refine ⟨v, TR', kSI (kSI (kSI (kI M 0 0 (nI 0)) 21 b) 6 t) 6 F, ?_, ?_, ?_, ?_⟩
    · unfold f_X11_silent
      rw [c1, q_bo]
      exact k1
    · unfold f_X12_silent
      simp only [↓q_m1, q_lit, ↓q_bd, b1, q_bo]
      refine Eq.trans k2 ?_
      unfold g_X12_silent_38
      rw [f1, q_bo]
    · refine ⟨rfl, fun z h0 h6 h20 h21 => ?_, fun k h0 h22 h35 => ?_, fun k hk => (f3 k (Or.inl hk)).trans (k3 k hk), fun k hk => (f3 k (Or.inr hk)).trans (k4 k hk)⟩
      · show (if z = 6 then _ else if z = 6 then _ else if z = 21 then _ else if z = 0 then _ else M.1 z) = _
        rw [if_neg h6, if_neg h6, if_neg h21, if_neg h0]
      · show upd (M.1 0) 0 _ k = _
        exact pk_un h0
    · refine RSH_s hn hr0 (fun k h39 h98 => ?_) rfl rfl
      show F k = M.1 6 k
      have e1 := f2 (k - 39) (by omega)
      have e2 := b2 (k - 39) (by omega)
      rw [show 39 + (k - 39) = k by omega] at e1 e2
      exact e1.trans e2
  · intro f e k z t hf he hk ⟨lt, w, hr, hf1, hf2⟩ ih
    have ho2 : RO nm np O ((kSI (kSI (kI M 0 0 (nI 0)) 21 b) 6 t).1 6) := RO_cg (s := M.1 6) hf1 ho
    obtain ⟨y, S2, s2, lt2, w2, a1, a2, a3, a4, a5⟩ := q_day (M := kSI (kSI (kI M 0 0 (nI 0)) 21 b) 6 t) ho2 hr (by omega) (by omega)
    rw [q_SS] at a2
    simp only [q_lp]
    generalize hrc : lp _ (g_X11_silent_16 K C O S N) f = rc at ih ⊢
    cases y with
    | false =>
      have hx : lp (fun _ _ _ => none) g_X12_silent_13 e (nI (k + 1)) (nI (k + 1 + 1)) (kSI (kSI (kI M 0 0 (nI 0)) 21 b) 6 s2) = g_X12_silent_38 (nI (k + 1)) (kSI (kSI (kI M 0 0 (nI 0)) 21 b) 6 s2) := by
        obtain ⟨e, rfl⟩ : ∃ q, e = q + 1 := ⟨e - 1, by omega⟩
        rw [q_lp]
        unfold g_X12_silent_13
        simp (disch := omega) only [↓q_m1, q_lit, q_le, Nat.zero_le, ↓reduceIte, ite_self]
      generalize lp _ g_X12_silent_13 e = rd at hx ⊢
      unfold g_X11_silent_16 g_X12_silent_13 g_X12_silent_32
      simp (disch := omega) only [↓q_m1, q_lit, ↓q_bd, ↓reduceIte, q_lt, show ¬ 99 < k + 1 by omega, a1, q_bo2, q_qb, show (nI 0 ≤ mI) = False from q_len 0 (by omega), a2, nI_add, hx]
      exact ⟨_, _, s2, rfl, rfl, fun k hk => (a4 k hk).trans (hf1 k hk), fun k hk => (a5 k hk).trans (hf2 k hk)⟩
    | true =>
      generalize lp _ g_X12_silent_13 e = rd at ih ⊢
      unfold g_X11_silent_16 g_X12_silent_13 g_X12_silent_32
      simp (disch := omega) only [↓q_m1, q_lit, ↓q_bd, ↓reduceIte, q_lt, show ¬ 99 < k + 1 by omega, a1, q_bo2, q_qb, show (nI 0 ≤ mI) = False from q_len 0 (by omega), a2, nI_add, Bool.true_eq_false]
      refine ih S2 s2 ⟨lt2, w2, ?_, fun k hk => (a4 k hk).trans (hf1 k hk), fun k hk => (a5 k hk).trans (hf2 k hk)⟩
      rw [show d + (k + 1) = d + k + 1 by omega, show B + 40 * (k + 1) = B + 40 * k + 40 by omega]
      exact a3
  · intro f e z t ⟨lt, w, hr, hf1, hf2⟩
    refine ⟨mI, z, t, ?_, ?_, hf1, hf2⟩
    · simp only [q_lp]
      generalize lp _ (g_X11_silent_16 K C O S N) f = rc
      unfold g_X11_silent_16
      simp (disch := omega) only [↓q_m1, q_lit, ↓reduceIte, q_lt, show 99 < 99 + 1 by omega]
    · simp only [q_lp]
      generalize lp _ g_X12_silent_13 e = rc
      unfold g_X12_silent_13
      simp (disch := omega) only [↓q_m1, q_lit, ↓reduceIte, q_lt, show 99 < 99 + 1 by omega]
theorem mk_mk (M : kD) (s t : Nat → Int32) (x y : Int32) : mk (mk M s x) t y = mk M t y := by
  rw [show mk (mk M s x) t y = kI (kSI (mk M s x) 6 t) 0 35 y from rfl, mk_S, mk_x]
theorem q_odds {nm np B : Nat} {O S Hy M K C N TR D : kD} {HS : Nat → kD} (ho : RO nm np O (M.1 6)) (hr : RSH nm np B S Hy HS M) (hB : B ≤ 900000000) (a c x : Int32) :
    ∃ v TR' D' M', f_X11_odds a c x K C O S N TR D = some (v, TR', D') ∧ f_X12_odds a c x M = some (v, M') ∧ MX M M' ∧ RSH nm np B S Hy HS M' := by
  have hr0 := hr
  obtain ⟨d, lt, w, h, u, o, hd, hs, hH, hu⟩ := hr
  have hn : nm ≤ 6 := ho.1.1
  have e0 : (kI M 0 0 (nI 0)).1 6 0 = nI nm := ho.2.1.1
  have e2 : O.1 0 1 = nI nm := ho.2.1.2.2.1
  unfold f_X11_odds f_X12_odds
  simp only [↓q_m1, q_lit, ↓q_bd]
  rcases q_mach hn e2 e0 a with ⟨m, hm, rfl, hm1, hm2⟩ | ⟨-, hm1, hm2⟩
  · rw [hm1, hm2, q_bo]
    simp only [q_10, ↓reduceIte]
    rcases q_isIn 0 1 30 c (by omega) (by omega) with ⟨n, h1, h2, rfl, h3⟩ | ⟨-, h3, h4⟩
    · obtain ⟨b, b1, b2⟩ := q_tries (kI M 0 0 (nI 0))
      obtain ⟨v0, hv0, hv1, hv2, -⟩ := hs.2.2.2.1 m (by omega)
      rw [h3]
      simp (disch := omega) only [q_10, ↓reduceIte, q_lt, q_le, show ¬ n < 1 by omega, show n ≤ 30 by omega, b1, q_bo, nI_add, q_cl, Nat.not_lt_zero, false_or, show ¬ 279 ≤ 50 + m by omega, q_kSI, q_kI, Nat.reduceEqDiff, hv2]
      have key := q_two (fun f k (z : Int32 × kD × Int32) => lp (fun _ _ _ _ _ _ _ => none) (g_X11_odds_33 K C O S N) f (nI m) (nI n) x z.1 (nI k) z.2.1 (kI D 0 0 z.2.2)) (fun f k (z : Int32 × (Nat → Int32) × Int32) => lp (fun _ _ _ _ _ _ _ => none) g_X12_odds_46 f (nI m) (nI n) x (nI v0) z.1 (nI k) (mk (kSI (kI M 0 0 (nI 0)) 21 b) z.2.1 z.2.2))
        (fun k z t => z.1 = t.1 ∧ ∀ k, t.2.1 k = M.1 6 k)
        (fun r1 r2 => ∃ v TR' D' t y, r1 = some (v, TR', D') ∧ r2 = some (v, mk (kSI (kI M 0 0 (nI 0)) 21 b) t y) ∧ ∀ k, t k = M.1 6 k) n ?_ ?_ n 0 2000 2000 (nI 0, TR, D.1 0 0) (nI 0, M.1 6, M.1 0 35) (by omega) (by omega) (by omega) ⟨rfl, fun _ => rfl⟩
      · obtain ⟨v, TR', D', t, y, k1, k2, k3⟩ := key
        have eD : kI D 0 0 (D.1 0 0) = D := by
          refine kD_ext (fun z => ?_) rfl
          rw [q_kI]
          by_cases hz : z = 0
          · subst hz; rw [if_pos rfl]; funext j; rw [q_up]; split
            · next h9 => rw [h9]
            · rfl
          · rw [if_neg hz]
        have eM : mk (kSI (kI M 0 0 (nI 0)) 21 b) (M.1 6) (M.1 0 35) = kSI (kI M 0 0 (nI 0)) 21 b := by
          have e5 : kSI (kSI (kI M 0 0 (nI 0)) 21 b) 6 (M.1 6) = kSI (kI M 0 0 (nI 0)) 21 b := q_SM (kSI (kI M 0 0 (nI 0)) 21 b) 6
          unfold mk
          rw [e5]
          refine kD_ext (fun z => ?_) rfl
          rw [q_kI]
          by_cases hz : z = 0
          · subst hz; rw [if_pos rfl]; funext j; rw [q_up]; split
            · next h9 => rw [h9]; rfl
            · rfl
          · rw [if_neg hz]
        rw [eD] at k1
        rw [eM] at k2
        refine ⟨v, TR', D', _, k1, k2, MX_mk ⟨rfl, fun z h0 h6 h20 h21 => ?_, fun k h0 h22 h35 => ?_, fun k hk => rfl, fun k hk => rfl⟩ (fun k hk => k3 k) (fun k hk => k3 k), RSH_s hn hr0 (fun k _ _ => k3 k) rfl rfl⟩
        · show (if z = 21 then _ else if z = 0 then _ else M.1 z) = _
          rw [if_neg h21, if_neg h0]
        · show upd (M.1 0) 0 _ k = _
          exact pk_un h0
      · intro f e k ⟨z1, z2, z3⟩ ⟨t1, t2, t3⟩ hf he hk ⟨hz, ht⟩ ih
        have hz : z1 = t1 := hz
        subst hz
        have ht : ∀ k, t2 k = M.1 6 k := ht
        obtain ⟨T1, c1, c2⟩ := q_copyS z2 S
        have ho2 : RO nm np O ((mk (kSI (kI M 0 0 (nI 0)) 21 b) t2 t3).1 6) := RO_cg (s := M.1 6) (fun k _ => ht k) ho
        have hs2 : RS nm np d lt w h B T1 ((mk (kSI (kI M 0 0 (nI 0)) 21 b) t2 t3).1 6) := RS_S c2 (RS_s (fun k _ _ => ht k) hs hn) hn
        obtain ⟨S2, y, s2, lt2, w2, hh2, g1, g2, g3, g4, g5⟩ := q_draws (D := D) ho2 hs2 hB (x + nI k) 10 10 (min 10 (400 - d)) (by omega) (by omega) hd (by omega) (by omega) (by omega) (by omega)
        rw [mk_mk] at g2
        obtain ⟨F, f1, f2, f3⟩ := q_backM (mk (kSI (kI M 0 0 (nI 0)) 21 b) s2 y)
        rw [mk_S] at f1
        obtain ⟨v5, hv5, hv6, hv7, -⟩ := g3.2.2.2.1 m (by omega)
        have hF : ∀ k, F k = M.1 6 k := by
          intro k
          by_cases hk2 : k < 39 ∨ 98 ≤ k
          · refine (f3 k hk2).trans ?_
            rcases hk2 with hk2 | hk2
            · exact (g4 k hk2).trans (ht k)
            · exact (g5 k hk2).trans (ht k)
          · have e1 := f2 (k - 39) (by omega)
            have e2 := b2 (k - 39) (by omega)
            rw [show 39 + (k - 39) = k by omega] at e1 e2
            exact e1.trans e2
        simp only [q_lp]
        have hC : g_X11_odds_33 K C O S N (lp (fun _ _ _ _ _ _ _ => none) (g_X11_odds_33 K C O S N) f) (nI m) (nI n) x z1 (nI k) z2 (kI D 0 0 z3) = lp (fun _ _ _ _ _ _ _ => none) (g_X11_odds_33 K C O S N) f (nI m) (nI n) x (if v5 ≤ v0 then z1 else z1 + nI 1) (nI (k + 1)) S2 (kI D 0 0 y) := by
          generalize lp _ (g_X11_odds_33 K C O S N) f = rc
          unfold g_X11_odds_33 g_X11_odds_111
          by_cases h9 : v5 ≤ v0
          · simp (disch := omega) only [↓q_m1, q_lit, ↓q_bd, ↓reduceIte, q_le, show ¬ n ≤ k by omega, c1, q_bo, q_II, g1, q_bo2, q_lt, Nat.not_lt_zero, false_or, q_cl, show ¬ 6 ≤ m by omega, hv6, hv1, h9, nI_add]
          · simp (disch := omega) only [↓q_m1, q_lit, ↓q_bd, ↓reduceIte, q_le, show ¬ n ≤ k by omega, c1, q_bo, q_II, g1, q_bo2, q_lt, Nat.not_lt_zero, false_or, q_cl, show ¬ 6 ≤ m by omega, hv6, hv1, h9, nI_add]
        have hM : g_X12_odds_46 (lp (fun _ _ _ _ _ _ _ => none) g_X12_odds_46 e) (nI m) (nI n) x (nI v0) z1 (nI k) (mk (kSI (kI M 0 0 (nI 0)) 21 b) t2 t3) = lp (fun _ _ _ _ _ _ _ => none) g_X12_odds_46 e (nI m) (nI n) x (nI v0) (if v5 ≤ v0 then z1 else z1 + nI 1) (nI (k + 1)) (mk (kSI (kI M 0 0 (nI 0)) 21 b) F y) := by
          generalize lp _ g_X12_odds_46 e = rc
          unfold g_X12_odds_46 g_X12_odds_84
          by_cases h9 : v5 ≤ v0
          · simp (disch := omega) only [↓q_m1, q_lit, ↓q_bd, ↓reduceIte, q_le, show ¬ n ≤ k by omega, g2, q_bo2, nI_add, q_lt, Nat.not_lt_zero, false_or, q_cl, show ¬ 279 ≤ 50 + m by omega, mk_6, hv7, h9, f1, q_bo, q_addz]
          · simp (disch := omega) only [↓q_m1, q_lit, ↓q_bd, ↓reduceIte, q_le, show ¬ n ≤ k by omega, g2, q_bo2, nI_add, q_lt, Nat.not_lt_zero, false_or, q_cl, show ¬ 279 ≤ 50 + m by omega, mk_6, hv7, h9, f1, q_bo]
        rw [hC, hM]
        exact ih (_, S2, y) (_, F, y) ⟨rfl, hF⟩
      · intro f e ⟨z1, z2, z3⟩ ⟨t1, t2, t3⟩ ⟨hz, ht⟩
        have hz : z1 = t1 := hz
        subst hz
        refine ⟨z1, z2, kI D 0 0 z3, t2, t3, ?_, ?_, ht⟩
        · simp only [q_lp]
          generalize lp _ (g_X11_odds_33 K C O S N) f = rc
          unfold g_X11_odds_33
          simp (disch := omega) only [↓reduceIte, q_le, Nat.le_refl]
        · simp only [q_lp]
          generalize lp _ g_X12_odds_46 e = rc
          unfold g_X12_odds_46
          simp (disch := omega) only [↓reduceIte, q_le, Nat.le_refl]
    · rw [h3]
      simp only [↓reduceIte]
      rcases h4 with h4 | h4
      · rw [if_pos h4]
        exact ⟨_, _, _, _, rfl, rfl, MX_0 M _, hr0⟩
      · have h5 : ¬ c < nI 1 := fun h9 => by
          have := Int32.lt_trans h4 h9
          rw [q_lt (by omega) (by omega)] at this
          omega
        rw [if_neg h5, if_neg (Int32.not_le.mpr h4)]
        exact ⟨_, _, _, _, rfl, rfl, MX_0 M _, hr0⟩
  · rw [hm1, hm2, q_bo]
    simp (disch := omega) only [↓reduceIte]
    exact ⟨_, _, _, _, rfl, rfl, MX_0 M _, hr0⟩
