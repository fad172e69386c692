/-! machine-free: drawn, silent, odds -/
theorem q_draws {nm np d lt w h B : Nat} {O S D M : kD} (ho : RO nm np O (M.1 6)) (hs : RS nm np d lt w h B S (M.1 6)) (hB : B ≤ 900000000) (x : Int32) (c n g : Nat) (hc : c ≤ 60) (hn6 : n ≤ 60) (hd : d ≤ 400)
    (h1 : g ≤ c) (h2 : g ≤ n) (h3 : g ≤ 400 - d) (h4 : g = 400 - d ∨ (g = c ∧ g = n)) :
    ∃ S' y s' lt' w' h', f_X9_drawDays (nI c) S O (kI D 0 0 x) = some (S', kI D 0 0 y) ∧ f_X12_draws (nI n) x M = some (nI g, mk M s' y) ∧ RS nm np (d + g) lt' w' h' (B + 80 * g) S' s' ∧ (∀ k, k < 39 → s' k = M.1 6 k) ∧ (∀ k, 98 ≤ k → s' k = M.1 6 k) := by
  have hnm : nm ≤ 6 := ho.1.1
  have key := q_two (fun f k (z : kD × Int32) => lp (fun _ _ _ _ => none) (g_X9_drawDays_3 O) f (nI c) (nI k) z.1 (kI D 0 0 z.2)) (fun f k (z : (Nat → Int32) × Int32) => lp (fun _ _ _ => none) (g_X12_draws_7) f (nI n) (nI k) (mk M z.1 z.2))
    (fun k z t => z.2 = t.2 ∧ ∃ lt w h, RS nm np (d + k) lt w h (B + 80 * k) z.1 t.1 ∧ (∀ k, k < 39 → t.1 k = M.1 6 k) ∧ (∀ k, 98 ≤ k → t.1 k = M.1 6 k))
    (fun r1 r2 => ∃ S' y s' lt' w' h', r1 = some (S', kI D 0 0 y) ∧ r2 = some (nI g, mk M s' y) ∧ RS nm np (d + g) lt' w' h' (B + 80 * g) S' s' ∧ (∀ k, k < 39 → s' k = M.1 6 k) ∧ (∀ k, 98 ≤ k → s' k = M.1 6 k)) g ?_ ?_ g 0 2000 2000 (S, x) (M.1 6, x) (by omega) (by omega) (by omega) ⟨rfl, lt, w, h, by simpa using hs, fun _ _ => rfl, fun _ _ => rfl⟩
  · have e : f_X12_draws (nI n) x M = lp (fun _ _ _ => none) (g_X12_draws_7) 2000 (nI n) (nI 0) (mk M (M.1 6) x) := by
      unfold f_X12_draws mk
      rw [q_bd, q_SM]
      rfl
    rw [e]
    exact key
  · intro f e k ⟨z, zx⟩ ⟨t, tx⟩ hf he hk ⟨hx, lt, w, h, hr, hf1, hf2⟩ ih
    have hx : zx = tx := hx
    subst hx
    have ho2 : RO nm np O t := RO_cg hf1 ho
    have e0 : t 0 = nI nm := ho2.2.1.1
    have e2 : O.1 0 1 = nI nm := ho2.2.1.2.2.1
    have h39 : t 39 = nI (d + k) := hr.2.1.2.1
    have h00 : z.1 0 0 = nI (d + k) := hr.2.1.1
    simp only [q_lp]
    by_cases hm0 : 0 < nm
    · obtain ⟨S1, x1, s1, lt1, w1, h1', a1, a2, a3, a4, a5⟩ := q_drawDay (D := D) (M := M) (x := zx) ho2 hr (by omega) hm0
      have ho3 : RO nm np O ((mk M s1 x1).1 6) := RO_cg a4 ho2
      obtain ⟨b, S2, s2, lt2, w2, b1, b2, b3, b4, b5⟩ := q_day (M := mk M s1 x1) ho3 a3 (by omega) (by omega)
      rw [mk_S] at b2
      have hC : g_X9_drawDays_3 O (lp (fun _ _ _ _ => none) (g_X9_drawDays_3 O) f) (nI c) (nI k) z (kI D 0 0 zx) = lp (fun _ _ _ _ => none) (g_X9_drawDays_3 O) f (nI c) (nI (k + 1)) S2 (kI D 0 0 x1) := by
        generalize lp _ (g_X9_drawDays_3 O) f = rc
        unfold g_X9_drawDays_3
        simp (disch := omega) only [↓q_m1, q_lit, ↓q_bd, ↓reduceIte, q_le, show ¬ c ≤ k by omega, h00, show ¬ 400 ≤ d + k by omega, a1, q_bo2, b1, nI_add]
      have hM : g_X12_draws_7 (lp (fun _ _ _ => none) (g_X12_draws_7) e) (nI n) (nI k) (mk M t zx) = lp (fun _ _ _ => none) (g_X12_draws_7) e (nI n) (nI (k + 1)) (mk M s2 x1) := by
        generalize lp _ (g_X12_draws_7) e = rc
        unfold g_X12_draws_7 g_X12_draws_38
        simp (disch := omega) only [↓q_m1, q_lit, ↓q_bd, ↓reduceIte, q_le, show ¬ n ≤ k by omega, mk_6, q_cl, h39, show ¬ 400 ≤ d + k by omega, e0, show ¬ nm ≤ 0 by omega, a2, q_bo, b2, q_bo2, nI_add]
      rw [hC, hM]
      refine ih (S2, x1) (s2, x1) ⟨rfl, lt2, w2, h1', ?_, fun k hk => (b4 k hk).trans ((a4 k hk).trans (hf1 k hk)), fun k hk => (b5 k hk).trans ((a5 k hk).trans (hf2 k hk))⟩
      rw [show d + (k + 1) = d + k + 1 by omega, show B + 80 * (k + 1) = B + 80 * k + 40 + 40 by omega]
      exact b3
    · obtain ⟨b, S2, s2, lt2, w2, b1, b2, b3, b4, b5⟩ := q_day (M := mk M t zx) ho2 hr (by omega) (by omega)
      rw [mk_S] at b2
      have hC : g_X9_drawDays_3 O (lp (fun _ _ _ _ => none) (g_X9_drawDays_3 O) f) (nI c) (nI k) z (kI D 0 0 zx) = lp (fun _ _ _ _ => none) (g_X9_drawDays_3 O) f (nI c) (nI (k + 1)) S2 (kI D 0 0 zx) := by
        generalize lp _ (g_X9_drawDays_3 O) f = rc
        unfold g_X9_drawDays_3 f_X9_drawAct
        simp (disch := omega) only [↓q_m1, q_lit, ↓q_bd, ↓reduceIte, q_le, show ¬ c ≤ k by omega, h00, show ¬ 400 ≤ d + k by omega, e2, q_eq, show nm = 0 by omega, q_bo2, b1, nI_add]
      have hM : g_X12_draws_7 (lp (fun _ _ _ => none) (g_X12_draws_7) e) (nI n) (nI k) (mk M t zx) = lp (fun _ _ _ => none) (g_X12_draws_7) e (nI n) (nI (k + 1)) (mk M s2 zx) := by
        generalize lp _ (g_X12_draws_7) e = rc
        unfold g_X12_draws_7 g_X12_draws_38
        simp (disch := omega) only [↓q_m1, q_lit, ↓q_bd, ↓reduceIte, q_le, show ¬ n ≤ k by omega, mk_6, q_cl, h39, show ¬ 400 ≤ d + k by omega, e0, show nm ≤ 0 by omega, q_bo, b2, q_bo2, nI_add]
      rw [hC, hM]
      refine ih (S2, zx) (s2, zx) ⟨rfl, lt2, w2, h, ?_, fun k hk => (b4 k hk).trans (hf1 k hk), fun k hk => (b5 k hk).trans (hf2 k hk)⟩
      rw [show d + (k + 1) = d + k + 1 by omega]
      exact RS_B (by omega) b3
  · intro f e ⟨z, zx⟩ ⟨t, tx⟩ ⟨hx, lt, w, h, hr, hf1, hf2⟩
    have hx : zx = tx := hx
    subst hx
    have h39 : t 39 = nI (d + g) := hr.2.1.2.1
    have h00 : z.1 0 0 = nI (d + g) := hr.2.1.1
    refine ⟨z, zx, t, lt, w, h, ?_, ?_, hr, hf1, hf2⟩
    · simp only [q_lp]
      generalize lp _ (g_X9_drawDays_3 O) f = rc
      unfold g_X9_drawDays_3
      by_cases hcg : c ≤ g
      · simp (disch := omega) only [↓q_m1, q_lit, ↓reduceIte, q_le, hcg]
      · simp (disch := omega) only [↓q_m1, q_lit, ↓reduceIte, q_le, hcg, h00, show 400 ≤ d + g by omega]
    · simp only [q_lp]
      generalize lp _ (g_X12_draws_7) e = rc
      unfold g_X12_draws_7
      by_cases hcg : n ≤ g
      · simp (disch := omega) only [↓q_m1, q_lit, ↓reduceIte, q_le, hcg]
      · simp (disch := omega) only [↓q_m1, q_lit, ↓reduceIte, q_le, hcg, mk_6, q_cl, h39, show 400 ≤ d + g by omega]
theorem MX_mk {M M1 : kD} {s' : Nat → Int32} {x : Int32} (h : MX M M1) (h1 : ∀ k, k < 39 → s' k = M1.1 6 k) (h2 : ∀ k, 98 ≤ k → s' k = M1.1 6 k) : MX M (mk M1 s' x) := by
  obtain ⟨a1, a2, a3, a4, a5⟩ := h
  refine ⟨a1, fun b h0 h6 h20 h21 => ?_, fun k h0 h22 h35 => ?_, fun k hk => (h1 k hk).trans (a4 k hk), fun k hk => (h2 k hk).trans (a5 k hk)⟩
  · show (if b = 0 then _ else if b = 6 then _ else M1.1 b) = _
    rw [if_neg h0, if_neg h6]
    exact a2 b h0 h6 h20 h21
  · show upd (M1.1 0) 35 x k = _
    rw [pk_un h35]
    exact a3 k h0 h22 h35
theorem MX_kk {M : kD} {v w : Int32} {un : Nat → Int32} : MX M (kI (kSI (kI M 0 0 v) 20 un) 0 22 w) := by
  have := MX_k (M := M) (v := v) (w := w) (un := un) (s' := M.1 6) (fun _ _ => rfl) (fun _ _ => rfl)
  have e : kSI (kI (kSI (kI M 0 0 v) 20 un) 0 22 w) 6 (M.1 6) = kI (kSI (kI M 0 0 v) 20 un) 0 22 w := q_SM (kI (kSI (kI M 0 0 v) 20 un) 0 22 w) 6
  rw [e] at this
  exact this
theorem q_drawn {nm np B : Nat} {O S Hy M K C N D : kD} {HS : Nat → kD} (ho : RO nm np O (M.1 6)) (hr : RSH nm np B S Hy HS M) (hB : B ≤ 900000000) (a x : Int32) :
    ∃ v S' Hy' HS' D' M', f_X11_drawn a x K C O S N Hy HS D = some (v, S', Hy', HS', D') ∧ f_X12_drawn a x M = some (v, M') ∧ MX M M' ∧ RSH nm np (B + 4800) S' Hy' HS' M' := by
  have hr0 := RSH_B (show B ≤ B + 4800 by omega) hr
  obtain ⟨d, lt, w, h, u, o, hd, hs, hH, hu⟩ := hr
  have hn : nm ≤ 6 := ho.1.1
  have h39 : M.1 6 39 = nI d := hs.2.1.2.1
  have h00 : S.1 0 0 = nI d := hs.2.1.1
  unfold f_X11_drawn f_X12_drawn g_X12_drawn_34 f_X9_daysLeft
  simp only [↓q_m1, q_lit, ↓q_bd, q_isDays]
  rcases q_isIn 0 1 60 a (by omega) (by omega) with ⟨n, h1, h2, rfl, h3⟩ | ⟨-, h3, h4⟩
  · rw [h3]
    simp (disch := omega) only [q_10, ↓reduceIte, h00, q_going h2 hd, q_le, q_cl, q_kI, Nat.reduceEqDiff, h39, q_eq]
    by_cases hd4 : d = 400
    · subst hd4
      obtain ⟨S', y, s', lt', w', h', t1, t2, t3, t4, t5⟩ := q_draws (D := D) (M := kI M 0 0 (nI 0)) ho hs hB x 0 n 0 (by omega) h2 hd (by omega) (by omega) (by omega) (Or.inl (by omega))
      rw [if_pos (Nat.le_refl 400)]
      simp (disch := omega) only [Nat.sub_self, Nat.min_zero, Nat.le_refl, ↓reduceIte, t2, q_bo2]
      refine ⟨_, _, _, _, _, _, rfl, rfl, MX_mk (MX_0 M _) t4 t5, ?_⟩
      have hSS : S' = S := by
        have : f_X9_drawDays (nI 0) S O (kI D 0 0 x) = some (S, kI D 0 0 x) := by
          unfold f_X9_drawDays
          rw [q_lp]
          generalize lp _ (g_X9_drawDays_3 O) 1999 = rc
          unfold g_X9_drawDays_3
          simp (disch := omega) only [↓q_m1, q_lit, ↓reduceIte, q_le, Nat.le_refl]
        rw [this] at t1
        have t1 := Option.some.inj t1
        exact (congrArg Prod.fst t1).symm
      subst hSS
      exact ⟨400, lt', w', h', u, o, by omega, RS_B (by omega) t3, RH_B (by omega) hH, hu⟩
    · have hg : ¬ min n (400 - d) ≤ 0 := by
        have : min n (400 - d) = n ∨ min n (400 - d) = 400 - d := by omega
        omega
      obtain ⟨Hy', HS', un', u', o', k1, k2, k3, k4, -⟩ := q_keep (M := kI M 0 0 (nI 0)) hn hs hd hH hu
      have hg3 : min n (400 - d) = n ∨ min n (400 - d) = 400 - d := by omega
      obtain ⟨S', y, s', lt', w', h', t1, t2, t3, t4, t5⟩ := q_draws (D := D) (M := kI (kSI (kI M 0 0 (nI 0)) 20 un') 0 22 (nI (u' + 1))) ho hs hB x (min n (400 - d)) n (min n (400 - d)) (by omega) h2 hd (by omega) (by omega) (by omega) (hg3.elim (fun e => Or.inr ⟨rfl, e⟩) Or.inl)
      rw [if_neg hg, if_neg (show ¬ 400 ≤ d by omega), k1, k2, q_bo2, q_bo, t1, t2, q_bo2, q_bo2]
      exact ⟨_, _, _, _, _, _, rfl, rfl, MX_mk MX_kk t4 t5, d + min n (400 - d), lt', w', h', u' + 1, o', by omega, RS_B (by omega) t3, RH_B (by omega) k3, rfl⟩
  · rw [h3]
    simp only [↓reduceIte]
    exact ⟨_, _, _, _, _, _, rfl, rfl, MX_0 M _, hr0⟩
