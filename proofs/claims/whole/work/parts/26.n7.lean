/-! machine-free: days -/
theorem q_goes {nm np d lt w h B : Nat} {O S M : kD} (ho : RO nm np O (M.1 6)) (hs : RS nm np d lt w h B S (M.1 6)) (hB : B ≤ 900000000) (n : Nat) (hn9 : n ≤ 60) (hd : d ≤ 400) :
    ∃ S' s' lt' w', f_X9_passDays (nI (min n (400 - d))) S O = some S' ∧ f_X12_goesOn (nI n) M = some (nI (min n (400 - d)), kSI M 6 s') ∧ RS nm np (d + min n (400 - d)) lt' w' h (B + 40 * min n (400 - d)) S' s' ∧ (∀ k, k < 39 → s' k = M.1 6 k) ∧ (∀ k, 98 ≤ k → s' k = M.1 6 k) := by
  have hg1 : min n (400 - d) ≤ n := Nat.min_le_left _ _
  have hg2 : min n (400 - d) ≤ 400 - d := Nat.min_le_right _ _
  have hg3 : min n (400 - d) = n ∨ min n (400 - d) = 400 - d := by omega
  generalize min n (400 - d) = g at hg1 hg2 hg3 ⊢
  have h1 := q_two (fun f k (x : kD) => lp (fun _ _ _ => none) (g_X9_passDays_2 O) f (nI g) (nI k) x) (fun f k (y : Nat → Int32) => lp (fun _ _ _ => none) (g_X12_goesOn_2) f (nI n) (nI k) (kSI M 6 y))
    (fun k x y => ∃ lt w, RS nm np (d + k) lt w h (B + 40 * k) x y ∧ (∀ k, k < 39 → y k = M.1 6 k) ∧ (∀ k, 98 ≤ k → y k = M.1 6 k))
    (fun r1 r2 => ∃ S' s' lt' w', r1 = some S' ∧ r2 = some (nI g, kSI M 6 s') ∧ RS nm np (d + g) lt' w' h (B + 40 * g) S' s' ∧ (∀ k, k < 39 → s' k = M.1 6 k) ∧ (∀ k, 98 ≤ k → s' k = M.1 6 k)) g ?_ ?_ g 0 2000 2000 S (M.1 6) (by omega) (by omega) (by omega) ⟨lt, w, by simpa using hs, fun _ _ => rfl, fun _ _ => rfl⟩
  · rw [q_SM] at h1
    exact h1
  · intro f e k x y hf he hk ⟨lt, w, hr, hf1, hf2⟩ ih
    have ho2 : RO nm np O ((kSI M 6 y).1 6) := RO_cg (s := M.1 6) (fun k hk => hf1 k hk) ho
    obtain ⟨b, S', s', lt', w', e1, e2, hr', hf1', hf2'⟩ := q_day (M := kSI M 6 y) ho2 hr (by omega) (by omega)
    simp only [q_lp]
    have h39 : y 39 = nI (d + k) := hr.2.1.2.1
    have hC : g_X9_passDays_2 O (lp (fun _ _ _ => none) (g_X9_passDays_2 O) f) (nI g) (nI k) x = lp (fun _ _ _ => none) (g_X9_passDays_2 O) f (nI g) (nI (k + 1)) S' := by
      unfold g_X9_passDays_2
      simp (disch := omega) only [↓q_m1, q_lit, q_le, show ¬ g ≤ k by omega, if_false, e1, q_bo2, q_bd, nI_add]
    have hM : g_X12_goesOn_2 (lp (fun _ _ _ => none) (g_X12_goesOn_2) e) (nI n) (nI k) (kSI M 6 y) = lp (fun _ _ _ => none) (g_X12_goesOn_2) e (nI n) (nI (k + 1)) (kSI M 6 s') := by
      unfold g_X12_goesOn_2
      simp (disch := omega) only [↓q_m1, q_lit, q_cl, q_le, show ¬ n ≤ k by omega, if_false, q_kSI, if_true, h39, show ¬ 400 ≤ d + k by omega, e2, q_bo2, q_bd, nI_add, q_SS]
    rw [hC, hM]
    refine ih S' s' ⟨lt', w', ?_, fun k hk => by rw [hf1' k hk]; exact hf1 k hk, fun k hk => by rw [hf2' k hk]; exact hf2 k hk⟩
    rw [show d + (k + 1) = d + k + 1 by omega, show B + 40 * (k + 1) = B + 40 * k + 40 by omega]
    exact hr'
  · intro f e x y ⟨lt, w, hr, hf1, hf2⟩
    have h39 : y 39 = nI (d + g) := hr.2.1.2.1
    refine ⟨x, y, lt, w, ?_, ?_, hr, hf1, hf2⟩
    · show g_X9_passDays_2 O (lp _ _ f) (nI g) (nI g) x = _
      unfold g_X9_passDays_2
      simp (disch := omega) only [q_le, Nat.le_refl, if_true]
    · show g_X12_goesOn_2 (lp _ _ e) (nI n) (nI g) (kSI M 6 y) = _
      unfold g_X12_goesOn_2
      simp (disch := omega) only [↓q_m1, q_lit, q_cl, q_le, q_kSI, if_true, h39]
      rcases hg3 with h9 | h9
      · rw [if_pos (by omega)]
      · by_cases h8 : n ≤ g
        · rw [if_pos h8]
        · rw [if_neg h8, if_pos (by omega)]
