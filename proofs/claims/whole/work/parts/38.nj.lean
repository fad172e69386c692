/-! machine-free: comes, the class's walk of it -/
theorem q_canB {nm np d lt w h B : Nat} {O S M : kD} (ho : RO nm np O (M.1 6)) (hs : RS nm np d lt w h B S (M.1 6)) {y : Nat} (hy : y < 48) : f_X5_canBe (nI y) O S = some (q_b (cBw nm h O y)) := by
  have hn : nm ≤ 6 := ho.1.1
  have hp : np ≤ 8 := ho.1.2
  have hh := hs.1.2.2.2.2
  have h3 : S.1 0 3 = nI h := hs.2.1.2.2.2.2.2.2.1
  have e2 : O.1 0 1 = nI nm := ho.2.1.2.2.1
  have e3 : O.1 0 2 = nI np := ho.2.1.2.2.2.1
  have hb : f_X9_isHeld (nI (y / 8)) S = q_b (h.testBit (y / 8)) := by
    unfold f_X9_isHeld
    rw [h3]
    exact (q_bit h (Nat.lt_of_lt_of_le (q_h64 hn hh) (by decide)) (y / 8) (by omega)).1
  have hk : f_X3_knowsOf (nI (y / 8)) (nI (y % 8)) O = some (q_b (decide (y / 8 < nm) && (O.1 6 (y / 8)).toNatClampNeg.testBit (y % 8))) := by
    by_cases hm : y / 8 < nm
    · rw [decide_eq_true hm, Bool.true_and]
      by_cases hq : y % 8 < np
      · exact (q_knows ho hm hq).1
      · obtain ⟨k, hk0, hk2, hk3⟩ := ho.2.2.1 (y / 8) hm
        have hkc : (O.1 6 (y / 8)).toNatClampNeg = k := by rw [hk2]; exact q_cl (by have := q_pow hp hk0; omega)
        rw [hkc, Nat.testBit_lt_two_pow (Nat.lt_of_lt_of_le hk0 (Nat.pow_le_pow_right (by omega) (show np ≤ y % 8 by omega)))]
        unfold f_X3_knowsOf f_X3_hasPhrase
        rw [q_hm hn e2 hm]
        simp (disch := omega) only [↓q_m1, q_lit, q_10, ↓reduceIte, q_lt, q_le, e3, Nat.not_lt_zero, show np ≤ y % 8 by omega]
        rfl
    · rw [decide_eq_false hm, Bool.false_and]
      unfold f_X3_knowsOf f_X3_hasMachine
      simp (disch := omega) only [↓q_m1, q_lit, q_10, ↓reduceIte, q_lt, q_le, e2, Nat.not_lt_zero, show nm ≤ y / 8 by omega]
      rfl
  unfold f_X5_canBe cBw
  simp (disch := omega) only [↓q_m1, q_lit, ↓q_bd, q_div8, q_rem, hb, q_qb, hk, q_bo]
  cases h.testBit (y / 8) <;> cases decide (y / 8 < nm) <;> cases (O.1 6 (y / 8)).toNatClampNeg.testBit (y % 8) <;> rfl
theorem cB_p {nm np d lt w h B : Nat} {O S M : kD} (ho : RO nm np O (M.1 6)) {y : Nat} (hc : cBw nm h O y = true) : y / 8 < nm ∧ y % 8 < np := by
  unfold cBw at hc
  simp only [Bool.and_eq_true, decide_eq_true_eq] at hc
  refine ⟨hc.1, ?_⟩
  obtain ⟨k, hk0, hk2, hk3⟩ := ho.2.2.1 (y / 8) hc.1
  have hp : np ≤ 8 := ho.1.2
  have hkc : (O.1 6 (y / 8)).toNatClampNeg = k := by rw [hk2]; exact q_cl (by have := q_pow hp hk0; omega)
  by_cases hq : y % 8 < np
  · exact hq
  · have h1 := hc.2.2
    rw [hkc, Nat.testBit_lt_two_pow (Nat.lt_of_lt_of_le hk0 (Nat.pow_le_pow_right (by omega) (show np ≤ y % 8 by omega)))] at h1
    cases h1
theorem q_anC {nm np : Nat} {O M : kD} (ho : RO nm np O (M.1 6)) {p q : Nat} (hp0 : p < np) (hq : q < np) : f_X3_isAnswer (nI p) (nI q) O = some (q_b (cAn (M.1 6) p q)) := by
  have h1 := q_answer ho hp0 hq
  have hp : np ≤ 8 := ho.1.2
  rw [q_an12 (by omega) (by omega)] at h1
  rw [h1.1]
  exact h1.2.symm
theorem q_folE {nm np d lt w h B : Nat} {O S M : kD} (ho : RO nm np O (M.1 6)) {x y : Nat} (hx : x < 48) (hy : y < 48) (hxp : x % 8 < np) (hc : cBw nm h O y = true) :
    f_X5_follows (nI (x / 8)) (nI (x % 8)) (nI y) O = some (q_b (cE nm h O (M.1 6) x y)) := by
  have hp : np ≤ 8 := ho.1.2
  have hyp := (cB_p (np := np) (d := d) (lt := lt) (w := w) (B := B) (S := S) ho hc).2
  unfold f_X5_follows cE
  simp (disch := omega) only [↓q_m1, q_lit, ↓q_bd, q_neg, ↓reduceIte, q_div8, q_rem, q_eq, q_anC ho hyp hxp, q_bo, q_qb, hc, Bool.true_and]
  by_cases h1 : y / 8 = x / 8
  · rw [if_pos h1, decide_eq_false (show ¬ (y / 8 ≠ x / 8) from fun h9 => h9 h1)]; rfl
  · rw [if_neg h1, decide_eq_true h1]
    cases cAn (M.1 6) (y % 8) (x % 8) <;> rfl
theorem q_folS {nm np d lt w h B : Nat} {O S M : kD} (ho : RO nm np O (M.1 6)) (hs : RS nm np d lt w h B S (M.1 6)) {y : Nat} (hy : y < 48) (hc : cBw nm h O y = true) :
    f_X5_follows (S.1 0 2) (S.1 0 1) (nI y) O = some (q_b (cS nm h lt w O (M.1 6) y)) := by
  have hp : np ≤ 8 := ho.1.2
  have hn : nm ≤ 6 := ho.1.1
  have hyp := (cB_p (np := np) (d := d) (lt := lt) (w := w) (B := B) (S := S) ho hc).2
  obtain ⟨hd, hlt, hw, hlw, hh⟩ := hs.1
  have h1 : S.1 0 1 = nI lt - nI 1 := hs.2.1.2.2.1
  have h2 : S.1 0 2 = nI w - nI 1 := hs.2.1.2.2.2.2.1
  unfold f_X5_follows cS
  rw [h1, h2, hc]
  by_cases hl0 : lt = 0
  · subst hl0
    simp only [↓q_m1, q_lit, q_0m1, ↓reduceIte]
    rfl
  · have hw0 : w ≠ 0 := fun e => hl0 (hlw.mpr e)
    rw [q_sub (show 1 ≤ w by omega), q_sub (show 1 ≤ lt by omega)]
    simp (disch := omega) only [↓q_m1, q_lit, q_neg, ↓reduceIte, q_div8, q_rem, q_eq, q_anC ho hyp (show lt - 1 < np by omega), q_bo, q_qb, Bool.true_and, decide_eq_false hl0, Bool.false_or]
    by_cases h3 : y / 8 = w - 1
    · rw [if_pos h3, decide_eq_false (show ¬ (y / 8 + 1 ≠ w) from fun h9 => h9 (by omega))]; rfl
    · rw [if_neg h3, decide_eq_true (show y / 8 + 1 ≠ w by omega)]
      cases cAn (M.1 6) (y % 8) (lt - 1) <;> rfl
/-- the nearest: the first of the least -/
theorem q_near {P O : kD} {V : Nat → Nat} {F : Nat → Bool} {a1 a2 : Int32} (hV : ∀ y, y < 48 → P.1 100 y = nI (V y) - nI 1 ∧ V y < 1000) (hF : ∀ y, y < 48 → V y ≠ 0 → f_X5_follows a1 a2 (nI y) O = some (q_b (F y))) :
    ((∀ y, y < 48 → V y ≠ 0 → F y = false) → f_X5_nearest a1 a2 P O = some mI) ∧
    (∀ y, y < 48 → V y ≠ 0 → F y = true → (∀ j, j < 48 → V j ≠ 0 → F j = true → V y ≤ V j ∧ (j < y → V y < V j)) → f_X5_nearest a1 a2 P O = some (nI y)) := by
  have run : ∃ b : Nat, f_X5_nearest a1 a2 P O = some (nI b - nI 1) ∧ ((b = 0 ∧ ∀ y, y < 48 → V y ≠ 0 → F y = false) ∨ (0 < b ∧ b - 1 < 48 ∧ V (b - 1) ≠ 0 ∧ F (b - 1) = true ∧ ∀ j, j < 48 → V j ≠ 0 → F j = true → V (b - 1) ≤ V j ∧ (j < b - 1 → V (b - 1) < V j))) := by
    refine q_one (fun f k (b : Nat) => lp (fun _ _ _ _ => none) (g_X5_nearest_6 P O) f a1 a2 (nI b - nI 1) (nI k)) (fun k b => (b = 0 ∧ ∀ y, y < k → V y ≠ 0 → F y = false) ∨ (0 < b ∧ b - 1 < k ∧ V (b - 1) ≠ 0 ∧ F (b - 1) = true ∧ ∀ j, j < k → V j ≠ 0 → F j = true → V (b - 1) ≤ V j ∧ (j < b - 1 → V (b - 1) < V j)))
      (fun r => ∃ b : Nat, r = some (nI b - nI 1) ∧ ((b = 0 ∧ ∀ y, y < 48 → V y ≠ 0 → F y = false) ∨ (0 < b ∧ b - 1 < 48 ∧ V (b - 1) ≠ 0 ∧ F (b - 1) = true ∧ ∀ j, j < 48 → V j ≠ 0 → F j = true → V (b - 1) ≤ V j ∧ (j < b - 1 → V (b - 1) < V j)))) 48 ?_ ?_ 48 0 2000 0 (by omega) (by omega) (Or.inl ⟨rfl, fun y hy => by omega⟩)
    · intro f k b _ hk hI ih
      obtain ⟨v1, v2⟩ := hV k hk
      simp only [q_lp]
      generalize lp _ (g_X5_nearest_6 P O) f = rc at ih ⊢
      unfold g_X5_nearest_6 g_X5_nearest_58 g_X5_nearest_62
      simp (disch := omega) only [↓q_m1, q_lit, ↓q_bd, ↓reduceIte, q_le, show ¬ 48 ≤ k by omega, q_lt, q_cl, Nat.not_lt_zero, false_or, v1, nI_add]
      by_cases hvk : V k = 0
      · rw [hvk, if_pos q_0m1]
        refine ih b ?_
        rcases hI with ⟨h1, h2⟩ | ⟨h1, h2, h3, h4, h5⟩
        · exact Or.inl ⟨h1, fun y hy hv => by
            by_cases hyk : y = k
            · subst hyk; exact absurd hvk hv
            · exact h2 y (by omega) hv⟩
        · exact Or.inr ⟨h1, by omega, h3, h4, fun j hj hv hf => by
            by_cases hjk : j = k
            · subst hjk; exact absurd hvk hv
            · exact h5 j (by omega) hv hf⟩
      · have hne : (nI (V k) - nI 1 = mI) = False := by rw [q_sub (by omega)]; exact q_neg _ (by omega)
        simp only [hne, ↓reduceIte, hF k hk hvk, q_bo, q_qb]
        cases hFk : F k with
        | false =>
          simp only [↓reduceIte]
          refine ih b ?_
          rcases hI with ⟨h1, h2⟩ | ⟨h1, h2, h3, h4, h5⟩
          · exact Or.inl ⟨h1, fun y hy hv => by
              by_cases hyk : y = k
              · subst hyk; exact hFk
              · exact h2 y (by omega) hv⟩
          · exact Or.inr ⟨h1, by omega, h3, h4, fun j hj hv hf => by
              by_cases hjk : j = k
              · subst hjk; rw [hFk] at hf; cases hf
              · exact h5 j (by omega) hv hf⟩
        | true =>
          simp only [Bool.true_eq_false, ↓reduceIte]
          have ek : nI k = nI (k + 1) - nI 1 := by rw [q_sub (by omega), Nat.add_sub_cancel]
          rcases hI with ⟨h1, h2⟩ | ⟨h1, h2, h3, h4, h5⟩
          · subst h1
            rw [if_pos q_0m1, ek]
            exact ih (k + 1) (Or.inr ⟨by omega, by omega, hvk, hFk, fun j hj hv hf => by
              by_cases hjk : j = k
              · subst hjk; exact ⟨Nat.le_refl _, fun h9 => by omega⟩
              · rw [h2 j (by omega) hv] at hf; cases hf⟩)
          · have hb : (nI b - nI 1 = mI) = False := by rw [q_sub (by omega)]; exact q_neg _ (by omega)
            obtain ⟨u1, u2⟩ := hV (b - 1) (by omega)
            simp (disch := omega) only [q_neg, ↓reduceIte, q_sub (show 1 ≤ b by omega), q_lt, q_cl, Nat.not_lt_zero, false_or, show ¬ 48 ≤ b - 1 by omega, u1, q_sub, q_le]
            by_cases h9 : V (b - 1) - 1 ≤ V k - 1
            · rw [if_pos h9]
              have ih1 := ih b
              rw [q_sub (show 1 ≤ b by omega)] at ih1
              exact ih1 (Or.inr ⟨h1, by omega, h3, h4, fun j hj hv hf => by
                by_cases hjk : j = k
                · subst hjk; exact ⟨by omega, fun h8 => by omega⟩
                · exact h5 j (by omega) hv hf⟩)
            · rw [if_neg h9, ek]
              exact ih (k + 1) (Or.inr ⟨by omega, by omega, hvk, hFk, fun j hj hv hf => by
                by_cases hjk : j = k
                · subst hjk; exact ⟨Nat.le_refl _, fun h8 => by omega⟩
                · have h8 := h5 j (by omega) hv hf
                  exact ⟨by show V k ≤ V j; omega, fun _ => by show V k < V j; omega⟩⟩)
    · intro f b hI
      refine ⟨b, ?_, hI⟩
      simp only [q_lp]
      generalize lp _ (g_X5_nearest_6 P O) f = rc
      unfold g_X5_nearest_6
      simp (disch := omega) only [↓q_m1, q_lit, ↓reduceIte, q_le, Nat.le_refl]
  obtain ⟨b, e, hb⟩ := run
  refine ⟨fun h => ?_, fun y hy hv hf hmin => ?_⟩
  · rcases hb with ⟨h1, h2⟩ | ⟨h1, h2, h3, h4, h5⟩
    · rw [e, h1, q_0m1]
    · rw [h (b - 1) h2 h3] at h4; cases h4
  · rcases hb with ⟨h1, h2⟩ | ⟨h1, h2, h3, h4, h5⟩
    · rw [h2 y hy hv] at hf; cases hf
    · have h6 := h5 y hy hv hf
      have h7 := hmin (b - 1) h2 h3 h4
      have : b - 1 = y := by
        by_cases h8 : y < b - 1
        · have := h6.2 h8; omega
        · by_cases h9 : b - 1 < y
          · have := h7.2 h9; omega
          · omega
      rw [e, q_sub (by omega), this]
