/-! machine-free: what is taken off the tape; lacks; ship -/
/-- taken: the tape's bytes can still be read, it is empty -/
theorem q_taken (M : kD) (n : Nat) (most : Int32) (h : M.1 0 2 = nI n) : ∃ M', f_X12_taken most M = some M' ∧ M'.1 0 3 = nI n ∧ M'.1 0 2 = nI 0 ∧ M'.1 0 4 = nI 0 ∧ M'.1 0 5 = most ∧ M'.2 = M.2 ∧ (∀ b, b ≠ 0 → M'.1 b = M.1 b) ∧ ∀ k, k ≠ 2 → k ≠ 3 → k ≠ 4 → k ≠ 5 → M'.1 0 k = M.1 0 k := by
  refine ⟨_, rfl, h, rfl, rfl, rfl, rfl, fun b hb => ?_, fun k h2 h3 h4 h5 => ?_⟩
  · show (if b = 0 then _ else if b = 0 then _ else if b = 0 then _ else if b = 0 then _ else M.1 b) = _
    rw [if_neg hb, if_neg hb, if_neg hb, if_neg hb]
  · show upd (upd (upd (upd (M.1 0) 3 _) 2 _) 4 _) 5 _ k = _
    rw [pk_un h5, pk_un h4, pk_un h2, pk_un h3]
/-- the tape as it was when it was taken -/
def RZ (n : Nat) (T : Nat → Int32) (M : kD) : Prop := n ≤ 940 ∧ M.1 0 3 = nI n ∧ ∀ i, i < 940 → ∃ t, t < 256 ∧ T i = nI t ∧ M.1 1 i &&& nI 255 = nI t
theorem q_oct {n : Nat} {T : Nat → Int32} {M : kD} (h : RZ n T M) {i : Nat} (hi : i < 940) : f_X12_octet (nI i) M = some (T i) := by
  obtain ⟨t, h1, h2, h3⟩ := h.2.2 i hi
  unfold f_X12_octet
  simp (disch := omega) only [↓q_m1, q_lit, ↓q_bd, ↓reduceIte, q_lt, Nat.not_lt_zero, false_or, q_cl, show ¬ 940 ≤ i by omega, h3, h2]
/-- phrases on the tape -/
def tP (np n : Nat) (T : Nat → Int32) : Prop := 1 ≤ n ∧ n ≤ 9 ∧ ∀ i, i < n → ∃ p, p < np ∧ T i = nI p
theorem q_tellsP {np n : Nat} {O K C S N M : kD} {T : Nat → Int32} (hp : np ≤ 8) (h1 : O.1 0 2 = nI np) (h2 : M.1 6 1 = nI np) (hz : RZ n T M) :
    (tP np n T ∧ f_X11_tellsPhrases (nI n) K T C O S N = some (nI 1) ∧ f_X12_isRow M = some (nI 1)) ∨ (¬ tP np n T ∧ f_X11_tellsPhrases (nI n) K T C O S N = some (nI 0) ∧ f_X12_isRow M = some (nI 0)) := by
  have h3 : M.1 0 3 = nI n := hz.2.1
  have hn := hz.1
  by_cases hr : 1 ≤ n ∧ n ≤ 9
  · -- both loops side by side
    have key := q_two (fun f k (_ : Unit) => lp (fun _ _ => none) (g_X11_tellsPhrases_15 K T C O S N) f (nI n) (nI k)) (fun f k (_ : Unit) => lp (fun _ _ => none) (g_X12_isRow_13 M) f (nI 1) (nI k)) (fun k _ _ => ∀ i, i < k → ∃ p, p < np ∧ T i = nI p)
      (fun r1 r2 => (tP np n T ∧ r1 = some (nI 1) ∧ r2 = some (nI 1)) ∨ (¬ tP np n T ∧ r1 = some (nI 0) ∧ r2 = some (nI 0))) n ?_ ?_ n 0 2000 2000 () () (by omega) (by omega) (by omega) (fun i hi => by omega)
    · have e1 : f_X11_tellsPhrases (nI n) K T C O S N = lp (fun _ _ => none) (g_X11_tellsPhrases_15 K T C O S N) 2000 (nI n) (nI 0) := by
        unfold f_X11_tellsPhrases
        simp (disch := omega) only [↓q_m1, q_lit, ↓reduceIte, q_lt, q_le, show ¬ n < 1 by omega, hr.2]
      have e2 : f_X12_isRow M = lp (fun _ _ => none) (g_X12_isRow_13 M) 2000 (nI 1) (nI 0) := by
        unfold f_X12_isRow f_X12_isIn
        simp (disch := omega) only [↓q_m1, q_lit, ↓q_bd, ↓reduceIte, h3, q_lt, show ¬ n < 1 by omega, show ¬ 9 < n by omega]
      rw [e1, e2]
      exact key
    · intro f e k _ _ hf he hk hI ih
      simp only [q_lp]
      have ho := q_oct hz (show k < 940 by omega)
      rcases q_phr hp h1 h2 (T k) with ⟨p, hp1, hp2, hp3, hp4⟩ | ⟨hp1, hp3, hp4⟩
      · generalize lp _ (g_X11_tellsPhrases_15 K T C O S N) f = rc at ih ⊢
        generalize lp _ (g_X12_isRow_13 M) e = rd at ih ⊢
        unfold g_X11_tellsPhrases_15 g_X12_isRow_13
        simp (disch := omega) only [↓q_m1, q_lit, ↓q_bd, ↓reduceIte, q_le, show ¬ n ≤ k by omega, q_lt, Nat.not_lt_zero, false_or, q_cl, show ¬ 940 ≤ k by omega, hp3, q_10, h3, ho, q_bo, hp4, nI_add]
        exact ih () () (fun i hi => by
          by_cases hik : i = k
          · subst hik; exact ⟨p, hp1, hp2⟩
          · exact hI i (by omega))
      · obtain ⟨e, rfl⟩ : ∃ q, e = q + 1 := ⟨e - 1, by omega⟩
        have hstop : lp (fun _ _ => none) (g_X12_isRow_13 M) (e + 1) (nI 0) (nI (k + 1)) = some (nI 0) := by
          rw [q_lp]
          generalize lp _ (g_X12_isRow_13 M) e = rd
          unfold g_X12_isRow_13
          simp (disch := omega) only [↓q_m1, q_lit, ↓reduceIte, true_or, not_true_eq_false, ite_self]
        generalize lp _ (g_X11_tellsPhrases_15 K T C O S N) f = rc at ih ⊢
        generalize lp _ (g_X12_isRow_13 M) (e + 1) = rd at hstop ⊢
        unfold g_X11_tellsPhrases_15 g_X12_isRow_13
        simp (disch := omega) only [↓q_m1, q_lit, ↓q_bd, ↓reduceIte, q_le, show ¬ n ≤ k by omega, q_lt, Nat.not_lt_zero, false_or, q_cl, show ¬ 940 ≤ k by omega, hp3, q_10, h3, ho, q_bo, hp4, nI_add, hstop]
        refine Or.inr ⟨fun h9 => ?_, trivial, trivial⟩
        obtain ⟨p, hp5, hp6⟩ := h9.2.2 k hk
        exact hp1 p hp5 hp6
    · intro f e _ _ hI
      simp only [q_lp]
      generalize lp _ (g_X11_tellsPhrases_15 K T C O S N) f = rc
      generalize lp _ (g_X12_isRow_13 M) e = rd
      unfold g_X11_tellsPhrases_15 g_X12_isRow_13
      simp (disch := omega) only [↓q_m1, q_lit, ↓reduceIte, q_le, Nat.le_refl, h3, or_true, not_true_eq_false]
      exact Or.inl ⟨⟨hr.1, hr.2, hI⟩, trivial, trivial⟩
  · refine Or.inr ⟨fun h9 => hr ⟨h9.1, h9.2.1⟩, ?_, ?_⟩
    · unfold f_X11_tellsPhrases
      simp (disch := omega) only [↓q_m1, q_lit, q_lt, q_le]
      by_cases h9 : n < 1
      · rw [if_pos h9]
      · rw [if_neg h9, if_neg (by omega)]
    · have e2 : f_X12_isIn (nI n) (nI 1) (nI 9) = nI 0 := by
        unfold f_X12_isIn
        simp (disch := omega) only [↓q_m1, q_lit, q_lt]
        by_cases h9 : n < 1
        · rw [if_pos h9]
        · rw [if_neg h9, if_pos (by omega)]
      unfold f_X12_isRow
      simp only [↓q_m1, q_lit, ↓q_bd, h3, e2]
      rw [q_lp]
      generalize lp _ (g_X12_isRow_13 M) 1999 = rd
      unfold g_X12_isRow_13
      simp (disch := omega) only [↓q_m1, q_lit, ↓reduceIte, true_or, not_true_eq_false, ite_self]
/-- the class's: taken -/
theorem q_takeT {n : Nat} {K : kD} (h : K.1 0 1 = nI n) : f_X11_takeTape K = some (nI n, kI K 0 1 (nI 0)) := by
  unfold f_X11_takeTape
  simp only [↓q_m1, q_lit, ↓q_bd, h]
/-- what taking leaves -/
def MXz (M M' : kD) : Prop := M'.2 = M.2 ∧ (∀ b, b ≠ 0 → M'.1 b = M.1 b) ∧ (∀ k, k ≠ 0 → k ≠ 2 → k ≠ 3 → k ≠ 4 → k ≠ 5 → M'.1 0 k = M.1 0 k) ∧ M'.1 0 2 = nI 0
theorem q_take {n : Nat} {K M : kD} {T : Nat → Int32} (hR : RT n K T M) (most : Int32) : ∃ M', f_X12_taken most (kI M 0 0 (nI 0)) = some M' ∧ RZ n T M' ∧ MXz M M' ∧ M'.1 0 4 = nI 0 ∧ M'.1 0 5 = most ∧ RT 0 (kI K 0 1 (nI 0)) T M' := by
  obtain ⟨r1, r2, r3, r4⟩ := hR
  obtain ⟨M', a1, a2, a3, a4, a5, a6, a7, a8⟩ := q_taken (kI M 0 0 (nI 0)) n most r3
  have e1 : M'.1 1 = M.1 1 := a7 1 (by omega)
  refine ⟨M', a1, ⟨r1, a2, fun i hi => by rw [e1]; exact r4 i hi⟩, ⟨a6, fun b hb => (a7 b hb).trans (if_neg hb), fun k h0 h2 h3 h4 h5 => (a8 k h2 h3 h4 h5).trans (pk_un h0), a3⟩, a4, a5, by omega, rfl, a3, fun i hi => by rw [e1]; exact r4 i hi⟩
