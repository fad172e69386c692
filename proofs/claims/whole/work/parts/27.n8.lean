/-! machine-free: what two owe one another -/
def owC (D : Nat → Int32) (m k : Nat) : Prop := ¬ D (m * 6 + k) ≤ nI 0 ∧ ¬ D (k * 6 + m) ≤ nI 0
theorem q_minle (a b : Int32) : (kMin a b ≤ nI 0) = (a ≤ nI 0 ∨ b ≤ nI 0) := by
  refine propext ⟨fun h => ?_, fun h => ?_⟩
  · unfold kMin at h
    by_cases h1 : b < a
    · rw [if_pos h1] at h; exact Or.inr h
    · rw [if_neg h1] at h; exact Or.inl h
  · unfold kMin
    by_cases h1 : b < a
    · rw [if_pos h1]
      rcases h with h | h
      · exact Int32.le_trans (Int32.le_of_lt h1) h
      · exact h
    · rw [if_neg h1]
      rcases h with h | h
      · exact h
      · exact Int32.le_trans (Int32.not_lt.mp h1) h
noncomputable def owE (D : Nat → Int32) (n : Nat) : Bool := @decide (∃ m k, m < n ∧ k < m ∧ owC D m k) (Classical.propDecidable _)
theorem owE_t {D : Nat → Int32} {n m k : Nat} (hm : m < n) (hk : k < m) (h : owC D m k) : owE D n = true := by
  unfold owE; exact @decide_eq_true _ (Classical.propDecidable _) ⟨m, k, hm, hk, h⟩
theorem owE_f {D : Nat → Int32} {n : Nat} (h : ∀ m k, m < n → k < m → ¬ owC D m k) : owE D n = false := by
  unfold owE; exact @decide_eq_false _ (Classical.propDecidable _) (fun ⟨m, k, h1, h2, h3⟩ => h m k h1 h2 h3)
theorem q_bothC (S : kD) : f_X9_owesBothWays S = some (q_b (owE (S.1 8) 6)) := by
  refine q_one (fun f m (_ : Unit) => lp (fun _ => none) (g_X9_owesBothWays_2 S) f (nI m)) (fun m _ => ∀ a k, a < m → k < a → ¬ owC (S.1 8) a k) (fun r => r = some (q_b (owE (S.1 8) 6))) 6 ?_ ?_ 6 0 2000 () (by omega) (by omega) (fun a k h => by omega)
  · intro f m _ _ hm hI ih
    have hst : g_X9_owesBothWays_2 S (lp (fun _ => none) (g_X9_owesBothWays_2 S) f) (nI m) = lp (fun _ _ => none) (g_X9_owesBothWays_10 (lp (fun _ => none) (g_X9_owesBothWays_2 S) f) S) 2000 (nI m) (nI 0) := by
      unfold g_X9_owesBothWays_2
      simp (disch := omega) only [↓q_m1, q_lit, q_le, show ¬ 6 ≤ m by omega, if_false]
    show g_X9_owesBothWays_2 S (lp _ _ f) (nI m) = _
    rw [hst]
    refine q_one (fun f2 k (_ : Unit) => lp (fun _ _ => none) (g_X9_owesBothWays_10 (lp (fun _ => none) (g_X9_owesBothWays_2 S) f) S) f2 (nI m) (nI k)) (fun k _ => ∀ j, j < k → ¬ owC (S.1 8) m j) (fun r => r = some (q_b (owE (S.1 8) 6))) m ?_ ?_ m 0 2000 () (by omega) (by omega) (fun j h => by omega)
    · intro f2 k _ _ hk hI2 ih2
      show g_X9_owesBothWays_10 _ S (lp _ _ f2) (nI m) (nI k) = _
      unfold g_X9_owesBothWays_10
      simp (disch := omega) only [↓q_m1, q_lit, q_le, show ¬ m ≤ k by omega, if_false, q_debt S (show m < 6 by omega) (show k < 6 by omega), q_debt S (show k < 6 by omega) (show m < 6 by omega), q_bo]
      have hnext : ¬ owC (S.1 8) m k → g_X9_owesBothWays_35 (lp (fun _ => none) (g_X9_owesBothWays_2 S) f) (lp (fun _ _ => none) (g_X9_owesBothWays_10 (lp (fun _ => none) (g_X9_owesBothWays_2 S) f) S) f2) S (nI m) (nI k) = some (q_b (owE (S.1 8) 6)) := by
        intro hno
        unfold g_X9_owesBothWays_35
        simp only [↓q_m1, q_lit, q_bd, nI_add]
        refine ih2 () (fun j hj => ?_)
        by_cases hjk : j = k
        · subst hjk; exact hno
        · exact hI2 j (by omega)
      by_cases h1 : S.1 8 (m * 6 + k) ≤ nI 0
      · rw [if_pos h1]; exact hnext (fun h9 => h9.1 h1)
      · rw [if_neg h1]
        by_cases h2 : S.1 8 (k * 6 + m) ≤ nI 0
        · rw [if_pos h2]; exact hnext (fun h9 => h9.2 h2)
        · rw [if_neg h2, owE_t hm hk ⟨h1, h2⟩]; rfl
    · intro f2 _ hI2
      show g_X9_owesBothWays_10 _ S (lp _ _ f2) (nI m) (nI m) = _
      unfold g_X9_owesBothWays_10 g_X9_owesBothWays_41
      simp (disch := omega) only [↓q_m1, q_lit, q_le, Nat.le_refl, if_true, q_bd, nI_add]
      refine ih () (fun a k ha hk => ?_)
      by_cases ham : a = m
      · subst ham; exact hI2 k hk
      · exact hI a k (by omega) hk
  · intro f _ hI
    show g_X9_owesBothWays_2 S (lp _ _ f) (nI 6) = _
    unfold g_X9_owesBothWays_2
    simp (disch := omega) only [↓q_m1, q_lit, q_le, Nat.le_refl, if_true]
    rw [owE_f (fun a k ha hk => hI a k ha hk)]
    rfl
theorem q_mut {M : kD} {m k : Nat} (hm : m < 6) (hk : k < 6) : f_X12_mutual (nI m) (nI k) M = some (kMin (M.1 6 (62 + (m * 6 + k))) (M.1 6 (62 + (k * 6 + m)))) := by
  unfold f_X12_mutual
  simp (disch := omega) only [↓q_m1, q_lit, q_bd, pk_mul, nI_add, q_lt, Nat.not_lt_zero, false_or, q_cl, show ¬ 279 ≤ 62 + 6 * m + k by omega, show ¬ 279 ≤ 62 + 6 * k + m by omega, if_false, q_min]
  rw [show 62 + (m * 6 + k) = 62 + 6 * m + k by omega, show 62 + (k * 6 + m) = 62 + 6 * k + m by omega]
theorem q_bothM {nm : Nat} {M : kD} (hn : nm ≤ 6) (h0 : M.1 6 0 = nI nm) : f_X12_whyClear M = some (q_b (!owE (fun i => M.1 6 (62 + i)) nm)) := by
  refine q_one (fun f m (_ : Unit) => lp (fun _ => none) (g_X12_whyClear_2 M) f (nI m)) (fun m _ => ∀ a k, a < m → k < a → ¬ owC (fun i => M.1 6 (62 + i)) a k) (fun r => r = some (q_b (!owE (fun i => M.1 6 (62 + i)) nm))) nm ?_ ?_ nm 0 2000 () (by omega) (by omega) (fun a k h => by omega)
  · intro f m _ _ hm hI ih
    have hst : g_X12_whyClear_2 M (lp (fun _ => none) (g_X12_whyClear_2 M) f) (nI m) = lp (fun _ _ => none) (g_X12_whyClear_14 (lp (fun _ => none) (g_X12_whyClear_2 M) f) M) 2000 (nI m) (nI 0) := by
      unfold g_X12_whyClear_2
      simp (disch := omega) only [↓q_m1, q_lit, q_cl, h0, q_le, show ¬ nm ≤ m by omega, if_false]
    show g_X12_whyClear_2 M (lp _ _ f) (nI m) = _
    rw [hst]
    refine q_one (fun f2 k (_ : Unit) => lp (fun _ _ => none) (g_X12_whyClear_14 (lp (fun _ => none) (g_X12_whyClear_2 M) f) M) f2 (nI m) (nI k)) (fun k _ => ∀ j, j < k → ¬ owC (fun i => M.1 6 (62 + i)) m j) (fun r => r = some (q_b (!owE (fun i => M.1 6 (62 + i)) nm))) m ?_ ?_ m 0 2000 () (by omega) (by omega) (fun j h => by omega)
    · intro f2 k _ _ hk hI2 ih2
      show g_X12_whyClear_14 _ M (lp _ _ f2) (nI m) (nI k) = _
      unfold g_X12_whyClear_14
      simp (disch := omega) only [↓q_m1, q_lit, q_le, show ¬ m ≤ k by omega, if_false, q_mut (show m < 6 by omega) (show k < 6 by omega), q_bo, q_minle, q_bd, nI_add]
      by_cases h1 : M.1 6 (62 + (m * 6 + k)) ≤ nI 0 ∨ M.1 6 (62 + (k * 6 + m)) ≤ nI 0
      · rw [if_pos h1]
        refine ih2 () (fun j hj => ?_)
        by_cases hjk : j = k
        · subst hjk; exact fun h9 => h1.elim h9.1 h9.2
        · exact hI2 j (by omega)
      · rw [if_neg h1, owE_t hm hk ⟨fun q => h1 (Or.inl q), fun q => h1 (Or.inr q)⟩]; rfl
    · intro f2 _ hI2
      show g_X12_whyClear_14 _ M (lp _ _ f2) (nI m) (nI m) = _
      unfold g_X12_whyClear_14 g_X12_whyClear_36
      simp (disch := omega) only [↓q_m1, q_lit, q_le, Nat.le_refl, if_true, q_bd, nI_add]
      refine ih () (fun a k ha hk => ?_)
      by_cases ham : a = m
      · subst ham; exact hI2 k hk
      · exact hI a k (by omega) hk
  · intro f _ hI
    show g_X12_whyClear_2 M (lp _ _ f) (nI nm) = _
    unfold g_X12_whyClear_2
    simp (disch := omega) only [↓q_m1, q_lit, q_cl, h0, q_le, Nat.le_refl, if_true]
    rw [owE_f (fun a k ha hk => hI a k ha hk)]
    rfl
