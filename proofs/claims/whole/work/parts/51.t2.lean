/-! machine-free: TOKENS: the run, class -/
def allL (T : Nat → Int32) (q j : Nat) : Prop := ∀ i, i < j → isLt (tN T (q + i))
def allD (T : Nat → Int32) (q j : Nat) : Prop := ∀ i, i < j → isDg (tN T (q + i))
theorem allL_s {T : Nat → Int32} {q j : Nat} : allL T q (j + 1) ↔ allL T q j ∧ isLt (tN T (q + j)) := by
  constructor
  · intro h; exact ⟨fun i hi => h i (by omega), h j (by omega)⟩
  · intro ⟨h1, h2⟩ i hi
    by_cases h : i = j
    · subst h; exact h2
    · exact h1 i (by omega)
theorem allD_s {T : Nat → Int32} {q j : Nat} : allD T q (j + 1) ↔ allD T q j ∧ isDg (tN T (q + j)) := by
  constructor
  · intro h; exact ⟨fun i hi => h i (by omega), h j (by omega)⟩
  · intro ⟨h1, h2⟩ i hi
    by_cases h : i = j
    · subst h; exact h2
    · exact h1 i (by omega)
theorem or_add (A c k : Nat) (hc : c < 256) : A * 256 * 2 ^ k ||| c * 2 ^ k = (A * 256 + c) * 2 ^ k := by
  have h1 : A * 256 + c = A * 256 ||| c := by
    have := Nat.two_pow_add_eq_or_of_lt (i := 8) (b := c) (by omega) A
    rw [show A * 256 = 2 ^ 8 * A by omega]
    exact this
  rw [h1, ← Nat.shiftLeft_eq, ← Nat.shiftLeft_eq, ← Nat.shiftLeft_eq, Nat.shiftLeft_or_distrib]
theorem q_nameC {A c j : Nat} (hj : j < 7) (hA : A < 256 ^ j) (hc : c < 256) : lN (A * 256 ^ (7 - j)) ||| ((nI c).toInt64 <<< ((nI 8 * (nI 6 - nI j)).toInt64 &&& lN 63)) = lN ((A * 256 + c) * 256 ^ (7 - (j + 1))) := by
  have e1 : 256 ^ (7 - (j + 1)) = 2 ^ (8 * (6 - j)) := by
    rw [show 7 - (j + 1) = 6 - j by omega, Nat.pow_mul]
  have e2 : 256 ^ (7 - j) = 256 * 2 ^ (8 * (6 - j)) := by
    rw [show 7 - j = (6 - j) + 1 by omega, Nat.pow_succ, Nat.pow_mul, Nat.mul_comm]
  have h3 : 256 ^ j * 2 ^ (8 * (7 - j)) = 2 ^ 56 := by
    rw [show (256 : Nat) = 2 ^ 8 from rfl, ← Nat.pow_mul, ← Nat.pow_add]
    congr 1; omega
  have h4 : 2 ^ (8 * (7 - j)) = 256 * 2 ^ (8 * (6 - j)) := by
    rw [show 8 * (7 - j) = 8 + 8 * (6 - j) by omega, Nat.pow_add]
  have h5 : (A + 1) * (256 * 2 ^ (8 * (6 - j))) ≤ 2 ^ 56 := by
    rw [← h3, ← h4]; exact Nat.mul_le_mul_right _ hA
  have h6 : c * 2 ^ (8 * (6 - j)) ≤ 256 * 2 ^ (8 * (6 - j)) := Nat.mul_le_mul_right _ (by omega)
  rw [Nat.add_mul, Nat.one_mul] at h5
  rw [q_sub (by omega), pk_mul, nI_l (by omega), l_shl (by omega) (by omega), e1, e2, l_or (by omega) (by omega), ← Nat.mul_assoc, or_add A c _ hc]
/-- the class's run: what is kept after j bytes -/
def RI (T : Nat → Int32) (n q : Nat) (R0 : kD) (j : Nat) (x : Int32 × Int32 × kD) : Prop := ∃ a b, x.1 = nI a ∧ x.2.1 = nI b ∧ a + b = j ∧ (b = 0 ↔ allL T q j) ∧ (a = 0 ↔ allD T q j) ∧ x.2.2.1 0 3 = nI (q + j) ∧ (b = 0 → j ≤ 7 → x.2.2.2 0 7 = lN (encR (sub T q j) * 256 ^ (7 - j))) ∧ (a = 0 → j ≤ 3 → x.2.2.1 0 8 = nI (numR (sub T q j))) ∧ (∀ k, k ≠ 3 → k ≠ 8 → x.2.2.1 0 k = R0.1 0 k)
theorem sub_c {T : Nat → Int32} (hT : okT T) {q k : Nat} (h : q + k ≤ 940) : ∀ c, c ∈ sub T q k → c < 256 := by
  intro c hc
  obtain ⟨i, h1, h2⟩ := sub_mem hc
  rw [h2]; exact (hT _ (by omega)).2
theorem q_run {T : Nat → Int32} (hT : okT T) {n q e : Nat} (hn : n ≤ 940) {R : kD} (h0 : R.1 0 0 = nI 1) (h1 : R.1 0 1 = nI n) (h3 : R.1 0 3 = nI q) (hqe : q ≤ e) (hen : e ≤ n) (hr : ∀ i, q ≤ i → i < e → isLt (tN T i) ∨ isDg (tN T i)) (he : e = n ∨ ¬ (isLt (tN T e) ∨ isDg (tN T e))) :
    ∃ R', f_X4_readRun 940 R T = some R' ∧ R'.1 0 3 = nI e ∧ (∀ k, k ≠ 3 → k ≠ 4 → k ≠ 8 → R'.1 0 k = R.1 0 k) ∧
      ((allL T q (e - q) ∧ e - q ≤ 7 ∧ R'.1 0 4 = nI 2 ∧ R'.2 0 7 = lN (encR (sub T q (e - q)) * 256 ^ (7 - (e - q)))) ∨ (allD T q (e - q) ∧ 1 ≤ e - q ∧ e - q ≤ 3 ∧ R'.1 0 4 = nI 3 ∧ R'.1 0 8 = nI (numR (sub T q (e - q)))) ∨ (¬ (allL T q (e - q) ∧ e - q ≤ 7) ∧ ¬ (allD T q (e - q) ∧ 1 ≤ e - q ∧ e - q ≤ 3) ∧ R'.1 0 4 = nI 0)) := by
  unfold f_X4_readRun
  simp only [↓q_bd]
  refine q_one (fun f j (x : Int32 × Int32 × kD) => lp (fun _ _ _ => none) (g_X4_readRun_14 940 T) f x.1 x.2.1 x.2.2) (RI T n q R) (fun r => ∃ R', r = some R' ∧ R'.1 0 3 = nI e ∧ (∀ k, k ≠ 3 → k ≠ 4 → k ≠ 8 → R'.1 0 k = R.1 0 k) ∧
      ((allL T q (e - q) ∧ e - q ≤ 7 ∧ R'.1 0 4 = nI 2 ∧ R'.2 0 7 = lN (encR (sub T q (e - q)) * 256 ^ (7 - (e - q)))) ∨ (allD T q (e - q) ∧ 1 ≤ e - q ∧ e - q ≤ 3 ∧ R'.1 0 4 = nI 3 ∧ R'.1 0 8 = nI (numR (sub T q (e - q)))) ∨ (¬ (allL T q (e - q) ∧ e - q ≤ 7) ∧ ¬ (allD T q (e - q) ∧ 1 ≤ e - q ∧ e - q ≤ 3) ∧ R'.1 0 4 = nI 0))) (e - q) ?_ ?_ (e - q) 0 2000 (0, 0, kI (kL R 0 7 0) 0 8 0) (by omega) (by omega) ?_
  · intro f j x _ hj hI ih
    obtain ⟨x1, x2, Q⟩ := x
    obtain ⟨a, b, e1', e2', hab, hb, ha, hp', hN', hV', hF'⟩ := hI
    have e1 : x1 = nI a := e1'
    have e2 : x2 = nI b := e2'
    clear e1' e2'
    subst e1 e2
    have hp : Q.1 0 3 = nI (q + j) := hp'
    have hN : b = 0 → j ≤ 7 → Q.2 0 7 = lN (encR (sub T q j) * 256 ^ (7 - j)) := hN'
    have hV : a = 0 → j ≤ 3 → Q.1 0 8 = nI (numR (sub T q j)) := hV'
    have hF : ∀ k, k ≠ 3 → k ≠ 8 → Q.1 0 k = R.1 0 k := hF'
    have hQ0 : Q.1 0 0 = nI 1 := (hF 0 (by omega) (by omega)).trans h0
    have hQ1 : Q.1 0 1 = nI n := (hF 1 (by omega) (by omega)).trans h1
    obtain ⟨t1, t2⟩ := hT (q + j) (by omega)
    have hrj := hr (q + j) (by omega) (by omega)
    simp only [q_lp]
    generalize lp _ (g_X4_readRun_14 940 T) f = rc at ih ⊢
    have hsp : sub T q (j + 1) = sub T q j ++ [tN T (q + j)] := sub_s T q j
    unfold isLt isDg at hrj
    by_cases hl : isLt (tN T (q + j))
    · have hl2 := hl
      unfold isLt at hl2
      have hnd : ¬ isDg (tN T (q + j)) := by unfold isDg; omega
      have hI2 : ∀ Q' : kD, Q'.1 0 3 = nI (q + (j + 1)) → (b = 0 → j + 1 ≤ 7 → Q'.2 0 7 = lN (encR (sub T q (j + 1)) * 256 ^ (7 - (j + 1)))) → (∀ k, k ≠ 3 → k ≠ 8 → Q'.1 0 k = R.1 0 k) → RI T n q R (j + 1) (nI (a + 1), nI b, Q') := by
        intro Q' k1 k2 k3
        refine ⟨a + 1, b, rfl, rfl, by omega, ?_, ?_, k1, k2, fun h9 => by omega, k3⟩
        · rw [allL_s]; exact ⟨fun h9 => ⟨hb.mp h9, hl⟩, fun h9 => hb.mpr h9.1⟩
        · rw [allD_s]; exact ⟨fun h9 => by omega, fun h9 => absurd h9.2 hnd⟩
      have h128 : ∀ Q' : kD, g_X4_readRun_128 rc 940 T (nI a) (nI b) Q' = rc (nI (a + 1)) (nI b) (kI Q' 0 3 (Q'.1 0 3 + nI 1)) := by
        intro Q'
        unfold g_X4_readRun_128 g_X4_readRun_173
        simp only [↓q_m1, q_lit, ↓q_bd, nI_add]
      unfold g_X4_readRun_14 g_X4_readRun_81
      simp (disch := omega) only [↓q_m1, q_lit, ↓q_bd, hQ0, hQ1, hp, q_le, show ¬ n ≤ q + j by omega, ↓reduceIte, not_true_eq_false, q_lt, Nat.not_lt_zero, false_or, q_cl, show ¬ 940 ≤ q + j by omega, t1, show ¬ tN T (q + j) < 97 by omega, show tN T (q + j) ≤ 122 by omega, h128]
      by_cases h7 : 7 ≤ a
      · rw [if_pos h7, nI_add]
        refine ih (nI (a + 1), nI b, kI Q 0 3 (nI (q + j + 1))) (hI2 _ rfl (fun h9 h8 => by omega) (fun k k1 k2 => ?_))
        rw [q_kI, if_pos rfl, q_up, if_neg k1]; exact hF k k1 k2
      · rw [if_neg h7]
        simp only [q_litL]
        show _
        rw [show (kL Q 0 7 (Q.2 0 7 ||| ((nI (tN T (q + j))).toInt64 <<< ((nI 8 * (nI 6 - nI a)).toInt64 &&& lN 63)))).1 0 3 = nI (q + j) from hp, nI_add]
        refine ih (nI (a + 1), nI b, kI (kL Q 0 7 (Q.2 0 7 ||| ((nI (tN T (q + j))).toInt64 <<< ((nI 8 * (nI 6 - nI a)).toInt64 &&& lN 63)))) 0 3 (nI (q + j + 1))) (hI2 _ rfl (fun h9 h8 => ?_) (fun k k1 k2 => ?_))
        · show Q.2 0 7 ||| ((nI (tN T (q + j))).toInt64 <<< ((nI 8 * (nI 6 - nI a)).toInt64 &&& lN 63)) = _
          have haj : a = j := by omega
          have hA := encR_lt (sub T q j) (sub_c hT (by omega))
          rw [sub_len] at hA
          rw [hN h9 (by omega), haj, q_nameC (by omega) hA t2, hsp, encR_add]
        · rw [q_kI, if_pos rfl, q_up, if_neg k1]; exact hF k k1 k2
    · have hd : isDg (tN T (q + j)) := by unfold isLt at hl; unfold isDg; omega
      have hd2 := hd
      unfold isDg at hd2
      have hI2 : ∀ Q' : kD, Q'.1 0 3 = nI (q + (j + 1)) → (a = 0 → j + 1 ≤ 3 → Q'.1 0 8 = nI (numR (sub T q (j + 1)))) → (∀ k, k ≠ 3 → k ≠ 8 → Q'.1 0 k = R.1 0 k) → RI T n q R (j + 1) (nI a, nI (b + 1), Q') := by
        intro Q' k1 k2 k3
        refine ⟨a, b + 1, rfl, rfl, by omega, ?_, ?_, k1, fun h9 => by omega, k2, k3⟩
        · rw [allL_s]; exact ⟨fun h9 => by omega, fun h9 => absurd h9.2 hl⟩
        · rw [allD_s]; exact ⟨fun h9 => ⟨ha.mp h9, hd⟩, fun h9 => ha.mpr h9.1⟩
      have h167 : ∀ v : Int32, g_X4_readRun_167 rc 940 T (nI a) (nI b) v Q = rc (nI a) (nI (b + 1)) (kI (kI Q 0 8 v) 0 3 (nI (q + j + 1))) := by
        intro v
        unfold g_X4_readRun_167 g_X4_readRun_173
        simp only [↓q_m1, q_lit, ↓q_bd, nI_add, show (kI Q 0 8 v).1 0 3 = nI (q + j) from hp]
      have hfr : ∀ v : Int32, ∀ k, k ≠ 3 → k ≠ 8 → (kI (kI Q 0 8 v) 0 3 (nI (q + j + 1))).1 0 k = R.1 0 k := by
        intro v k k1 k2
        rw [q_kI, if_pos rfl, q_up, if_neg k1, q_kI, if_pos rfl, q_up, if_neg k2]; exact hF k k1 k2
      unfold g_X4_readRun_14 g_X4_readRun_53 g_X4_readRun_81
      simp (disch := omega) only [↓q_m1, q_lit, ↓q_bd, hQ0, hQ1, hp, q_le, show ¬ n ≤ q + j by omega, ↓reduceIte, not_true_eq_false, q_lt, Nat.not_lt_zero, false_or, q_cl, show ¬ 940 ≤ q + j by omega, t1, show tN T (q + j) < 97 by omega, show ¬ tN T (q + j) < 48 by omega, show ¬ 57 < tN T (q + j) by omega, h167]
      by_cases h3 : 3 ≤ b
      · rw [if_pos h3]
        exact ih (nI a, nI (b + 1), kI (kI Q 0 8 (Q.1 0 8)) 0 3 (nI (q + j + 1))) (hI2 _ rfl (fun h9 h8 => by omega) (hfr _))
      · rw [if_neg h3]
        refine ih (nI a, nI (b + 1), kI (kI Q 0 8 (Q.1 0 8 * nI 10 + nI (tN T (q + j)) - nI 48)) 0 3 (nI (q + j + 1))) (hI2 _ rfl (fun h9 h8 => ?_) (hfr _))
        show Q.1 0 8 * nI 10 + nI (tN T (q + j)) - nI 48 = _
        rw [hV h9 (by omega), pk_mul, nI_add, q_sub (by omega), hsp, numR_add]
        congr 1; omega
  · intro f x hI
    obtain ⟨x1, x2, Q⟩ := x
    obtain ⟨a, b, e1', e2', hab, hb, ha, hp', hN', hV', hF'⟩ := hI
    have e1 : x1 = nI a := e1'
    have e2 : x2 = nI b := e2'
    clear e1' e2'
    subst e1 e2
    have hp : Q.1 0 3 = nI (q + (e - q)) := hp'
    have hN : b = 0 → e - q ≤ 7 → Q.2 0 7 = lN (encR (sub T q (e - q)) * 256 ^ (7 - (e - q))) := hN'
    have hV : a = 0 → e - q ≤ 3 → Q.1 0 8 = nI (numR (sub T q (e - q))) := hV'
    have hF : ∀ k, k ≠ 3 → k ≠ 8 → Q.1 0 k = R.1 0 k := hF'
    have hQ0 : Q.1 0 0 = nI 1 := (hF 0 (by omega) (by omega)).trans h0
    have hQ1 : Q.1 0 1 = nI n := (hF 1 (by omega) (by omega)).trans h1
    rw [show q + (e - q) = e by omega] at hp
    simp only [q_lp]
    generalize lp _ (g_X4_readRun_14 940 T) f = rc
    have h14 : g_X4_readRun_14 940 T rc (nI a) (nI b) Q = g_X4_readRun_186 940 T (nI a) (nI b) Q := by
      unfold g_X4_readRun_14 g_X4_readRun_53
      by_cases hen2 : e = n
      · simp (disch := omega) only [↓q_m1, q_lit, hQ1, hp, q_le, show n ≤ e by omega, ↓reduceIte]
      · have hne : ¬ (isLt (tN T e) ∨ isDg (tN T e)) := by
          rcases he with h | h
          · exact absurd h hen2
          · exact h
        obtain ⟨t1, t2⟩ := hT e (by omega)
        unfold isLt isDg at hne
        simp (disch := omega) only [↓q_m1, q_lit, ↓q_bd, hQ0, hQ1, hp, q_le, show ¬ n ≤ e by omega, ↓reduceIte, not_true_eq_false, q_lt, Nat.not_lt_zero, false_or, q_cl, show ¬ 940 ≤ e by omega, t1]
        by_cases h48 : tN T e < 48
        · simp (disch := omega) only [show tN T e < 97 by omega, h48, ↓reduceIte]
        · by_cases h97 : tN T e < 97
          · simp (disch := omega) only [h97, h48, show 57 < tN T e by omega, ↓reduceIte]
          · simp (disch := omega) only [h97, show ¬ tN T e ≤ 122 by omega, h48, show 57 < tN T e by omega, ↓reduceIte]
    have hfr : ∀ v : Int32, ∀ k, k ≠ 3 → k ≠ 4 → k ≠ 8 → (kI Q 0 4 v).1 0 k = R.1 0 k := by
      intro v k k1 k2 k3
      rw [q_kI, if_pos rfl, q_up, if_neg k2]; exact hF k k1 k3
    show ∃ R', g_X4_readRun_14 940 T rc (nI a) (nI b) Q = some R' ∧ _
    rw [h14]
    unfold g_X4_readRun_186 g_X4_readRun_204
    by_cases hb0 : b = 0
    · have hal := hb.mp hb0
      by_cases h7 : 7 < a
      · have hnd : ¬ (allD T q (e - q) ∧ 1 ≤ e - q ∧ e - q ≤ 3) := fun h9 => by omega
        simp (disch := omega) only [↓q_m1, q_lit, ↓q_bd, q_eq, hb0, ↓reduceIte, q_lt, h7, show ¬ a = 0 by omega]
        exact ⟨_, rfl, hp, hfr _, Or.inr (Or.inr ⟨fun h9 => by omega, hnd, rfl⟩)⟩
      · simp (disch := omega) only [↓q_m1, q_lit, ↓q_bd, q_eq, hb0, ↓reduceIte, q_lt, h7]
        exact ⟨_, rfl, hp, hfr _, Or.inl ⟨hal, by omega, rfl, hN hb0 (by omega)⟩⟩
    · have hnl : ¬ allL T q (e - q) := fun h9 => hb0 (hb.mpr h9)
      by_cases ha0 : a = 0
      · have had := ha.mp ha0
        by_cases h3 : 3 < b
        · simp (disch := omega) only [↓q_m1, q_lit, ↓q_bd, q_eq, hb0, ↓reduceIte, q_lt, h3, ha0]
          exact ⟨_, rfl, hp, hfr _, Or.inr (Or.inr ⟨fun h9 => hnl h9.1, fun h9 => by omega, rfl⟩)⟩
        · simp (disch := omega) only [↓q_m1, q_lit, ↓q_bd, q_eq, hb0, ↓reduceIte, q_lt, h3, ha0]
          exact ⟨_, rfl, hp, hfr _, Or.inr (Or.inl ⟨had, by omega, by omega, rfl, hV ha0 (by omega)⟩)⟩
      · simp (disch := omega) only [↓q_m1, q_lit, ↓q_bd, q_eq, hb0, ↓reduceIte, ha0]
        exact ⟨_, rfl, hp, hfr _, Or.inr (Or.inr ⟨fun h9 => hnl h9.1, fun h9 => ha0 (ha.mpr h9.1), rfl⟩)⟩
  · refine ⟨0, 0, rfl, rfl, rfl, ⟨fun _ i hi => absurd hi (Nat.not_lt_zero i), fun _ => rfl⟩, ⟨fun _ i hi => absurd hi (Nat.not_lt_zero i), fun _ => rfl⟩, h3, fun _ _ => ?_, fun _ _ => rfl, fun k k1 k2 => ?_⟩
    · show (0 : Int64) = lN (0 * 256 ^ (7 - 0))
      rw [Nat.zero_mul, q_litL]
    · show (kI (kL R 0 7 0) 0 8 0).1 0 k = _
      rw [q_kI, if_pos rfl, q_up, if_neg k2]; rfl
