/-! machine-free: SAID, the whole call -/
def cbB (V : Nat) : Nat → Nat
  | 0 => 0
  | k + 1 => cbB V k + if V.testBit k then 1 else 0
theorem cbB_le (V k : Nat) : cbB V k ≤ k := by
  induction k with
  | zero => exact Nat.le_refl 0
  | succ k ih => show cbB V k + (if V.testBit k then 1 else 0) ≤ k + 1; split <;> omega
theorem b_count : ∀ V, V < 64 → f_J6_bitCount_0f7a4 (nI V) = nI (cbB V 6) := by decide +kernel
theorem b_high : ∀ n, n ≤ 6 → ∀ V, V < 64 → V < 2 ^ n → cbB V 6 = cbB V n := by decide +kernel
theorem q_bitAt0 {nm V : Nat} (hn : nm ≤ 6) (hV : V < 2 ^ nm) (x : Int32) : ∀ f k, 7 ≤ f + k → nm ≤ k → k ≤ 6 → lp (fun _ _ _ => none) g_X11_bitAt_4 f (nI V) x (nI k) = some mI := by
  have hV64 := q_h64 hn hV
  intro f
  induction f with
  | zero => intro k h1 h2 h3; omega
  | succ f ih =>
    intro k h1 h2 h3
    simp only [q_lp]
    by_cases hk : k = 6
    · subst hk
      generalize lp _ g_X11_bitAt_4 f = rc
      unfold g_X11_bitAt_4
      simp (disch := omega) only [↓q_m1, q_lit, q_le, Nat.le_refl, ↓reduceIte]
    · have hz : V.testBit k = false := Nat.testBit_lt_two_pow (Nat.lt_of_lt_of_le hV (Nat.pow_le_pow_right (by omega) h2))
      have := ih (k + 1) (by omega) (by omega) (by omega)
      generalize lp _ g_X11_bitAt_4 f = rc at this ⊢
      unfold g_X11_bitAt_4 g_X11_bitAt_27
      simp (disch := omega) only [↓q_m1, q_lit, ↓q_bd, q_le, show ¬ 6 ≤ k by omega, ↓reduceIte, (q_bit V (by omega) k (by omega)).1, hz, q_qb, nI_add, this]
theorem q_mneg (a : Int32) (h : mI ≤ a) : a = mI ∨ ∃ j, j < 2 ^ 31 ∧ a = nI j := by
  rcases q_arg a with h1 | h1
  · refine Or.inl ?_
    have e1 : mI.toInt = -1 := rfl
    have e0 : (nI 0).toInt = 0 := rfl
    rw [Int32.le_iff_toInt_le, e1] at h
    rw [Int32.lt_iff_toInt_lt, e0] at h1
    exact Int32.toInt_inj.mp (by rw [e1]; omega)
  · exact Or.inr h1
def MXt45 (M M' : kD) : Prop := ∃ t, M' = kSI (kI M 0 0 (nI 0)) 45 t
theorem q_said {nm np d lt w h B : Nat} {K C O S N M : kD} (ho : RO nm np O (M.1 6)) (hs : RS nm np d lt w h B S (M.1 6)) (hN : RSN nm np N (M.1 6)) (a0 : Int32) :
    ∃ r x t, f_X11_said a0 K C O S N = some (r, kSI N 5 x) ∧ f_X12_said a0 M = some (r, kSI (kI M 0 0 (nI 0)) 45 t) := by
  obtain ⟨e, he, n1, s98, hse, hd1, hok⟩ := hN
  have hn := ho.1.1
  have e45 : kSI (kI M 0 0 (nI 0)) 45 (M.1 45) = kI M 0 0 (nI 0) := q_SM (kI M 0 0 (nI 0)) 45
  have hnone : ∃ r x t, (some (mI, N) : Option (Int32 × kD)) = some (r, kSI N 5 x) ∧ (some (mI, kI M 0 0 (nI 0)) : Option (Int32 × kD)) = some (r, kSI (kI M 0 0 (nI 0)) 45 t) := by
    refine ⟨mI, N.1 5, M.1 45, ?_, ?_⟩
    · rw [q_SM]
    · rw [e45]
  unfold f_X11_said f_X12_said f_X8_isTold
  simp (disch := omega) only [↓q_m1, q_lit, ↓q_bd, n1, q_le, q_cl, show (kI M 0 0 (nI 0)).1 6 98 = nI e from s98, q_eq]
  by_cases he0 : e = 0
  · rw [if_pos (show e ≤ 0 by omega), if_pos rfl, if_pos he0]
    exact hnone
  · rw [if_neg (show ¬ e ≤ 0 by omega), if_neg n10, if_neg he0]
    by_cases ha : mI ≤ a0
    · rw [if_pos ha, if_pos ha]
      obtain ⟨V, x, hV, hC, _⟩ := q_machines (M := kI M 0 0 (nI 0)) ho hs he n1 s98 hse (hd1 he0) hok (fun _ => M.1 45)
      have hV64 := q_h64 hn hV
      have hM : ∀ m, m < nm → ∀ t0, ∃ t, f_X12_isSaid (nI m) (kSI (kI M 0 0 (nI 0)) 45 t0) = some (q_b (V.testBit m), kSI (kI M 0 0 (nI 0)) 45 t) := by
        intro m hm t0
        obtain ⟨V', x', hV', hC', h2⟩ := q_machines (M := kI M 0 0 (nI 0)) ho hs he n1 s98 hse (hd1 he0) hok (fun _ => t0)
        rw [hC] at hC'
        have h9 : nI V = nI V' := congrArg Prod.fst (Option.some.inj hC')
        rw [q_eq (by omega) (Nat.lt_of_lt_of_le (q_h64 hn hV') (by omega))] at h9
        subst h9
        exact h2 m hm
      have e0 : ∀ t, (kSI (kI M 0 0 (nI 0)) 45 t).1 6 0 = nI nm := fun t => ho.2.1.1
      rw [hC, q_bo2]
      rcases q_mneg a0 ha with rfl | ⟨j, hj, rfl⟩
      · -- how many
        rw [if_pos rfl, b_count V (by omega), b_high nm hn V hV64 hV]
        have key := q_one (fun f k (t : Nat → Int32) => lp (fun _ _ _ _ => none) g_X12_said_26 f mI (nI (cbB V k)) (nI k) (kSI (kI M 0 0 (nI 0)) 45 t)) (fun _ _ => True) (fun r => ∃ t, r = some (nI (cbB V nm), kSI (kI M 0 0 (nI 0)) 45 t)) nm ?_ ?_ nm 0 2000 (M.1 45) (by omega) (by omega) trivial
        · obtain ⟨t, ht⟩ := key
          rw [e45] at ht
          exact ⟨nI (cbB V nm), x, t, rfl, ht⟩
        · intro f k t _ hk _ ih
          obtain ⟨t', ht'⟩ := hM k hk t
          have hle := cbB_le V k
          have ih := ih t' trivial
          simp only [q_lp]
          generalize lp _ g_X12_said_26 f = rc at ih ⊢
          have ecb : cbB V (k + 1) = cbB V k + if V.testBit k then 1 else 0 := rfl
          unfold g_X12_said_26 g_X12_said_57
          simp (disch := omega) only [↓q_m1, q_lit, ↓q_bd, q_cl, e0, q_le, show ¬ nm ≤ k by omega, ↓reduceIte, ht', ↓q_bo2, q_qb, q_neg, nI_add]
          rw [ecb] at ih
          cases hb : V.testBit k with
          | false =>
            rw [hb] at ih
            simp only [↓reduceIte]
            exact ih
          | true =>
            rw [hb] at ih
            simp only [Bool.true_eq_false, ↓reduceIte]
            exact ih
        · intro f t _
          simp only [q_lp]
          generalize lp _ g_X12_said_26 f = rc
          unfold g_X12_said_26 g_X12_said_63
          simp (disch := omega) only [↓q_m1, q_lit, q_cl, e0, q_le, Nat.le_refl, ↓reduceIte]
          exact ⟨t, rfl⟩
      · -- which
        rw [if_neg (by rw [q_neg j hj]; exact id)]
        have key := q_twoF (fun f k (_ : Unit) => lp (fun _ _ _ => none) g_X11_bitAt_4 f (nI V) (nI (j - cbB V k)) (nI k)) (fun f k (t : Nat → Int32) => lp (fun _ _ _ _ => none) g_X12_said_26 f (nI j) (nI (cbB V k)) (nI k) (kSI (kI M 0 0 (nI 0)) 45 t)) (fun k _ _ => cbB V k ≤ j) (fun r1 r2 => ∃ v t, r1 = some v ∧ r2 = some (v, kSI (kI M 0 0 (nI 0)) 45 t)) nm 7 ?_ ?_ nm 0 2000 2000 () (M.1 45) (by omega) (by omega) (by omega) (Nat.zero_le _)
        · obtain ⟨v, t, h1, h2⟩ := key
          rw [e45] at h2
          refine ⟨v, x, t, ?_, h2⟩
          unfold f_X11_bitAt
          simp only [↓q_m1, q_lit]
          rw [show cbB V 0 = 0 from rfl, Nat.sub_zero] at h1
          rw [h1, q_bo]
        · intro f g k _ t _ _ hk hI ih
          obtain ⟨t', ht'⟩ := hM k hk t
          have hle := cbB_le V k
          have ih := ih () t'
          simp only [q_lp]
          generalize lp _ g_X11_bitAt_4 f = rd at ih ⊢
          generalize lp _ g_X12_said_26 g = rc at ih ⊢
          have ecb : cbB V (k + 1) = cbB V k + if V.testBit k then 1 else 0 := rfl
          unfold g_X12_said_26 g_X12_said_57 g_X11_bitAt_4 g_X11_bitAt_27
          simp (disch := omega) only [↓q_m1, q_lit, ↓q_bd, q_cl, e0, q_le, show ¬ nm ≤ k by omega, show ¬ 6 ≤ k by omega, ↓reduceIte, ht', ↓q_bo2, q_qb, q_eq, nI_add, (q_bit V (by omega) k (by omega)).1]
          rw [ecb] at ih
          cases hb : V.testBit k with
          | false =>
            rw [hb] at ih
            simp only [↓reduceIte]
            exact ih hI
          | true =>
            rw [hb] at ih
            simp only [Bool.true_eq_false, ↓reduceIte] at ih ⊢
            by_cases hj0 : cbB V k = j
            · rw [if_pos (show j - cbB V k = 0 by omega), if_pos hj0]
              exact ⟨_, t', rfl, rfl⟩
            · have hm1 : nI (j - cbB V k) + mI = nI (j - (cbB V k + 1)) := by
                rw [show mI = -nI 1 from rfl, ← Int32.sub_eq_add_neg, q_sub (show 1 ≤ j - cbB V k by omega)]
                exact congrArg nI (by omega)
              rw [if_neg (show ¬ j - cbB V k = 0 by omega), if_neg hj0, hm1]
              exact ih (by omega)
        · intro f g _ t hf _ hI
          have hle := cbB_le V nm
          refine ⟨mI, t, ?_, ?_⟩
          · exact q_bitAt0 hn hV _ (f + 1) nm (by omega) (Nat.le_refl nm) hn
          · simp only [q_lp]
            generalize lp _ g_X12_said_26 g = rc
            unfold g_X12_said_26 g_X12_said_63
            simp (disch := omega) only [↓q_m1, q_lit, q_cl, e0, q_le, Nat.le_refl, ↓reduceIte, q_neg]
    · rw [if_neg ha, if_neg ha]
      exact hnone
