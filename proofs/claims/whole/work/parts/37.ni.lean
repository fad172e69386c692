/-! machine-free: comes -/
noncomputable def cAn (s : Nat → Int32) (a q : Nat) : Bool := decide (f_X12_bitOf (s (31 + q)) (nI a) = nI 1)
def cBw (nm h : Nat) (O : kD) (y : Nat) : Bool := decide (y / 8 < nm) && (!(h.testBit (y / 8)) && (O.1 6 (y / 8)).toNatClampNeg.testBit (y % 8))
noncomputable def cE (nm h : Nat) (O : kD) (s : Nat → Int32) (x y : Nat) : Bool := cBw nm h O y && (decide (y / 8 ≠ x / 8) && cAn s (y % 8) (x % 8))
noncomputable def cS (nm h lt w : Nat) (O : kD) (s : Nat → Int32) (y : Nat) : Bool := cBw nm h O y && (decide (lt = 0) || (decide (y / 8 + 1 ≠ w) && cAn s (y % 8) (lt - 1)))
theorem q_bitb (v w : Int32) : f_X12_bitOf v w = q_b (decide (f_X12_bitOf v w = nI 1)) := by
  have : f_X12_bitOf v w = nI 0 ∨ f_X12_bitOf v w = nI 1 := by
    unfold f_X12_bitOf
    split
    · exact Or.inr rfl
    · exact Or.inl rfl
  rcases this with h | h
  · rw [h]; rfl
  · rw [h]; rfl
theorem q_an12 {N : kD} {a q : Nat} (ha : a < 8) (hq : q < 8) : f_X12_isAnswer (nI a) (nI q) N = some (q_b (cAn (N.1 6) a q)) := by
  unfold f_X12_isAnswer
  simp (disch := omega) only [↓q_m1, q_lit, ↓q_bd, ↓reduceIte, nI_add, q_lt, q_cl, Nat.not_lt_zero, false_or, show ¬ 279 ≤ 31 + q by omega]
  rw [q_bitb]
  rfl
theorem q_canF {nm np d lt w h B : Nat} {O S M N : kD} (ho : RO nm np O (M.1 6)) (hs : RS nm np d lt w h B S (M.1 6)) (hN : N.1 6 = M.1 6) {y : Nat} (hy : y / 8 < nm) (who lat : Int32) (b1 b2 : Bool)
    (h1 : (nI (y / 8) = who) = (b1 = false)) (h2 : (lat < nI 0) = (b2 = true)) (h3 : b2 = false → ∃ q, q < 8 ∧ lat = nI q) :
    f_X12_canFollow (nI (y / 8)) (nI (y % 8)) who lat N = some (q_b (cBw nm h O y && (b1 && (b2 || cAn (M.1 6) (y % 8) lat.toNatClampNeg)))) := by
  have hn : nm ≤ 6 := ho.1.1
  have hp : np ≤ 8 := ho.1.2
  have hh := hs.1.2.2.2.2
  have h42 : N.1 6 42 = nI h := by rw [hN]; exact hs.2.1.2.2.2.2.2.2.2.1
  have hb := (q_bit h (Nat.lt_of_lt_of_le (q_h64 hn hh) (by decide)) (y / 8) (by omega)).2
  obtain ⟨k, hk0, hk2, hk3⟩ := ho.2.2.1 (y / 8) hy
  have hk := (q_bit k (q_pow hp hk0) (y % 8) (by omega)).2
  have hk3' : N.1 6 (9 + y / 8) = nI k := by rw [hN]; exact hk3
  have hkc : (O.1 6 (y / 8)).toNatClampNeg = k := by rw [hk2]; exact q_cl (by have := q_pow hp hk0; omega)
  unfold f_X12_canFollow f_X12_isHeld cBw
  simp (disch := omega) only [↓q_m1, q_lit, ↓q_bd, q_cl, h42, hb, q_bo, q_qb, nI_add, q_lt, Nat.not_lt_zero, false_or, show ¬ 279 ≤ 9 + y / 8 by omega, ↓reduceIte, hk3', hk, h1, h2, hkc, hy, decide_true, Bool.true_and]
  cases h.testBit (y / 8) with
  | true => rfl
  | false =>
    cases b1 with
    | false =>
      simp only [↓reduceIte, Bool.not_false, Bool.true_and, Bool.false_and, Bool.and_false]
      rfl
    | true =>
      cases k.testBit (y % 8) with
      | false => rfl
      | true =>
        cases b2 with
        | true => rfl
        | false =>
          obtain ⟨q, hq, rfl⟩ := h3 rfl
          simp only [Bool.true_eq_false, Bool.false_eq_true, ↓reduceIte, Bool.not_false, Bool.true_and, Bool.false_or]
          rw [q_an12 (by omega) hq, q_bo, q_cl (by omega), hN]
          cases cAn (M.1 6) (y % 8) q <;> rfl
theorem q_canE {nm np d lt w h B : Nat} {O S M N : kD} (ho : RO nm np O (M.1 6)) (hs : RS nm np d lt w h B S (M.1 6)) (hN : N.1 6 = M.1 6) {x y : Nat} (hx : x < 48) (hy : y < 48) (hyn : y / 8 < nm) :
    f_X12_canFollow (nI (y / 8)) (nI (y % 8)) (nI (x / 8)) (nI (x % 8)) N = some (q_b (cE nm h O (M.1 6) x y)) := by
  rw [q_canF ho hs hN hyn (nI (x / 8)) (nI (x % 8)) (decide (y / 8 ≠ x / 8)) false (by rw [q_eq (by omega) (by omega), decide_eq_false_iff_not, Decidable.not_not]) (by rw [q_lt (by omega) (by omega)]; simp) (fun _ => ⟨x % 8, by omega, rfl⟩), q_cl (by omega)]
  rfl
theorem q_canS {nm np d lt w h B : Nat} {O S M N : kD} (ho : RO nm np O (M.1 6)) (hs : RS nm np d lt w h B S (M.1 6)) (hN : N.1 6 = M.1 6) {y : Nat} (hy : y < 48) (hyn : y / 8 < nm) :
    f_X12_canFollow (nI (y / 8)) (nI (y % 8)) (nI w - nI 1) (nI lt - nI 1) N = some (q_b (cS nm h lt w O (M.1 6) y)) := by
  have hn : nm ≤ 6 := ho.1.1
  have hp : np ≤ 8 := ho.1.2
  obtain ⟨hd, hlt, hw, hlw, hh⟩ := hs.1
  by_cases hl0 : lt = 0
  · have hw0 : w = 0 := hlw.mp hl0
    subst hl0 hw0
    rw [q_canF ho hs hN hyn (nI 0 - nI 1) (nI 0 - nI 1) true true (by rw [q_0m1, q_neg _ (by omega)]; simp) (by rw [q_0m1]; exact propext ⟨fun _ => rfl, fun _ => by decide⟩) (fun h9 => by cases h9)]
    rfl
  · have hw0 : w ≠ 0 := fun e => hl0 (hlw.mpr e)
    rw [q_sub (show 1 ≤ w by omega), q_sub (show 1 ≤ lt by omega)]
    rw [q_canF ho hs hN hyn (nI (w - 1)) (nI (lt - 1)) (decide (y / 8 + 1 ≠ w)) false (by rw [q_eq (by omega) (by omega), decide_eq_false_iff_not, Decidable.not_not]; exact propext (by omega)) (by rw [q_lt (by omega) (by omega)]; simp) (fun _ => ⟨lt - 1, by omega, rfl⟩), q_cl (by omega)]
    unfold cS
    rw [decide_eq_false hl0, Bool.false_or, Bool.false_or]
/-- the first that follows with so few to go -/
theorem q_follow {nm : Nat} {M : kD} {W : Nat → Nat} {F : Nat → Bool} {who lat : Int32} (hn : nm ≤ 6) (e0 : M.1 6 0 = nI nm) (hF : ∀ y, y < 48 → y / 8 < nm → f_X12_canFollow (nI (y / 8)) (nI (y % 8)) who lat M = some (q_b (F y)))
    (hF2 : ∀ y, F y = true → y / 8 < nm) (hW : ∀ y, y < 48 → M.1 23 y = nI (W y) ∧ W y ≤ 1000000) {n : Nat} (hn2 : n < 1000) :
    ((∀ y, y < 48 → F y = true → W y ≠ n) → f_X12_followBy who lat (nI n) M = some mI) ∧
    (∀ y, y < 48 → F y = true → W y = n → (∀ j, j < y → F j = true → W j ≠ n) → f_X12_followBy who lat (nI n) M = some (nI y)) := by
  have step : ∀ f k, k < 48 → ¬ (F k = true ∧ W k = n) → g_X12_followBy_3 M (lp (fun _ _ _ _ => none) (g_X12_followBy_3 M) f) who lat (nI n) (nI k) = lp (fun _ _ _ _ => none) (g_X12_followBy_3 M) f who lat (nI n) (nI (k + 1)) := by
    intro f k hk hno
    obtain ⟨w1, w2⟩ := hW k hk
    generalize lp _ (g_X12_followBy_3 M) f = rc
    unfold g_X12_followBy_3 g_X12_followBy_57
    simp (disch := omega) only [↓q_m1, q_lit, ↓q_bd, ↓reduceIte, q_le, show ¬ 48 ≤ k by omega, q_cl, e0, q_div8, q_rem, q_lt, Nat.not_lt_zero, false_or, w1, q_eq, nI_add]
    by_cases h1 : nm ≤ k / 8
    · rw [if_pos h1]
    · rw [if_neg h1]
      by_cases h2 : W k = n
      · rw [if_pos h2, hF k hk (by omega), q_bo]
        cases hFk : F k with
        | false => rw [if_pos (show q_b false = nI 0 from rfl)]
        | true => exact absurd ⟨hFk, h2⟩ hno
      · rw [if_neg h2]
  refine ⟨fun h => ?_, fun y hy hFy hWy hj => ?_⟩
  · refine q_one (fun f k (_ : Unit) => lp (fun _ _ _ _ => none) (g_X12_followBy_3 M) f who lat (nI n) (nI k)) (fun _ _ => True) (fun r => r = some mI) 48 ?_ ?_ 48 0 2000 () (by omega) (by omega) trivial
    · intro f k _ _ hk _ ih
      simp only [q_lp]
      rw [step f k hk (fun h9 => h k hk h9.1 h9.2)]
      exact ih () trivial
    · intro f _ _
      simp only [q_lp]
      generalize lp _ (g_X12_followBy_3 M) f = rc
      unfold g_X12_followBy_3
      simp (disch := omega) only [↓q_m1, q_lit, ↓reduceIte, q_le, Nat.le_refl]
  · refine q_one (fun f k (_ : Unit) => lp (fun _ _ _ _ => none) (g_X12_followBy_3 M) f who lat (nI n) (nI k)) (fun _ _ => True) (fun r => r = some (nI y)) y ?_ ?_ y 0 2000 () (by omega) (by omega) trivial
    · intro f k _ _ hk _ ih
      simp only [q_lp]
      rw [step f k (by omega) (fun h9 => hj k hk h9.1 h9.2)]
      exact ih () trivial
    · intro f _ _
      obtain ⟨w1, w2⟩ := hW y hy
      have hyn := hF2 y hFy
      simp only [q_lp]
      generalize lp _ (g_X12_followBy_3 M) f = rc
      unfold g_X12_followBy_3
      simp (disch := omega) only [↓q_m1, q_lit, ↓q_bd, ↓reduceIte, q_le, show ¬ 48 ≤ y by omega, q_cl, e0, q_div8, q_rem, q_lt, Nat.not_lt_zero, false_or, w1, q_eq, show ¬ nm ≤ y / 8 by omega, hWy, hF y hy hyn, hFy, q_bo, q_qb, Bool.true_eq_false]
