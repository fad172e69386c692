/-! machine-free: OFFICE begun: what was read becomes what holds -/
theorem q_kL9 (M : kD) (f : Nat → Int64) (k : Nat) (v : Int64) : kL (kSL M 9 f) 9 k v = kSL M 9 (vp_updL f k v) := by
  refine Prod.ext rfl ?_
  funext z
  show (if z = 9 then vp_updL ((kSL M 9 f).2 9) k v else (kSL M 9 f).2 z) = if z = 9 then vp_updL f k v else M.2 z
  by_cases h : z = 9
  · rw [if_pos h, if_pos h, q_kSL, if_pos rfl]
  · rw [if_neg h, if_neg h, q_kSL, if_neg h]
theorem q_kSLi (M : kD) (a k : Nat) (v : Int32) (f : Nat → Int64) : kI (kSL M 9 f) a k v = kSL (kI M a k v) 9 f := rfl
def w1 (M : kD) (i : Nat) : Nat → Int32 := fun k => if k < i then (if k < 39 then M.1 7 k else nI 0) else M.1 6 k
def w2 (M : kD) (i : Nat) : Nat → Int64 := fun k => if k < i then M.2 9 (14 + k) else M.2 9 k
def w3 (M : kD) (i : Nat) : Nat → Int32 := fun k => if 44 ≤ k ∧ k < 44 + i then M.1 7 (k - 41) else w1 M 279 k
theorem q_73c (M : kD) : g_X12_office_139 (kSL (kSI M 6 (w1 M 279)) 9 (w2 M 14)) = some (M.1 0 19, kI (kSL (kSI M 6 (w3 M 6)) 9 (w2 M 14)) 0 22 (nI 0)) := by
  have e0 : w3 M 0 = w1 M 279 := by
    funext k
    unfold w3
    rw [if_neg (by omega)]
  unfold g_X12_office_139
  rw [← e0, q_lit]
  refine q_one (fun f i (_ : Unit) => lp (fun _ _ => none) g_X12_office_141 f (nI i) (kSL (kSI M 6 (w3 M i)) 9 (w2 M 14))) (fun _ _ => True) (fun r => r = some (M.1 0 19, kI (kSL (kSI M 6 (w3 M 6)) 9 (w2 M 14)) 0 22 (nI 0))) 6 ?_ ?_ (6 - 0) 0 2000 () (by omega) (by omega) trivial
  · intro f i _ _ hi _ ih
    simp only [q_lp]
    generalize lp _ g_X12_office_141 f = rc at ih ⊢
    have hst : kI (kSL (kSI M 6 (w3 M i)) 9 (w2 M 14)) 6 (44 + i) (w3 M i (3 + i)) = kSL (kSI M 6 (w3 M (i + 1))) 9 (w2 M 14) := by
      rw [q_kSLi, q_SI]
      congr 2
      funext k
      rw [q_up]
      unfold w3 w1
      by_cases h : k = 44 + i
      · rw [if_pos h, if_neg (show ¬ (44 ≤ 3 + i ∧ 3 + i < 44 + i) by omega), if_pos (show 3 + i < 279 by omega), if_pos (show 3 + i < 39 by omega), if_pos (show 44 ≤ k ∧ k < 44 + (i + 1) by omega), show k - 41 = 3 + i by omega]
      · rw [if_neg h]
        by_cases h2 : 44 ≤ k ∧ k < 44 + i
        · rw [if_pos h2, if_pos (show 44 ≤ k ∧ k < 44 + (i + 1) by omega)]
        · rw [if_neg h2, if_neg (show ¬ (44 ≤ k ∧ k < 44 + (i + 1)) by omega)]
    unfold g_X12_office_141
    simp (disch := omega) only [↓q_m1, q_lit, ↓q_bd, q_le, show ¬ 6 ≤ i by omega, ↓reduceIte, nI_add, q_lt, Nat.not_lt_zero, false_or, q_cl, show ¬ 279 ≤ 3 + i by omega, show ¬ 279 ≤ 44 + i by omega, show (kSL (kSI M 6 (w3 M i)) 9 (w2 M 14)).1 6 = w3 M i from rfl, hst]
    exact ih () trivial
  · intro f _ _
    simp only [q_lp]
    generalize lp _ g_X12_office_141 f = rc
    unfold g_X12_office_141 g_X12_office_170
    simp (disch := omega) only [↓q_m1, q_lit, ↓q_bd, q_le, show 6 ≤ 6 by omega, ↓reduceIte]
    rfl
theorem q_73b (M : kD) : g_X12_office_110 (kSI M 6 (w1 M 279)) = some (M.1 0 19, kI (kSL (kSI M 6 (w3 M 6)) 9 (w2 M 14)) 0 22 (nI 0)) := by
  have e0 : kSI M 6 (w1 M 279) = kSL (kSI M 6 (w1 M 279)) 9 (w2 M 0) := by
    refine Prod.ext rfl ?_
    funext z
    show M.2 z = if z = 9 then w2 M 0 else M.2 z
    by_cases h : z = 9
    · rw [if_pos h, h]; funext k; unfold w2; rw [if_neg (by omega)]
    · rw [if_neg h]
  unfold g_X12_office_110
  rw [e0, q_lit]
  refine q_one (fun f i (_ : Unit) => lp (fun _ _ => none) g_X12_office_112 f (nI i) (kSL (kSI M 6 (w1 M 279)) 9 (w2 M i))) (fun _ _ => True) (fun r => r = some (M.1 0 19, kI (kSL (kSI M 6 (w3 M 6)) 9 (w2 M 14)) 0 22 (nI 0))) 14 ?_ ?_ (14 - 0) 0 2000 () (by omega) (by omega) trivial
  · intro f i _ _ hi _ ih
    simp only [q_lp]
    generalize lp _ g_X12_office_112 f = rc at ih ⊢
    have hst : kL (kSL (kSI M 6 (w1 M 279)) 9 (w2 M i)) 9 i (w2 M i (14 + i)) = kSL (kSI M 6 (w1 M 279)) 9 (w2 M (i + 1)) := by
      rw [q_kL9]
      congr 1
      funext k
      rw [q_upL]
      unfold w2
      by_cases h : k = i
      · rw [if_pos h, if_neg (by omega), if_pos (by omega), h]
      · rw [if_neg h]
        by_cases h2 : k < i
        · rw [if_pos h2, if_pos (by omega)]
        · rw [if_neg h2, if_neg (by omega)]
    unfold g_X12_office_112
    simp (disch := omega) only [↓q_m1, q_lit, ↓q_bd, q_le, show ¬ 14 ≤ i by omega, ↓reduceIte, nI_add, q_lt, Nat.not_lt_zero, false_or, q_cl, show ¬ 28 ≤ 14 + i by omega, show ¬ 28 ≤ i by omega, show (kSL (kSI M 6 (w1 M 279)) 9 (w2 M i)).2 9 = w2 M i from rfl, hst]
    exact ih () trivial
  · intro f _ _
    simp only [q_lp]
    generalize lp _ g_X12_office_112 f = rc
    unfold g_X12_office_112
    simp (disch := omega) only [↓q_m1, q_lit, q_le, show 14 ≤ 14 by omega, ↓reduceIte]
    exact q_73c M
theorem q_73 (M : kD) : g_X12_office_73 M = some (M.1 0 19, kI (kSL (kSI M 6 (w3 M 6)) 9 (w2 M 14)) 0 22 (nI 0)) := by
  have e0 : M = kSI M 6 (w1 M 0) := by
    have : w1 M 0 = M.1 6 := by
      funext k; unfold w1; rw [if_neg (by omega)]
    rw [this, q_SM]
  have hl : lp (fun _ _ => none) g_X12_office_75 2000 (nI 0) (kSI M 6 (w1 M 0)) = some (M.1 0 19, kI (kSL (kSI M 6 (w3 M 6)) 9 (w2 M 14)) 0 22 (nI 0)) := by
    refine q_one (fun f i (_ : Unit) => lp (fun _ _ => none) g_X12_office_75 f (nI i) (kSI M 6 (w1 M i))) (fun _ _ => True) (fun r => r = some (M.1 0 19, kI (kSL (kSI M 6 (w3 M 6)) 9 (w2 M 14)) 0 22 (nI 0))) 279 ?_ ?_ (279 - 0) 0 2000 () (by omega) (by omega) trivial
    · intro f i _ _ hi _ ih
      simp only [q_lp]
      generalize lp _ g_X12_office_75 f = rc at ih ⊢
      have hst : ∀ v : Int32, v = (if i < 39 then M.1 7 i else nI 0) → kI (kSI M 6 (w1 M i)) 6 i v = kSI M 6 (w1 M (i + 1)) := by
        intro v hv
        rw [q_SI]
        congr 1
        funext k
        rw [q_up]
        unfold w1
        by_cases h : k = i
        · rw [if_pos h, if_pos (show k < i + 1 by omega), hv, h]
        · rw [if_neg h]
          by_cases h2 : k < i
          · rw [if_pos h2, if_pos (show k < i + 1 by omega)]
          · rw [if_neg h2, if_neg (show ¬ k < i + 1 by omega)]
      have h103 : ∀ v : Int32, v = (if i < 39 then M.1 7 i else nI 0) → g_X12_office_103 rc (nI i) (nI i) v (kSI M 6 (w1 M i)) = rc (nI (i + 1)) (kSI M 6 (w1 M (i + 1))) := by
        intro v hv
        unfold g_X12_office_103
        simp (disch := omega) only [↓q_m1, q_lit, ↓q_bd, ↓reduceIte, nI_add, q_lt, Nat.not_lt_zero, false_or, q_cl, show ¬ 279 ≤ i by omega, hst v hv]
      unfold g_X12_office_75
      simp (disch := omega) only [↓q_m1, q_lit, q_le, show ¬ 279 ≤ i by omega, ↓reduceIte, q_lt, Nat.not_lt_zero, false_or, q_cl]
      by_cases h39 : 39 ≤ i
      · rw [if_pos h39, h103 _ (by rw [if_neg (by omega)])]
        exact ih () trivial
      · rw [if_neg h39, if_neg h39, h103 _ (by rw [if_pos (show i < 39 by omega)]; rfl)]
        exact ih () trivial
    · intro f _ _
      simp only [q_lp]
      generalize lp _ g_X12_office_75 f = rc
      unfold g_X12_office_75
      simp (disch := omega) only [↓q_m1, q_lit, q_le, show 279 ≤ 279 by omega, ↓reduceIte]
      exact q_73b M
  unfold g_X12_office_73
  rw [q_lit]
  rw [← e0] at hl
  exact hl
/-- the class's state at a beginning -/
theorem q_begS (S O : kD) : ∃ S', f_X9_begin S O = some S' ∧ S'.1 0 0 = nI 0 ∧ S'.1 0 1 = mI ∧ S'.1 0 2 = mI ∧ S'.1 0 3 = nI 0 ∧ S'.1 0 4 = nI 0 ∧ (∀ m, m < 6 → S'.1 5 m = O.1 5 m ∧ S'.1 6 m = nI 0 ∧ S'.1 7 m = nI 0) ∧ ∀ i, i < 36 → S'.1 8 i = nI 0 := by
  unfold f_X9_begin
  simp only [↓q_m1, q_lit, ↓q_bd]
  refine q_one (fun f i (Q : kD) => lp (fun _ _ => none) (g_X9_begin_27 O) f (nI i) Q) (fun i Q => (Q.1 0 0 = nI 0 ∧ Q.1 0 1 = mI ∧ Q.1 0 2 = mI ∧ Q.1 0 3 = nI 0 ∧ Q.1 0 4 = nI 0) ∧ ∀ m, m < i → Q.1 5 m = O.1 5 m ∧ Q.1 6 m = nI 0 ∧ Q.1 7 m = nI 0) (fun r => ∃ S', r = some S' ∧ S'.1 0 0 = nI 0 ∧ S'.1 0 1 = mI ∧ S'.1 0 2 = mI ∧ S'.1 0 3 = nI 0 ∧ S'.1 0 4 = nI 0 ∧ (∀ m, m < 6 → S'.1 5 m = O.1 5 m ∧ S'.1 6 m = nI 0 ∧ S'.1 7 m = nI 0) ∧ ∀ i, i < 36 → S'.1 8 i = nI 0) 6 ?_ ?_ (6 - 0) 0 2000 _ (by omega) (by omega) ⟨⟨rfl, rfl, rfl, rfl, rfl⟩, fun m hm => absurd hm (Nat.not_lt_zero m)⟩
  · intro f i Q _ hi ⟨h0, hm⟩ ih
    simp only [q_lp]
    generalize lp _ (g_X9_begin_27 O) f = rc at ih ⊢
    unfold g_X9_begin_27
    simp (disch := omega) only [↓q_m1, q_lit, ↓q_bd, q_le, show ¬ 6 ≤ i by omega, ↓reduceIte, nI_add, q_lt, Nat.not_lt_zero, false_or, q_cl]
    refine ih _ ⟨h0, fun m hm2 => ?_⟩
    show upd (Q.1 5) i (O.1 5 i) m = _ ∧ upd (Q.1 6) i (nI 0) m = _ ∧ upd (Q.1 7) i (nI 0) m = _
    by_cases e : m = i
    · subst e; exact ⟨up_eq, up_eq, up_eq⟩
    · rw [up_ne e, up_ne e, up_ne e]; exact hm m (by omega)
  · intro f Q ⟨⟨h0, h1, h2, h3, h4⟩, hm⟩
    simp only [q_lp]
    generalize lp _ (g_X9_begin_27 O) f = rc
    have h27 : g_X9_begin_27 O rc (nI 6) Q = lp (fun _ _ => none) (g_X9_begin_67 O) 2000 (nI 0) Q := by
      unfold g_X9_begin_27 g_X9_begin_65
      simp (disch := omega) only [↓q_m1, q_lit, q_le, show 6 ≤ 6 by omega, ↓reduceIte]
    rw [h27]
    refine q_one (fun f i (Q' : kD) => lp (fun _ _ => none) (g_X9_begin_67 O) f (nI i) Q') (fun i Q' => (∀ b, b ≠ 8 → Q'.1 b = Q.1 b) ∧ ∀ j, j < i → Q'.1 8 j = nI 0) (fun r => ∃ S', r = some S' ∧ S'.1 0 0 = nI 0 ∧ S'.1 0 1 = mI ∧ S'.1 0 2 = mI ∧ S'.1 0 3 = nI 0 ∧ S'.1 0 4 = nI 0 ∧ (∀ m, m < 6 → S'.1 5 m = O.1 5 m ∧ S'.1 6 m = nI 0 ∧ S'.1 7 m = nI 0) ∧ ∀ i, i < 36 → S'.1 8 i = nI 0) 36 ?_ ?_ (36 - 0) 0 2000 Q (by omega) (by omega) ⟨fun _ _ => rfl, fun j hj => absurd hj (Nat.not_lt_zero j)⟩
    · intro f i Q' _ hi ⟨g0, g1⟩ ih
      simp only [q_lp]
      generalize lp _ (g_X9_begin_67 O) f = rd at ih ⊢
      unfold g_X9_begin_67
      simp (disch := omega) only [↓q_m1, q_lit, ↓q_bd, q_le, show ¬ 36 ≤ i by omega, ↓reduceIte, nI_add, q_lt, Nat.not_lt_zero, false_or, q_cl]
      refine ih _ ⟨fun b hb => ?_, fun j hj => ?_⟩
      · rw [q_kI, if_neg hb]; exact g0 b hb
      · show upd (Q'.1 8) i (nI 0) j = _
        by_cases e : j = i
        · subst e; exact up_eq
        · rw [up_ne e]; exact g1 j (by omega)
    · intro f Q' ⟨g0, g1⟩
      simp only [q_lp]
      generalize lp _ (g_X9_begin_67 O) f = rd
      unfold g_X9_begin_67
      simp (disch := omega) only [↓q_m1, q_lit, q_le, show 36 ≤ 36 by omega, ↓reduceIte]
      refine ⟨Q', rfl, ?_, ?_, ?_, ?_, ?_, fun m hm2 => ?_, g1⟩
      · rw [g0 0 (by omega)]; exact h0
      · rw [g0 0 (by omega)]; exact h1
      · rw [g0 0 (by omega)]; exact h2
      · rw [g0 0 (by omega)]; exact h3
      · rw [g0 0 (by omega)]; exact h4
      · rw [g0 5 (by omega), g0 6 (by omega), g0 7 (by omega)]; exact hm m hm2
