/-! machine-free: WAYS: the reference's rows -/
theorem q_SI2 (M : kD) (y z : Nat → Int32) (k : Nat) (v : Int32) : kI (kSI (kSI M 26 y) 27 z) 26 k v = kSI (kSI M 26 (upd y k v)) 27 z := by
  rw [← q_SIc _ _ _ _ _ _ (by omega), q_SI]
theorem q_SI3 (M : kD) (y z : Nat → Int32) (k : Nat) (v : Int32) : kI (kSI (kSI M 26 y) 27 z) 27 k v = kSI (kSI M 26 y) 27 (upd z k v) := q_SI _ _ _ _ _
section ways
variable {n nm np : Nat} {T : Nat → Int32} {O S M : kD}
theorem q_laysU {wr : Nat → Nat → Bool} (hn : nm ≤ 6) (h9 : n ≤ 9) (hw : WR n nm wr T O M) (h3 : M.1 0 3 = nI n) (h60 : M.1 6 0 = nI nm) : ∃ y, (∀ i, i < n → ∀ m, m < nm → y (6 * i + m) = nI (uN wr nm i m)) ∧ lp (fun _ _ => none) g_X12_laysWays_2 2000 (nI 0) M = g_X12_laysWays_120 (kSI (kSI M 26 y) 27 (M.1 27)) := by
  have e3 : ∀ y, (kSI (kSI M 26 y) 27 (M.1 27)).1 0 3 = nI n := fun y => h3
  have e6 : ∀ y, (kSI (kSI M 26 y) 27 (M.1 27)).1 6 0 = nI nm := fun y => h60
  have e26 : ∀ y, (kSI (kSI M 26 y) 27 (M.1 27)).1 26 = y := fun y => rfl
  have key := q_one (fun f i (y : Nat → Int32) => lp (fun _ _ => none) g_X12_laysWays_2 f (nI i) (kSI (kSI M 26 y) 27 (M.1 27))) (fun i y => ∀ j, j < i → ∀ m, m < nm → y (6 * j + m) = nI (uN wr nm j m)) (fun r => ∃ y, (∀ i, i < n → ∀ m, m < nm → y (6 * i + m) = nI (uN wr nm i m)) ∧ r = g_X12_laysWays_120 (kSI (kSI M 26 y) 27 (M.1 27))) n ?_ ?_ n 0 2000 (M.1 26) (by omega) (by omega) (fun j hj => absurd hj (Nat.not_lt_zero j))
  · have e : kSI (kSI M 26 (M.1 26)) 27 (M.1 27) = M := by rw [q_SM, q_SM]
    rw [e] at key
    exact key
  · intro f i y _ hi hy ih
    simp only [q_lp]
    generalize lp _ g_X12_laysWays_2 f = rc at ih ⊢
    have hst : g_X12_laysWays_2 rc (nI i) (kSI (kSI M 26 y) 27 (M.1 27)) = lp (fun _ _ _ => none) (g_X12_laysWays_12 rc) 2000 (nI i) (nI 0) (kSI (kSI M 26 y) 27 (M.1 27)) := by
      unfold g_X12_laysWays_2
      simp (disch := omega) only [↓q_m1, q_lit, e3, q_le, show ¬ n ≤ i by omega, ↓reduceIte]
    rw [hst]
    refine q_one (fun f2 m (y2 : Nat → Int32) => lp (fun _ _ _ => none) (g_X12_laysWays_12 rc) f2 (nI i) (nI m) (kSI (kSI M 26 y2) 27 (M.1 27))) (fun m y2 => (∀ j, j < i → ∀ k, k < nm → y2 (6 * j + k) = nI (uN wr nm j k)) ∧ ∀ k, k < m → y2 (6 * i + k) = nI (uN wr nm i k)) (fun r => ∃ y, (∀ i, i < n → ∀ m, m < nm → y (6 * i + m) = nI (uN wr nm i m)) ∧ r = g_X12_laysWays_120 (kSI (kSI M 26 y) 27 (M.1 27))) nm ?_ ?_ nm 0 2000 y (by omega) (by omega) ⟨hy, fun k hk => absurd hk (Nat.not_lt_zero k)⟩
    · intro f2 m y2 _ hm ⟨hy2, hy3⟩ ih2
      simp only [q_lp]
      generalize lp _ (g_X12_laysWays_12 rc) f2 = rc2 at ih2 ⊢
      have hwm := hw.2.1 m i hi hm (kSI (kSI M 26 y2) 27 (M.1 27)) rfl rfl
      have h83 : ∀ v, g_X12_laysWays_83 rc rc2 (nI i) (nI m) v (kSI (kSI M 26 y2) 27 (M.1 27)) = rc2 (nI i) (nI (m + 1)) (kSI (kSI M 26 (upd y2 (6 * i + m) (if wr m i then v else nI 0))) 27 (M.1 27)) := by
        intro v
        unfold g_X12_laysWays_83 g_X12_laysWays_107
        simp (disch := omega) only [↓q_m1, q_lit, ↓q_bd, hwm, ↓q_bo, q_qb, pk_mul, nI_add, q_lt, Nat.not_lt_zero, false_or, q_cl, show ¬ 54 ≤ 6 * i + m by omega, ↓reduceIte, q_SI2]
        cases wr m i with
        | false => rw [if_pos rfl]; rfl
        | true => rw [if_neg (by decide)]; rfl
      have hsum : g_X12_laysWays_12 rc rc2 (nI i) (nI m) (kSI (kSI M 26 y2) 27 (M.1 27)) = g_X12_laysWays_83 rc rc2 (nI i) (nI m) (nI (if i = 0 then 1 else smN (fun k => if k = m then 0 else uN wr nm (i - 1) k) nm)) (kSI (kSI M 26 y2) 27 (M.1 27)) := by
        by_cases hi0 : i = 0
        · rw [if_pos hi0]
          subst hi0
          unfold g_X12_laysWays_12 g_X12_laysWays_31
          simp (disch := omega) only [↓q_m1, q_lit, e6, q_cl, q_le, show ¬ nm ≤ m by omega, ↓reduceIte]
          rw [q_lp _ _ 1999]
          generalize lp _ (g_X12_laysWays_35 rc rc2) 1999 = rc3
          unfold g_X12_laysWays_35
          simp (disch := omega) only [↓q_m1, q_lit, e6, q_cl, q_le, Nat.le_refl, ↓reduceIte, ite_self]
        · rw [if_neg hi0]
          unfold g_X12_laysWays_12 g_X12_laysWays_31
          simp (disch := omega) only [↓q_m1, q_lit, e6, q_cl, q_le, show ¬ nm ≤ m by omega, ↓reduceIte, q_eq, hi0]
          refine q_one (fun f3 k (x : Nat) => lp (fun _ _ _ _ _ => none) (g_X12_laysWays_35 rc rc2) f3 (nI i) (nI m) (nI x) (nI k) (kSI (kSI M 26 y2) 27 (M.1 27))) (fun k x => x = smN (fun k => if k = m then 0 else uN wr nm (i - 1) k) k) (fun r => r = g_X12_laysWays_83 rc rc2 (nI i) (nI m) (nI (smN (fun k => if k = m then 0 else uN wr nm (i - 1) k) nm)) (kSI (kSI M 26 y2) 27 (M.1 27))) nm ?_ ?_ nm 0 2000 0 (by omega) (by omega) rfl
          · intro f3 k x _ hk hx ih3
            simp only [q_lp]
            generalize lp _ (g_X12_laysWays_35 rc rc2) f3 = rc3 at ih3 ⊢
            have hyk := hy2 (i - 1) (by omega) k hk
            unfold g_X12_laysWays_35 g_X12_laysWays_75
            simp (disch := omega) only [↓q_m1, q_lit, ↓q_bd, e6, e26, q_cl, q_le, show ¬ nm ≤ k by omega, show ¬ i ≤ 0 by omega, ↓reduceIte, q_eq, q_sub, pk_mul, nI_add, q_lt, Nat.not_lt_zero, false_or, show ¬ 54 ≤ 6 * (i - 1) + k by omega, hyk]
            have hs : smN (fun k => if k = m then 0 else uN wr nm (i - 1) k) (k + 1) = smN (fun k => if k = m then 0 else uN wr nm (i - 1) k) k + if k = m then 0 else uN wr nm (i - 1) k := rfl
            by_cases hkm : k = m
            · rw [if_pos hkm]
              exact ih3 (x + 0) (by rw [hs, if_pos hkm, hx])
            · rw [if_neg hkm]
              exact ih3 (x + uN wr nm (i - 1) k) (by rw [hs, if_neg hkm, hx])
          · intro f3 x hx
            simp only [q_lp]
            generalize lp _ (g_X12_laysWays_35 rc rc2) f3 = rc3
            unfold g_X12_laysWays_35
            simp (disch := omega) only [↓q_m1, q_lit, e6, q_cl, q_le, Nat.le_refl, ↓reduceIte, hx]
      have hval : (if wr m i then nI (if i = 0 then 1 else smN (fun k => if k = m then 0 else uN wr nm (i - 1) k) nm) else nI 0) = nI (uN wr nm i m) := by
        cases i with
        | zero =>
          show _ = nI (if wr m 0 then 1 else 0)
          cases wr m 0 <;> rfl
        | succ i =>
          show _ = nI (if wr m (i + 1) then smN (fun k => if k = m then 0 else uN wr nm i k) nm else 0)
          rw [if_neg (Nat.succ_ne_zero i), Nat.add_sub_cancel]
          cases wr m (i + 1) <;> rfl
      rw [hsum, h83, hval]
      refine ih2 _ ⟨fun j hj k hk => ?_, fun k hk => ?_⟩
      · rw [up_ne (by omega)]; exact hy2 j hj k hk
      · by_cases hkm : k = m
        · subst hkm; rw [up_eq]
        · rw [up_ne (by omega)]; exact hy3 k (by omega)
    · intro f2 y2 ⟨hy2, hy3⟩
      simp only [q_lp]
      generalize lp _ (g_X12_laysWays_12 rc) f2 = rc2
      unfold g_X12_laysWays_12 g_X12_laysWays_114
      simp (disch := omega) only [↓q_m1, q_lit, ↓q_bd, e6, q_cl, q_le, Nat.le_refl, ↓reduceIte, nI_add]
      refine ih y2 (fun j hj k hk => ?_)
      by_cases hji : j = i
      · subst hji; exact hy3 k hk
      · exact hy2 j (by omega) k hk
  · intro f y hy
    simp only [q_lp]
    generalize lp _ g_X12_laysWays_2 f = rc
    unfold g_X12_laysWays_2
    simp (disch := omega) only [↓q_m1, q_lit, e3, q_le, Nat.le_refl, ↓reduceIte]
    exact ⟨y, hy, rfl⟩
theorem q_laysV {wr : Nat → Nat → Bool} {y : Nat → Int32} (hn : nm ≤ 6) (h1 : 1 ≤ n) (h9 : n ≤ 9) (hw : WR n nm wr T O M) (h3 : M.1 0 3 = nI n) (h60 : M.1 6 0 = nI nm) : ∃ z, (∀ j, j < n → ∀ m, m < nm → z (6 * (n - 1 - j) + m) = nI (eN wr nm n j m)) ∧ g_X12_laysWays_120 (kSI (kSI M 26 y) 27 (M.1 27)) = some (kSI (kSI M 26 y) 27 z) := by
  have e3 : ∀ z, (kSI (kSI M 26 y) 27 z).1 0 3 = nI n := fun y => h3
  have e6 : ∀ z, (kSI (kSI M 26 y) 27 z).1 6 0 = nI nm := fun y => h60
  have e27 : ∀ z, (kSI (kSI M 26 y) 27 z).1 27 = z := fun y => rfl
  have e120 : g_X12_laysWays_120 (kSI (kSI M 26 y) 27 (M.1 27)) = lp (fun _ _ => none) g_X12_laysWays_127 2000 (ixE n 0) (kSI (kSI M 26 y) 27 (M.1 27)) := by
    unfold g_X12_laysWays_120 ixE
    rw [if_pos (by omega), Nat.sub_zero]
    simp (disch := omega) only [↓q_m1, q_lit, ↓q_bd, e3, q_sub]
  rw [e120]
  refine q_one (fun f j (z : Nat → Int32) => lp (fun _ _ => none) g_X12_laysWays_127 f (ixE n j) (kSI (kSI M 26 y) 27 z)) (fun j z => ∀ k, k < j → ∀ m, m < nm → z (6 * (n - 1 - k) + m) = nI (eN wr nm n k m)) (fun r => ∃ z, (∀ j, j < n → ∀ m, m < nm → z (6 * (n - 1 - j) + m) = nI (eN wr nm n j m)) ∧ r = some (kSI (kSI M 26 y) 27 z)) n ?_ ?_ n 0 2000 (M.1 27) (by omega) (by omega) (fun j hj => absurd hj (Nat.not_lt_zero j))
  · intro f j z _ hj hz ih
    simp only [q_lp]
    generalize lp _ g_X12_laysWays_127 f = rc at ih ⊢
    have ej : ixE n j = nI (n - 1 - j) := if_pos hj
    have enx : nI (n - 1 - j) + mI = ixE n (j + 1) := by
      unfold ixE
      rw [show mI = -nI 1 from rfl, ← Int32.sub_eq_add_neg]
      by_cases hlast : j + 1 < n
      · rw [if_pos hlast, q_sub (by omega)]
        exact congrArg nI (by omega)
      · rw [if_neg hlast, show n - 1 - j = 0 by omega]; rfl
    have hst : g_X12_laysWays_127 rc (ixE n j) (kSI (kSI M 26 y) 27 z) = lp (fun _ _ _ => none) (g_X12_laysWays_133 rc) 2000 (nI (n - 1 - j)) (nI 0) (kSI (kSI M 26 y) 27 z) := by
      rw [ej]
      unfold g_X12_laysWays_127
      simp (disch := omega) only [↓q_m1, q_lit, q_lt, Nat.not_lt_zero, ↓reduceIte]
    rw [hst]
    refine q_one (fun f2 m (z2 : Nat → Int32) => lp (fun _ _ _ => none) (g_X12_laysWays_133 rc) f2 (nI (n - 1 - j)) (nI m) (kSI (kSI M 26 y) 27 z2)) (fun m z2 => (∀ k, k < j → ∀ q, q < nm → z2 (6 * (n - 1 - k) + q) = nI (eN wr nm n k q)) ∧ ∀ q, q < m → z2 (6 * (n - 1 - j) + q) = nI (eN wr nm n j q)) (fun r => ∃ z, (∀ j, j < n → ∀ m, m < nm → z (6 * (n - 1 - j) + m) = nI (eN wr nm n j m)) ∧ r = some (kSI (kSI M 26 y) 27 z)) nm ?_ ?_ nm 0 2000 z (by omega) (by omega) ⟨hz, fun k hk => absurd hk (Nat.not_lt_zero k)⟩
    · intro f2 m z2 _ hm ⟨hz2, hz3⟩ ih2
      simp only [q_lp]
      generalize lp _ (g_X12_laysWays_133 rc) f2 = rc2 at ih2 ⊢
      have hwm := hw.2.1 m (n - 1 - j) (by omega) hm (kSI (kSI M 26 y) 27 z2) rfl rfl
      have h216 : ∀ v, g_X12_laysWays_216 rc rc2 (nI (n - 1 - j)) (nI m) v (kSI (kSI M 26 y) 27 z2) = rc2 (nI (n - 1 - j)) (nI (m + 1)) (kSI (kSI M 26 y) 27 (upd z2 (6 * (n - 1 - j) + m) (if wr m (n - 1 - j) then v else nI 0))) := by
        intro v
        unfold g_X12_laysWays_216 g_X12_laysWays_240
        simp (disch := omega) only [↓q_m1, q_lit, ↓q_bd, hwm, ↓q_bo, q_qb, pk_mul, nI_add, q_lt, Nat.not_lt_zero, false_or, q_cl, show ¬ 54 ≤ 6 * (n - 1 - j) + m by omega, ↓reduceIte, q_SI3]
        cases wr m (n - 1 - j) with
        | false => rw [if_pos rfl]; rfl
        | true => rw [if_neg (by decide)]; rfl
      have hsum : g_X12_laysWays_133 rc rc2 (nI (n - 1 - j)) (nI m) (kSI (kSI M 26 y) 27 z2) = g_X12_laysWays_216 rc rc2 (nI (n - 1 - j)) (nI m) (nI (if j = 0 then 1 else smN (fun k => if k = m then 0 else eN wr nm n (j - 1) k) nm)) (kSI (kSI M 26 y) 27 z2) := by
        by_cases hj0 : j = 0
        · rw [if_pos hj0]
          subst hj0
          unfold g_X12_laysWays_133 g_X12_laysWays_158
          simp (disch := omega) only [↓q_m1, q_lit, e6, e3, q_cl, q_le, show ¬ nm ≤ m by omega, ↓reduceIte, q_sub, Nat.sub_zero]
          rw [q_lp _ _ 1999]
          generalize lp _ (g_X12_laysWays_162 rc rc2) 1999 = rc3
          unfold g_X12_laysWays_162
          simp (disch := omega) only [↓q_m1, q_lit, e6, e3, q_cl, q_sub, q_le, Nat.le_refl, ↓reduceIte, ite_self]
        · rw [if_neg hj0]
          unfold g_X12_laysWays_133 g_X12_laysWays_158
          simp (disch := omega) only [↓q_m1, q_lit, e6, e3, q_cl, q_le, show ¬ nm ≤ m by omega, ↓reduceIte, q_eq, q_sub, show ¬ n - 1 - j = n - 1 by omega]
          refine q_one (fun f3 k (x : Nat) => lp (fun _ _ _ _ _ => none) (g_X12_laysWays_162 rc rc2) f3 (nI (n - 1 - j)) (nI m) (nI x) (nI k) (kSI (kSI M 26 y) 27 z2)) (fun k x => x = smN (fun k => if k = m then 0 else eN wr nm n (j - 1) k) k) (fun r => r = g_X12_laysWays_216 rc rc2 (nI (n - 1 - j)) (nI m) (nI (smN (fun k => if k = m then 0 else eN wr nm n (j - 1) k) nm)) (kSI (kSI M 26 y) 27 z2)) nm ?_ ?_ nm 0 2000 0 (by omega) (by omega) rfl
          · intro f3 k x _ hk hx ih3
            simp only [q_lp]
            generalize lp _ (g_X12_laysWays_162 rc rc2) f3 = rc3 at ih3 ⊢
            have hzk := hz2 (j - 1) (by omega) k hk
            rw [show n - 1 - (j - 1) = n - 1 - j + 1 by omega] at hzk
            unfold g_X12_laysWays_162 g_X12_laysWays_208
            simp (disch := omega) only [↓q_m1, q_lit, ↓q_bd, e6, e3, e27, q_cl, q_le, show ¬ nm ≤ k by omega, q_sub, show ¬ n - 1 ≤ n - 1 - j by omega, ↓reduceIte, q_eq, pk_mul, nI_add, q_lt, Nat.not_lt_zero, false_or, show ¬ 54 ≤ 6 * (n - 1 - j + 1) + k by omega, hzk]
            have hs : smN (fun k => if k = m then 0 else eN wr nm n (j - 1) k) (k + 1) = smN (fun k => if k = m then 0 else eN wr nm n (j - 1) k) k + if k = m then 0 else eN wr nm n (j - 1) k := rfl
            by_cases hkm : k = m
            · rw [if_pos hkm]
              exact ih3 (x + 0) (by rw [hs, if_pos hkm, hx])
            · rw [if_neg hkm]
              exact ih3 (x + eN wr nm n (j - 1) k) (by rw [hs, if_neg hkm, hx])
          · intro f3 x hx
            simp only [q_lp]
            generalize lp _ (g_X12_laysWays_162 rc rc2) f3 = rc3
            unfold g_X12_laysWays_162
            simp (disch := omega) only [↓q_m1, q_lit, e6, q_cl, q_le, Nat.le_refl, ↓reduceIte, hx]
      have hval : (if wr m (n - 1 - j) then nI (if j = 0 then 1 else smN (fun k => if k = m then 0 else eN wr nm n (j - 1) k) nm) else nI 0) = nI (eN wr nm n j m) := by
        cases j with
        | zero =>
          show _ = nI (if wr m (n - 1) then 1 else 0)
          rw [Nat.sub_zero]
          cases wr m (n - 1) <;> rfl
        | succ j =>
          show _ = nI (if wr m (n - 1 - (j + 1)) then smN (fun k => if k = m then 0 else eN wr nm n j k) nm else 0)
          rw [if_neg (Nat.succ_ne_zero j), Nat.add_sub_cancel]
          cases wr m (n - 1 - (j + 1)) <;> rfl
      rw [hsum, h216, hval]
      refine ih2 _ ⟨fun k hk q hq => ?_, fun q hq => ?_⟩
      · rw [up_ne (by omega)]; exact hz2 k hk q hq
      · by_cases hqm : q = m
        · subst hqm; rw [up_eq]
        · rw [up_ne (by omega)]; exact hz3 q (by omega)
    · intro f2 z2 ⟨hz2, hz3⟩
      simp only [q_lp]
      generalize lp _ (g_X12_laysWays_133 rc) f2 = rc2
      unfold g_X12_laysWays_133 g_X12_laysWays_247
      simp (disch := omega) only [↓q_m1, q_lit, ↓q_bd, e6, q_cl, q_le, Nat.le_refl, ↓reduceIte, enx]
      refine ih z2 (fun k hk q hq => ?_)
      by_cases hkj : k = j
      · subst hkj; exact hz3 q hq
      · exact hz2 k (by omega) q hq
  · intro f z hz
    simp only [q_lp]
    generalize lp _ g_X12_laysWays_127 f = rc
    have en : ixE n n = mI := if_neg (by omega)
    unfold g_X12_laysWays_127
    rw [en]
    simp only [↓q_m1, q_lit, q_nlt0, ↓reduceIte]
    exact ⟨z, hz, rfl⟩
end ways
