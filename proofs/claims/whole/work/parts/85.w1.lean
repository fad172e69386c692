/-! machine-free: WAYS: the rows -/
theorem q_uR {F : Nat → Nat → Int32} {k : Nat} {f : Nat → Int32} {i : Nat} : upR F k f i = if i = k then f else F i := rfl
theorem c9 {i : Nat} (h : i < 9) : i = 0 ∨ i = 1 ∨ i = 2 ∨ i = 3 ∨ i = 4 ∨ i = 5 ∨ i = 6 ∨ i = 7 ∨ i = 8 := by omega
def bN (b : Bool) : Nat := if b then 1 else 0
/-- in how many ways a row up to a place can have been written, the last one by m; wr: who knows what -/
def uN (wr : Nat → Nat → Bool) (nm : Nat) : Nat → Nat → Nat
  | 0, m => if wr m 0 then 1 else 0
  | i + 1, m => if wr m (i + 1) then smN (fun k => if k = m then 0 else uN wr nm i k) nm else 0
/-- .. from a place on, counted from the end -/
def eN (wr : Nat → Nat → Bool) (nm n : Nat) : Nat → Nat → Nat
  | 0, m => if wr m (n - 1) then 1 else 0
  | j + 1, m => if wr m (n - 1 - (j + 1)) then smN (fun k => if k = m then 0 else eN wr nm n j k) nm else 0
theorem smN_le6 (f : Nat → Nat) (nm B : Nat) (hn : nm ≤ 6) (h : ∀ k, k < nm → f k ≤ B) : smN f nm ≤ 6 * B := Nat.le_trans (smN_le f nm B h) (Nat.mul_le_mul_right B hn)
theorem uN_le {wr : Nat → Nat → Bool} {nm : Nat} (hn : nm ≤ 6) : ∀ i m, uN wr nm i m ≤ 6 ^ i := by
  intro i
  induction i with
  | zero => intro m; show (if wr m 0 then 1 else 0) ≤ 1; split <;> omega
  | succ i ih =>
    intro m
    show (if wr m (i + 1) then smN (fun k => if k = m then 0 else uN wr nm i k) nm else 0) ≤ 6 ^ (i + 1)
    split
    · rw [Nat.pow_succ, Nat.mul_comm]
      refine smN_le6 _ nm _ hn (fun k _ => ?_)
      show (if k = m then 0 else uN wr nm i k) ≤ 6 ^ i
      split
      · exact Nat.zero_le _
      · exact ih k
    · exact Nat.zero_le _
theorem eN_le {wr : Nat → Nat → Bool} {nm n : Nat} (hn : nm ≤ 6) : ∀ i m, eN wr nm n i m ≤ 6 ^ i := by
  intro i
  induction i with
  | zero => intro m; show (if wr m (n - 1) then 1 else 0) ≤ 1; split <;> omega
  | succ i ih =>
    intro m
    show (if wr m (n - 1 - (i + 1)) then smN (fun k => if k = m then 0 else eN wr nm n i k) nm else 0) ≤ 6 ^ (i + 1)
    split
    · rw [Nat.pow_succ, Nat.mul_comm]
      refine smN_le6 _ nm _ hn (fun k _ => ?_)
      show (if k = m then 0 else eN wr nm n i k) ≤ 6 ^ i
      split
      · exact Nat.zero_le _
      · exact ih k
    · exact Nat.zero_le _
theorem uN_z {wr : Nat → Nat → Bool} {nm i m : Nat} (h : ∀ i, wr m i = false) : uN wr nm i m = 0 := by
  cases i with
  | zero => show (if wr m 0 then 1 else 0) = 0; rw [h 0]; rfl
  | succ i => show (if wr m (i + 1) then _ else 0) = 0; rw [h (i + 1)]; rfl
theorem eN_z {wr : Nat → Nat → Bool} {nm n i m : Nat} (h : ∀ i, wr m i = false) : eN wr nm n i m = 0 := by
  cases i with
  | zero => show (if wr m (n - 1) then 1 else 0) = 0; rw [h]; rfl
  | succ i => show (if wr m (n - 1 - (i + 1)) then _ else 0) = 0; rw [h]; rfl
theorem smN_but (f : Nat → Nat) (m : Nat) : ∀ n, (m < n → smN f n = f m + smN (fun k => if k = m then 0 else f k) n) ∧ (n ≤ m → smN f n = smN (fun k => if k = m then 0 else f k) n) := by
  intro n
  induction n with
  | zero => exact ⟨fun h => by omega, fun _ => rfl⟩
  | succ n ih =>
    refine ⟨fun h => ?_, fun h => ?_⟩
    · show smN f n + f n = f m + (smN (fun k => if k = m then 0 else f k) n + if n = m then 0 else f n)
      by_cases hnm : n = m
      · subst hnm
        rw [if_pos rfl, ih.2 (Nat.le_refl n)]
        omega
      · rw [if_neg hnm, ih.1 (by omega)]
        omega
    · show smN f n + f n = smN (fun k => if k = m then 0 else f k) n + if n = m then 0 else f n
      rw [if_neg (by omega), ih.2 (by omega)]
theorem smN_cut (f : Nat → Nat) (n N : Nat) (hn : n ≤ N) (h : ∀ k, n ≤ k → k < N → f k = 0) : smN f N = smN f n := by
  induction N with
  | zero => rw [show n = 0 by omega]
  | succ N ih =>
    by_cases he : n = N + 1
    · rw [he]
    · show smN f N + f N = _
      rw [h N (by omega) (by omega), ih (by omega) (fun k h1 h2 => h k h1 (by omega)), Nat.add_zero]
/-- the class's sum without one -/
theorem q_sumWo {A : Nat → Int32} {a : Nat → Nat} {nm m : Nat} (hn : nm ≤ 6) (hm : m < 6) (hA : ∀ k, k < 6 → A k = nI (a k)) (hz : ∀ k, nm ≤ k → k < 6 → a k = 0) : f_X6_sumWithout (nI m) 6 A = some (nI (smN (fun k => if k = m then 0 else a k) nm)) := by
  have h1 := q_sum 6 A (by omega)
  rw [smI_N A a 6 hA] at h1
  have e1 : smN a 6 = a m + smN (fun k => if k = m then 0 else a k) 6 := (smN_but a m 6).1 hm
  have e2 : smN (fun k => if k = m then 0 else a k) 6 = smN (fun k => if k = m then 0 else a k) nm := smN_cut _ nm 6 hn (fun k h1 h2 => by show (if k = m then 0 else a k) = 0; rw [hz k h1 h2, ite_self])
  unfold f_X6_sumWithout
  simp (disch := omega) only [↓q_m1, q_lit, q_of, q_lt, Nat.not_lt_zero, ↓reduceIte, q_le, show ¬ 6 ≤ m by omega, h1, ↓q_bo, false_or, q_cl, hA m hm]
  rw [e1, e2, q_sub (Nat.le_add_right _ _), Nat.add_sub_cancel_left]
section ways
variable {n nm np : Nat} {T : Nat → Int32} {O S M : kD}
/-- who knows what, on both sides -/
def WR (n nm : Nat) (wr : Nat → Nat → Bool) (T : Nat → Int32) (O M : kD) : Prop := (∀ m i, i < n → m < 6 → f_X3_knowsOf (nI m) (T i) O = some (q_b (wr m i))) ∧ (∀ m i, i < n → m < nm → ∀ X : kD, X.1 1 = M.1 1 → X.1 6 = M.1 6 → f_X12_isWriter (nI m) (nI i) X = some (q_b (wr m i))) ∧ ∀ m, nm ≤ m → ∀ i, wr m i = false
theorem q_WR (ho : RO nm np O (M.1 6)) (hz : RZ n T M) (hP : tP np n T) : ∃ wr, WR n nm wr T O M := by
  obtain ⟨h1, h9, hph⟩ := hP
  have hn := ho.1.1
  have hp := ho.1.2
  refine ⟨fun m i => decide (m < nm) && ((O.1 6 m).toNatClampNeg.testBit (tN T i)), fun m i hi hm => ?_, fun m i hi hm X hX1 hX6 => ?_, fun m hm i => ?_⟩
  · obtain ⟨q, hq, tq⟩ := hph i hi
    have : tN T i = q := by unfold tN; rw [tq, q_cl (by omega)]
    show f_X3_knowsOf (nI m) (T i) O = some (q_b (decide (m < nm) && (O.1 6 m).toNatClampNeg.testBit (tN T i)))
    rw [tq, this]
    by_cases hmn : m < nm
    · rw [decide_eq_true hmn, Bool.true_and]
      exact (q_knows ho hmn hq).1
    · rw [decide_eq_false hmn, Bool.false_and]
      unfold f_X3_knowsOf f_X3_hasMachine
      simp (disch := omega) only [↓q_m1, q_lit, ho.2.1.2.2.1, q_lt, Nat.not_lt_zero, ↓reduceIte, q_le, show nm ≤ m by omega]
      rfl
  · obtain ⟨q, hq, tq⟩ := hph i hi
    have e : tN T i = q := by unfold tN; rw [tq, q_cl (by omega)]
    have hoc : f_X12_octet (nI i) X = some (T i) := by
      have h0 := q_oct hz (show i < 940 by omega)
      unfold f_X12_octet at h0 ⊢
      rw [hX1]; exact h0
    have hk := (q_knows ho hm hq).2
    have e6 : X.1 6 (9 + m) = M.1 6 (9 + m) := by rw [hX6]
    unfold f_X12_isWriter
    simp (disch := omega) only [↓q_m1, q_lit, ↓q_bd, nI_add, q_lt, Nat.not_lt_zero, false_or, q_cl, show ¬ 279 ≤ 9 + m by omega, ↓reduceIte, hoc, ↓q_bo, e6]
    rw [tq, hk, decide_eq_true hm, Bool.true_and, e]
  · show (decide (m < nm) && (O.1 6 m).toNatClampNeg.testBit (tN T i)) = false
    rw [decide_eq_false (show ¬ m < nm by omega), Bool.false_and]
theorem c8b {i : Nat} (h0 : 1 ≤ i) (h : i < 9) : i = 1 ∨ i = 2 ∨ i = 3 ∨ i = 4 ∨ i = 5 ∨ i = 6 ∨ i = 7 ∨ i = 8 := by omega
theorem c8c {i : Nat} (h : i < 8) : i = 0 ∨ i = 1 ∨ i = 2 ∨ i = 3 ∨ i = 4 ∨ i = 5 ∨ i = 6 ∨ i = 7 := by omega
/-- one place of the class's rows laid -/
theorem q_m87 {rc22 : Int32 → Int32 → kD → (Nat → Nat → Int32) → (Nat → Nat → Int32) → Option (Int32 × kD × (Nat → Nat → Int32) × (Nat → Nat → Int32))} {rc31 : Int32 → Int32 → Int32 → kD → (Nat → Nat → Int32) → (Nat → Nat → Int32) → Option (Int32 × kD × (Nat → Nat → Int32) × (Nat → Nat → Int32))} {nA : Nat} {A : Nat → Int32} {x3 x4 v : Int32} {RW : kD} {UF VF : Nat → Nat → Int32} {i m : Nat} (hi : i < 9) (hm : m < 6) : g_X6_measure_87 rc22 rc31 nA O A x3 x4 (nI m) (nI i) (nI m) v RW UF VF = rc31 x3 x4 (nI (m + 1)) RW (upR UF i (upd (UF i) m v)) VF := by
  rcases c9 hi with rfl | rfl | rfl | rfl | rfl | rfl | rfl | rfl | rfl <;>
    (unfold g_X6_measure_87
     simp (disch := omega) only [↓q_m1, q_lit, ↓q_bd, q_eq, Nat.reduceEqDiff, ↓reduceIte, q_lt, Nat.not_lt_zero, false_or, q_cl, show ¬ 6 ≤ m by omega, nI_add])
theorem q_m172 {rc105 : Int32 → Int32 → kD → (Nat → Nat → Int32) → (Nat → Nat → Int32) → Option (Int32 × kD × (Nat → Nat → Int32) × (Nat → Nat → Int32))} {rc113 : Int32 → Int32 → Int32 → kD → (Nat → Nat → Int32) → (Nat → Nat → Int32) → Option (Int32 × kD × (Nat → Nat → Int32) × (Nat → Nat → Int32))} {nA : Nat} {A : Nat → Int32} {x3 x4 v : Int32} {RW : kD} {UF VF : Nat → Nat → Int32} {i m : Nat} (hi : i < 9) (hm : m < 6) : g_X6_measure_172 rc105 rc113 nA O A x3 x4 (nI m) (nI i) (nI m) v RW UF VF = rc113 x3 x4 (nI (m + 1)) RW UF (upR VF i (upd (VF i) m v)) := by
  rcases c9 hi with rfl | rfl | rfl | rfl | rfl | rfl | rfl | rfl | rfl <;>
    (unfold g_X6_measure_172
     simp (disch := omega) only [↓q_m1, q_lit, ↓q_bd, q_eq, Nat.reduceEqDiff, ↓reduceIte, q_lt, Nat.not_lt_zero, false_or, q_cl, show ¬ 6 ≤ m by omega, nI_add])
/-- one place of the rows up to here -/
theorem q_m31 {rc22 : Int32 → Int32 → kD → (Nat → Nat → Int32) → (Nat → Nat → Int32) → Option (Int32 × kD × (Nat → Nat → Int32) × (Nat → Nat → Int32))} {rc31 : Int32 → Int32 → Int32 → kD → (Nat → Nat → Int32) → (Nat → Nat → Int32) → Option (Int32 × kD × (Nat → Nat → Int32) × (Nat → Nat → Int32))} {x3 : Int32} {RW : kD} {UF VF : Nat → Nat → Int32} {i m : Nat} {wr : Nat → Nat → Bool} (hn : nm ≤ 6) (h9 : n ≤ 9) (hw : WR n nm wr T O M) (hi : i < n) (hm : m < 6) (hU : ∀ j, j < i → ∀ k, k < 6 → UF j k = nI (uN wr nm j k)) :
    g_X6_measure_31 rc22 940 O T rc31 x3 (nI i) (nI m) RW UF VF = rc31 x3 (nI i) (nI (m + 1)) RW (upR UF i (upd (UF i) m (nI (uN wr nm i m)))) VF := by
  have hk := hw.1 m i hi hm
  cases i with
  | zero =>
    unfold g_X6_measure_31
    simp (disch := omega) only [↓q_m1, q_lit, ↓q_bd, q_le, show ¬ 6 ≤ m by omega, ↓reduceIte, q_lt, Nat.not_lt_zero, false_or, q_cl, Nat.reduceLeDiff, hk, ↓q_bo, q_qb]
    rw [q_m87 (by omega) hm, q_m87 (by omega) hm]
    show _ = rc31 x3 (nI 0) (nI (m + 1)) RW (upR UF 0 (upd (UF 0) m (nI (if wr m 0 then 1 else 0)))) VF
    cases wr m 0 with
    | false => rw [if_pos rfl]; rfl
    | true => rw [if_neg (by decide)]; rfl
  | succ i =>
    have hsw := q_sumWo (A := UF i) (a := uN wr nm i) hn hm (fun k hk => hU i (by omega) k hk) (fun k h1 _ => uN_z (hw.2.2 k h1))
    have hg : ∀ y, 1 ≤ y → y < 9 → f_X3_knowsOf (nI m) (T y) O = some (q_b (wr m y)) → g_X6_measure_31 rc22 940 O T rc31 x3 (nI y) (nI m) RW UF VF = if wr m y = false then g_X6_measure_87 rc22 rc31 940 O T x3 (nI y) (nI m) (nI y) (nI m) (nI 0) RW UF VF else bo (f_X6_sumWithout (nI m) 6 (UF (y - 1))) fun v => g_X6_measure_87 rc22 rc31 940 O T x3 (nI y) (nI m) (nI y) (nI m) v RW UF VF := by
      intro y h1 h2 hky
      rcases c8b h1 h2 with rfl | rfl | rfl | rfl | rfl | rfl | rfl | rfl <;>
        (unfold g_X6_measure_31
         simp (disch := omega) only [↓q_m1, q_lit, ↓q_bd, q_le, show ¬ 6 ≤ m by omega, ↓reduceIte, q_lt, Nat.not_lt_zero, false_or, q_cl, Nat.reduceLeDiff, hky, ↓q_bo, q_qb, q_eq, Nat.reduceEqDiff, q_sub, Nat.reduceSub])
    have hgo := hg (i + 1) (by omega) (by omega) hk
    rw [Nat.add_sub_cancel] at hgo
    rw [hgo, hsw, q_bo, q_m87 (by omega) hm, q_m87 (by omega) hm]
    show _ = rc31 x3 (nI (i + 1)) (nI (m + 1)) RW (upR UF (i + 1) (upd (UF (i + 1)) m (nI (if wr m (i + 1) then smN (fun k => if k = m then 0 else uN wr nm i k) nm else 0)))) VF
    cases wr m (i + 1) with
    | false => rw [if_pos rfl]; rfl
    | true => rw [if_neg (by decide)]; rfl
/-- one place of the rows from here on; j: how far from the end -/
theorem q_m113 {rc105 : Int32 → Int32 → kD → (Nat → Nat → Int32) → (Nat → Nat → Int32) → Option (Int32 × kD × (Nat → Nat → Int32) × (Nat → Nat → Int32))} {rc113 : Int32 → Int32 → Int32 → kD → (Nat → Nat → Int32) → (Nat → Nat → Int32) → Option (Int32 × kD × (Nat → Nat → Int32) × (Nat → Nat → Int32))} {RW : kD} {UF VF : Nat → Nat → Int32} {j m : Nat} {wr : Nat → Nat → Bool} (hn : nm ≤ 6) (h9 : n ≤ 9) (hw : WR n nm wr T O M) (hj : j < n) (hm : m < 6) (hV : ∀ k, k < j → ∀ q, q < 6 → VF (n - 1 - k) q = nI (eN wr nm n k q)) :
    g_X6_measure_113 rc105 940 O T rc113 (nI n) (nI (n - 1 - j)) (nI m) RW UF VF = rc113 (nI n) (nI (n - 1 - j)) (nI (m + 1)) RW UF (upR VF (n - 1 - j) (upd (VF (n - 1 - j)) m (nI (eN wr nm n j m)))) := by
  have hk := hw.1 m (n - 1 - j) (by omega) hm
  cases j with
  | zero =>
    rw [Nat.sub_zero] at *
    unfold g_X6_measure_113
    simp (disch := omega) only [↓q_m1, q_lit, ↓q_bd, q_le, show ¬ 6 ≤ m by omega, ↓reduceIte, q_lt, Nat.not_lt_zero, false_or, q_cl, show ¬ 9 ≤ n - 1 by omega, show ¬ 940 ≤ n - 1 by omega, hk, ↓q_bo, q_qb, q_sub]
    rw [q_m172 (by omega) hm, q_m172 (by omega) hm]
    show _ = rc113 (nI n) (nI (n - 1)) (nI (m + 1)) RW UF (upR VF (n - 1) (upd (VF (n - 1)) m (nI (if wr m (n - 1) then 1 else 0))))
    cases wr m (n - 1) with
    | false => rw [if_pos rfl]; rfl
    | true => rw [if_neg (by decide)]; rfl
  | succ j =>
    have hsw := q_sumWo (A := VF (n - 1 - j)) (a := eN wr nm n j) hn hm (fun k hk => hV j (by omega) k hk) (fun k h1 _ => eN_z (hw.2.2 k h1))
    have hg : ∀ y, y < 8 → y + 1 < n → f_X3_knowsOf (nI m) (T y) O = some (q_b (wr m y)) → g_X6_measure_113 rc105 940 O T rc113 (nI n) (nI y) (nI m) RW UF VF = if wr m y = false then g_X6_measure_172 rc105 rc113 940 O T (nI n) (nI y) (nI m) (nI y) (nI m) (nI 0) RW UF VF else bo (f_X6_sumWithout (nI m) 6 (VF (y + 1))) fun v => g_X6_measure_172 rc105 rc113 940 O T (nI n) (nI y) (nI m) (nI y) (nI m) v RW UF VF := by
      intro y h1 h2 hky
      have h3 : ¬ y = n - 1 := by omega
      rcases c8c h1 with rfl | rfl | rfl | rfl | rfl | rfl | rfl | rfl <;>
        (unfold g_X6_measure_113
         simp (disch := omega) only [↓q_m1, q_lit, ↓q_bd, q_le, show ¬ 6 ≤ m by omega, ↓reduceIte, q_lt, Nat.not_lt_zero, false_or, q_cl, Nat.reduceLeDiff, hky, ↓q_bo, q_qb, q_eq, Nat.reduceEqDiff, q_sub, h3, nI_add, Nat.reduceAdd])
    have hgo := hg (n - 1 - (j + 1)) (by omega) (by omega) hk
    rw [show n - 1 - (j + 1) + 1 = n - 1 - j by omega] at hgo
    rw [hgo, hsw, q_bo, q_m172 (by omega) hm, q_m172 (by omega) hm]
    show _ = rc113 (nI n) (nI (n - 1 - (j + 1))) (nI (m + 1)) RW UF (upR VF (n - 1 - (j + 1)) (upd (VF (n - 1 - (j + 1))) m (nI (if wr m (n - 1 - (j + 1)) then smN (fun k => if k = m then 0 else eN wr nm n j k) nm else 0))))
    cases wr m (n - 1 - (j + 1)) with
    | false => rw [if_pos rfl]; rfl
    | true => rw [if_neg (by decide)]; rfl
/-- the class's rows -/
theorem q_measU {RW : kD} {UF VF : Nat → Nat → Int32} {wr : Nat → Nat → Bool} (hn : nm ≤ 6) (h9 : n ≤ 9) (hw : WR n nm wr T O M) : ∃ UF', (∀ j, j < n → ∀ k, k < 6 → UF' j k = nI (uN wr nm j k)) ∧ lp (fun _ _ _ _ _ => none) (g_X6_measure_22 940 O T) 2000 (nI n) (nI 0) RW UF VF = g_X6_measure_100 940 O T (nI n) RW UF' VF := by
  refine q_one (fun f i (U : Nat → Nat → Int32) => lp (fun _ _ _ _ _ => none) (g_X6_measure_22 940 O T) f (nI n) (nI i) RW U VF) (fun i U => ∀ j, j < i → ∀ k, k < 6 → U j k = nI (uN wr nm j k)) (fun r => ∃ UF', (∀ j, j < n → ∀ k, k < 6 → UF' j k = nI (uN wr nm j k)) ∧ r = g_X6_measure_100 940 O T (nI n) RW UF' VF) n ?_ ?_ n 0 2000 UF (by omega) (by omega) (fun j hj => absurd hj (Nat.not_lt_zero j))
  · intro f i U _ hi hU ih
    simp only [q_lp]
    generalize lp _ (g_X6_measure_22 940 O T) f = rc at ih ⊢
    have hst : g_X6_measure_22 940 O T rc (nI n) (nI i) RW U VF = lp (fun _ _ _ _ _ _ => none) (g_X6_measure_31 rc 940 O T) 2000 (nI n) (nI i) (nI 0) RW U VF := by
      unfold g_X6_measure_22
      simp (disch := omega) only [↓q_m1, q_lit, q_le, show ¬ n ≤ i by omega, ↓reduceIte]
    rw [hst]
    refine q_one (fun f2 m (U2 : Nat → Nat → Int32) => lp (fun _ _ _ _ _ _ => none) (g_X6_measure_31 rc 940 O T) f2 (nI n) (nI i) (nI m) RW U2 VF) (fun m U2 => (∀ j, j < i → ∀ k, k < 6 → U2 j k = nI (uN wr nm j k)) ∧ ∀ k, k < m → U2 i k = nI (uN wr nm i k)) (fun r => ∃ UF', (∀ j, j < n → ∀ k, k < 6 → UF' j k = nI (uN wr nm j k)) ∧ r = g_X6_measure_100 940 O T (nI n) RW UF' VF) 6 ?_ ?_ 6 0 2000 U (by omega) (by omega) ⟨hU, fun k hk => absurd hk (Nat.not_lt_zero k)⟩
    · intro f2 m U2 _ hm ⟨hU2, hU3⟩ ih2
      simp only [q_lp]
      rw [q_m31 hn h9 hw hi hm hU2]
      refine ih2 _ ⟨fun j hj k hk => ?_, fun k hk => ?_⟩
      · rw [q_uR, if_neg (by omega)]; exact hU2 j hj k hk
      · rw [q_uR, if_pos rfl]
        by_cases hkm : k = m
        · subst hkm; rw [up_eq]
        · rw [up_ne hkm]; exact hU3 k (by omega)
    · intro f2 U2 ⟨hU2, hU3⟩
      simp only [q_lp]
      generalize lp _ (g_X6_measure_31 rc 940 O T) f2 = rc2
      unfold g_X6_measure_31 g_X6_measure_94
      simp (disch := omega) only [↓q_m1, q_lit, ↓q_bd, q_le, Nat.le_refl, ↓reduceIte, nI_add]
      refine ih U2 (fun j hj k hk => ?_)
      by_cases hji : j = i
      · subst hji; exact hU3 k hk
      · exact hU2 j (by omega) k hk
  · intro f U hU
    simp only [q_lp]
    generalize lp _ (g_X6_measure_22 940 O T) f = rc
    unfold g_X6_measure_22
    simp (disch := omega) only [↓q_m1, q_lit, q_le, Nat.le_refl, ↓reduceIte]
    exact ⟨U, hU, rfl⟩
def ixE (n k : Nat) : Int32 := if k < n then nI (n - 1 - k) else mI
theorem q_measV {RW : kD} {UF VF : Nat → Nat → Int32} {wr : Nat → Nat → Bool} (hn : nm ≤ 6) (h1 : 1 ≤ n) (h9 : n ≤ 9) (hw : WR n nm wr T O M) : ∃ VF', (∀ k, k < n → ∀ q, q < 6 → VF' (n - 1 - k) q = nI (eN wr nm n k q)) ∧ g_X6_measure_100 940 O T (nI n) RW UF VF = g_X6_measure_185 940 O T (nI n) RW UF VF' := by
  have e100 : g_X6_measure_100 940 O T (nI n) RW UF VF = lp (fun _ _ _ _ _ => none) (g_X6_measure_105 940 O T) 2000 (nI n) (ixE n 0) RW UF VF := by
    unfold g_X6_measure_100 ixE
    rw [if_pos (by omega), Nat.sub_zero]
    simp (disch := omega) only [↓q_m1, q_lit, ↓q_bd, q_sub]
  rw [e100]
  refine q_one (fun f k (V : Nat → Nat → Int32) => lp (fun _ _ _ _ _ => none) (g_X6_measure_105 940 O T) f (nI n) (ixE n k) RW UF V) (fun j V => ∀ k, k < j → ∀ q, q < 6 → V (n - 1 - k) q = nI (eN wr nm n k q)) (fun r => ∃ VF', (∀ k, k < n → ∀ q, q < 6 → VF' (n - 1 - k) q = nI (eN wr nm n k q)) ∧ r = g_X6_measure_185 940 O T (nI n) RW UF VF') n ?_ ?_ n 0 2000 VF (by omega) (by omega) (fun j hj => absurd hj (Nat.not_lt_zero j))
  · intro f j V _ hj hV ih
    simp only [q_lp]
    generalize lp _ (g_X6_measure_105 940 O T) f = rc at ih ⊢
    have ej : ixE n j = nI (n - 1 - j) := if_pos hj
    have hst : g_X6_measure_105 940 O T rc (nI n) (ixE n j) RW UF V = lp (fun _ _ _ _ _ _ => none) (g_X6_measure_113 rc 940 O T) 2000 (nI n) (nI (n - 1 - j)) (nI 0) RW UF V := by
      rw [ej]
      unfold g_X6_measure_105
      simp (disch := omega) only [↓q_m1, q_lit, q_lt, Nat.not_lt_zero, ↓reduceIte]
    have enx : nI (n - 1 - j) + mI = ixE n (j + 1) := by
      unfold ixE
      rw [show mI = -nI 1 from rfl, ← Int32.sub_eq_add_neg]
      by_cases hlast : j + 1 < n
      · rw [if_pos hlast, q_sub (by omega)]
        exact congrArg nI (by omega)
      · rw [if_neg hlast, show n - 1 - j = 0 by omega]; rfl
    rw [hst]
    refine q_one (fun f2 m (V2 : Nat → Nat → Int32) => lp (fun _ _ _ _ _ _ => none) (g_X6_measure_113 rc 940 O T) f2 (nI n) (nI (n - 1 - j)) (nI m) RW UF V2) (fun m V2 => (∀ k, k < j → ∀ q, q < 6 → V2 (n - 1 - k) q = nI (eN wr nm n k q)) ∧ ∀ q, q < m → V2 (n - 1 - j) q = nI (eN wr nm n j q)) (fun r => ∃ VF', (∀ k, k < n → ∀ q, q < 6 → VF' (n - 1 - k) q = nI (eN wr nm n k q)) ∧ r = g_X6_measure_185 940 O T (nI n) RW UF VF') 6 ?_ ?_ 6 0 2000 V (by omega) (by omega) ⟨hV, fun k hk => absurd hk (Nat.not_lt_zero k)⟩
    · intro f2 m V2 _ hm ⟨hV2, hV3⟩ ih2
      simp only [q_lp]
      rw [q_m113 hn h9 hw hj hm hV2]
      refine ih2 _ ⟨fun k hk q hq => ?_, fun q hq => ?_⟩
      · rw [q_uR, if_neg (by omega)]; exact hV2 k hk q hq
      · rw [q_uR, if_pos rfl]
        by_cases hqm : q = m
        · subst hqm; rw [up_eq]
        · rw [up_ne hqm]; exact hV3 q (by omega)
    · intro f2 V2 ⟨hV2, hV3⟩
      simp only [q_lp]
      generalize lp _ (g_X6_measure_113 rc 940 O T) f2 = rc2
      unfold g_X6_measure_113 g_X6_measure_179
      simp (disch := omega) only [↓q_m1, q_lit, ↓q_bd, q_le, Nat.le_refl, ↓reduceIte, enx]
      refine ih V2 (fun k hk q hq => ?_)
      by_cases hkj : k = j
      · subst hkj; exact hV3 q hq
      · exact hV2 k (by omega) q hq
  · intro f V hV
    simp only [q_lp]
    generalize lp _ (g_X6_measure_105 940 O T) f = rc
    have en : ixE n n = mI := if_neg (by omega)
    unfold g_X6_measure_105
    rw [en]
    simp only [↓q_m1, q_lit, q_nlt0, ↓reduceIte]
    exact ⟨V, hV, rfl⟩
end ways
