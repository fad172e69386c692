/-! machine-free: TOKENS, both readers side by side: spaces, runs -/
def tN (T : Nat → Int32) (i : Nat) : Nat := (T i).toNatClampNeg
def okT (T : Nat → Int32) : Prop := ∀ i, i < 940 → T i = nI (tN T i) ∧ tN T i < 256
theorem okT_of {n : Nat} {T : Nat → Int32} {M : kD} (h : RZ n T M) : okT T := by
  intro i hi
  obtain ⟨t, h1, h2, h3⟩ := h.2.2 i hi
  have : tN T i = t := by unfold tN; rw [h2]; exact q_cl (by omega)
  rw [this]
  exact ⟨h2, h1⟩
def isWs (t : Nat) : Prop := t = 32 ∨ t = 10
def isLt (t : Nat) : Prop := 97 ≤ t ∧ t ≤ 122
def isDg (t : Nat) : Prop := 48 ≤ t ∧ t ≤ 57
theorem q_peek {n : Nat} {T : Nat → Int32} {M : kD} (hz : RZ n T M) {p : Nat} (hp : M.1 0 4 = nI p) (hpn : p ≤ n) : f_X12_peek M = some (if p < n then nI (tN T p) else mI) := by
  have h3 : M.1 0 3 = nI n := hz.2.1
  have hn := hz.1
  unfold f_X12_peek
  by_cases h : p < n
  · obtain ⟨t, h1, h2, h4⟩ := hz.2.2 p (by omega)
    have ht : tN T p = t := by unfold tN; rw [h2]; exact q_cl (by omega)
    simp (disch := omega) only [↓q_m1, q_lit, ↓q_bd, ↓reduceIte, h3, hp, q_le, show ¬ n ≤ p by omega, q_lt, Nat.not_lt_zero, false_or, q_cl, show ¬ 940 ≤ p by omega, h4, ht, h]
  · simp (disch := omega) only [↓q_m1, q_lit, ↓reduceIte, h3, hp, q_le, show n ≤ p by omega, h]
theorem q_small (t : Nat) (ht : t < 256) : (f_X12_isSmall (nI t) = nI 1 ∧ isLt t) ∨ (f_X12_isSmall (nI t) = nI 0 ∧ ¬ isLt t) := by
  unfold f_X12_isSmall isLt
  simp (disch := omega) only [↓q_m1, q_lit, q_lt]
  by_cases h1 : t < 97
  · rw [if_pos h1]; exact Or.inr ⟨rfl, by omega⟩
  · rw [if_neg h1]
    by_cases h2 : 122 < t
    · rw [if_pos h2]; exact Or.inr ⟨rfl, by omega⟩
    · rw [if_neg h2]; exact Or.inl ⟨rfl, by omega⟩
theorem q_digit (t : Nat) (ht : t < 256) : (f_X12_isDigit (nI t) = nI 1 ∧ isDg t) ∨ (f_X12_isDigit (nI t) = nI 0 ∧ ¬ isDg t) := by
  unfold f_X12_isDigit isDg
  simp (disch := omega) only [↓q_m1, q_lit, q_lt]
  by_cases h1 : t < 48
  · rw [if_pos h1]; exact Or.inr ⟨rfl, by omega⟩
  · rw [if_neg h1]
    by_cases h2 : 57 < t
    · rw [if_pos h2]; exact Or.inr ⟨rfl, by omega⟩
    · rw [if_neg h2]; exact Or.inl ⟨rfl, by omega⟩
theorem q_smallm : f_X12_isSmall mI = nI 0 ∧ f_X12_isDigit mI = nI 0 := by
  constructor
  · unfold f_X12_isSmall; rw [if_pos (by decide)]; rfl
  · unfold f_X12_isDigit; rw [if_pos (by decide)]; rfl
/-- where the spaces end -/
theorem ws_end (T : Nat → Int32) (n p : Nat) (hp : p ≤ n) : ∃ q, p ≤ q ∧ q ≤ n ∧ (∀ i, p ≤ i → i < q → isWs (tN T i)) ∧ (q = n ∨ ¬ isWs (tN T q)) := by
  obtain ⟨q, ⟨h1, h2⟩, h3⟩ := pk_least (fun i => p ≤ i ∧ (n ≤ i ∨ ¬ isWs (tN T i))) ⟨n, hp, Or.inl (Nat.le_refl n)⟩
  have hq : q ≤ n := by
    by_cases h : q ≤ n
    · exact h
    · exact absurd ⟨hp, Or.inl (Nat.le_refl n)⟩ (h3 n (by omega))
  refine ⟨q, h1, hq, fun i hi hiq => ?_, ?_⟩
  · refine Classical.byContradiction fun h => h3 i hiq ⟨hi, Or.inr h⟩
  · rcases h2 with h2 | h2
    · exact Or.inl (by omega)
    · exact Or.inr h2
/-- where a run of letters and digits ends -/
theorem run_end (T : Nat → Int32) (n p : Nat) (hp : p ≤ n) : ∃ q, p ≤ q ∧ q ≤ n ∧ (∀ i, p ≤ i → i < q → isLt (tN T i) ∨ isDg (tN T i)) ∧ (q = n ∨ ¬ (isLt (tN T q) ∨ isDg (tN T q))) := by
  obtain ⟨q, ⟨h1, h2⟩, h3⟩ := pk_least (fun i => p ≤ i ∧ (n ≤ i ∨ ¬ (isLt (tN T i) ∨ isDg (tN T i)))) ⟨n, hp, Or.inl (Nat.le_refl n)⟩
  have hq : q ≤ n := by
    by_cases h : q ≤ n
    · exact h
    · exact absurd ⟨hp, Or.inl (Nat.le_refl n)⟩ (h3 n (by omega))
  refine ⟨q, h1, hq, fun i hi hiq => ?_, ?_⟩
  · refine Classical.byContradiction fun h => h3 i hiq ⟨hi, Or.inr h⟩
  · rcases h2 with h2 | h2
    · exact Or.inl (by omega)
    · exact Or.inr h2
theorem q_wsM {n : Nat} {T : Nat → Int32} {M : kD} (hz : RZ n T M) {p q : Nat} (hpq : p ≤ q) (hqn : q ≤ n) (hw : ∀ i, p ≤ i → i < q → isWs (tN T i)) (he : q = n ∨ ¬ isWs (tN T q)) (hp : M.1 0 4 = nI p) :
    f_X12_next M = g_X12_next_31 (kI M 0 4 (nI q)) := by
  have hT := okT_of hz
  have hn := hz.1
  have eM : kI M 0 4 (nI p) = M := by
    refine kD_ext (fun z => ?_) rfl
    rw [q_kI]
    by_cases h : z = 0
    · subst h; rw [if_pos rfl]; funext j; rw [q_up]; split
      · next h9 => rw [h9]; exact hp.symm
      · rfl
    · rw [if_neg h]
  have hh := q_one (fun f i (_ : Unit) => lp (fun _ => none) g_X12_next_0 f (kI M 0 4 (nI i))) (fun i _ => p ≤ i) (fun r => r = g_X12_next_31 (kI M 0 4 (nI q))) q ?_ ?_ (q - p) p 2000 () (by omega) (by omega) (Nat.le_refl p)
  · rw [eM] at hh; exact hh
  · intro f i _ _ hi hpi ih
    have hz2 : RZ n T (kI M 0 4 (nI i)) := hz
    have hpk := q_peek hz2 (p := i) rfl (by omega)
    rw [if_pos (show i < n by omega)] at hpk
    have htl := (hT i (by omega)).2
    simp only [q_lp]
    generalize lp _ g_X12_next_0 f = rc at ih ⊢
    have h18 : g_X12_next_18 rc (kI M 0 4 (nI i)) = rc (kI M 0 4 (nI (i + 1))) := by
      unfold g_X12_next_18
      simp only [↓q_m1, q_lit, ↓q_bd, show (kI M 0 4 (nI i)).1 0 4 = nI i from rfl, nI_add, q_II]
    unfold g_X12_next_0
    simp only [↓q_m1, q_lit, hpk, q_bo, h18]
    have hw2 := hw i hpi hi
    rcases hw2 with h | h
    · rw [h, if_pos rfl]
      exact ih () (by omega)
    · rw [h]
      simp (disch := omega) only [q_eq, Nat.reduceEqDiff, ↓reduceIte]
      exact ih () (by omega)
  · intro f _ hpi
    have hz2 : RZ n T (kI M 0 4 (nI q)) := hz
    have hpk := q_peek hz2 (p := q) rfl (by omega)
    simp only [q_lp]
    generalize lp _ g_X12_next_0 f = rc
    unfold g_X12_next_0
    by_cases hq : q < n
    · rw [if_pos hq] at hpk
      have htl := (hT q (by omega)).2
      have hnw : ¬ isWs (tN T q) := by
        rcases he with h | h
        · omega
        · exact h
      unfold isWs at hnw
      simp (disch := omega) only [↓q_m1, q_lit, hpk, q_bo, q_eq, show ¬ tN T q = 32 by omega, show ¬ tN T q = 10 by omega, ↓reduceIte]
    · rw [if_neg hq] at hpk
      simp (disch := omega) only [↓q_m1, q_lit, hpk, q_bo, q_neg', ↓reduceIte]
theorem q_wsC {T : Nat → Int32} (hT : okT T) {R : kD} (h0 : R.1 0 0 = nI 1) {b p e : Nat} (hpe : p ≤ e) (hb : b ≤ 940) (hw : ∀ i, p ≤ i → i < e → i < b ∧ isWs (tN T i)) (he : b ≤ e ∨ (e < b ∧ ¬ isWs (tN T e))) (he9 : e ≤ 940) :
    lp (fun _ _ => none) (g_X4_advance_12 940 T) 2000 (nI b) (kI R 0 3 (nI p)) = g_X4_advance_61 940 T (nI b) (kI R 0 3 (nI e)) := by
  refine q_one (fun f i (_ : Unit) => lp (fun _ _ => none) (g_X4_advance_12 940 T) f (nI b) (kI R 0 3 (nI i))) (fun i _ => p ≤ i) (fun r => r = g_X4_advance_61 940 T (nI b) (kI R 0 3 (nI e))) e ?_ ?_ (e - p) p 2000 () (by omega) (by omega) (Nat.le_refl p)
  · intro f i _ _ hi hpi ih
    obtain ⟨hib, hwi⟩ := hw i hpi hi
    obtain ⟨t1, t2⟩ := hT i (by omega)
    have h00 : (kI R 0 3 (nI i)).1 0 0 = nI 1 := h0
    have h03 : (kI R 0 3 (nI i)).1 0 3 = nI i := rfl
    simp only [q_lp]
    generalize lp _ (g_X4_advance_12 940 T) f = rc at ih ⊢
    have h48 : g_X4_advance_48 rc 940 T (nI b) (kI R 0 3 (nI i)) = rc (nI b) (kI R 0 3 (nI (i + 1))) := by
      unfold g_X4_advance_48
      simp only [↓q_m1, q_lit, ↓q_bd, h03, nI_add, q_II]
    unfold g_X4_advance_12
    simp (disch := omega) only [↓q_m1, q_lit, ↓q_bd, h03, q_le, show ¬ b ≤ i by omega, ↓reduceIte, h00, not_true_eq_false, q_lt, Nat.not_lt_zero, false_or, q_cl, show ¬ 940 ≤ i by omega, t1, q_eq, h48]
    rcases hwi with h | h
    · rw [if_pos h]; exact ih () (by omega)
    · rw [if_neg (by omega), if_pos h]; exact ih () (by omega)
  · intro f _ hpi
    have h00 : (kI R 0 3 (nI e)).1 0 0 = nI 1 := h0
    have h03 : (kI R 0 3 (nI e)).1 0 3 = nI e := rfl
    simp only [q_lp]
    generalize lp _ (g_X4_advance_12 940 T) f = rc
    unfold g_X4_advance_12
    rcases he with h | ⟨h, hnw⟩
    · simp (disch := omega) only [↓q_m1, q_lit, h03, q_le, h, ↓reduceIte]
    · obtain ⟨t1, t2⟩ := hT e (by omega)
      unfold isWs at hnw
      simp (disch := omega) only [↓q_m1, q_lit, ↓q_bd, h03, q_le, show ¬ b ≤ e by omega, ↓reduceIte, h00, not_true_eq_false, q_lt, Nat.not_lt_zero, false_or, q_cl, show ¬ 940 ≤ e by omega, t1, q_eq, show ¬ tN T e = 32 by omega, show ¬ tN T e = 10 by omega]
/-! the bytes of a run -/
def sub (T : Nat → Int32) (q k : Nat) : List Nat := (List.range k).map (fun i => tN T (q + i))
theorem sub_s (T : Nat → Int32) (q k : Nat) : sub T q (k + 1) = sub T q k ++ [tN T (q + k)] := by
  unfold sub
  rw [List.range_succ, List.map_append]
  rfl
theorem sub_len (T : Nat → Int32) (q k : Nat) : (sub T q k).length = k := by
  unfold sub
  rw [List.length_map, List.length_range]
def numR (l : List Nat) : Nat := l.foldl (fun a c => a * 10 + (c - 48)) 0
theorem numR_add (l : List Nat) (c : Nat) : numR (l ++ [c]) = numR l * 10 + (c - 48) := by
  unfold numR
  rw [List.foldl_append]
  rfl
theorem sub_mem {T : Nat → Int32} {q k c : Nat} (h : c ∈ sub T q k) : ∃ i, i < k ∧ c = tN T (q + i) := by
  unfold sub at h
  obtain ⟨i, h1, h2⟩ := List.mem_map.mp h
  exact ⟨i, List.mem_range.mp h1, h2.symm⟩
theorem numR_lt (T : Nat → Int32) (q k : Nat) (h : ∀ i, i < k → isDg (tN T (q + i))) : numR (sub T q k) < 10 ^ k := by
  induction k with
  | zero => exact Nat.one_pos
  | succ k ih =>
    have h1 := ih (fun i hi => h i (by omega))
    have h2 := h k (by omega)
    unfold isDg at h2
    rw [sub_s, numR_add, Nat.pow_succ]
    omega
