/-! machine-free: sets that loops gather; sums; what is owed; what it can write -/
theorem q_set {ρ : Type} (F : Nat → Nat → Nat → ρ) (p : Nat → Bool) (n : Nat) (fin : Nat → ρ)
    (hs : ∀ f k x, k < n → x < 2 ^ k → F (f + 1) k x = F f (k + 1) (if p k then x ||| 2 ^ k else x))
    (he : ∀ f x, F (f + 1) n x = fin x) (f : Nat) (hf : n < f) : F f 0 0 = fin (stO p n) := by
  refine q_one F (fun k x => x = stO p k) (fun r => r = fin (stO p n)) n ?_ ?_ n 0 f 0 (by omega) hf rfl
  · intro f k x _ hk hx ih
    rw [hs f k x hk (by rw [hx]; exact stO_lt p k)]
    exact ih _ (by rw [hx]; rfl)
  · intro f x hx
    rw [he, hx]
theorem q_could {nm np d lt w h B : Nat} {O S M : kD} (ho : RO nm np O (M.1 6)) (hs : RS nm np d lt w h B S (M.1 6)) {m : Nat} (hm : m < nm) :
    ∃ p : Nat → Bool, f_X9_phrasesAble (nI m) S O = some (nI (stO p np)) ∧ f_X12_couldWrite (nI m) M = some (nI (stO p np)) ∧ ∀ q, q < np → (p q = true ↔ f_X12_whyWrite (nI m) (nI q) M = some (nI 0)) := by
  have hp : np ≤ 8 := ho.1.2
  have e1 : M.1 6 1 = nI np := ho.2.1.2.1
  have e3 : O.1 0 2 = nI np := ho.2.1.2.2.2.1
  refine ⟨fun q => decide (f_X12_whyWrite (nI m) (nI q) M = some (nI 0)), ?_, ?_, fun q _ => by rw [decide_eq_true_eq]⟩
  · refine q_set (fun f k x => lp (fun _ _ _ => none) (g_X9_phrasesAble_5 S O) f (nI m) (nI x) (nI k)) _ np (fun x => some (nI x)) ?_ ?_ 2000 (by omega)
    · intro f k x hk hx
      obtain ⟨v, hv, h1, h2, -⟩ := q_why ho hs hm hk
      show g_X9_phrasesAble_5 S O (lp _ _ f) (nI m) (nI x) (nI k) = _
      unfold g_X9_phrasesAble_5 g_X9_phrasesAble_32
      simp (disch := omega) only [↓q_m1, q_lit, e3, q_le, show ¬ np ≤ k by omega, if_false, h1, h2, q_bo, q_bd, nI_add, q_eq, Option.some.injEq, decide_eq_true_eq]
      by_cases hv0 : v = 0
      · rw [if_pos hv0, if_pos hv0, q_or x (q_pow (show k ≤ 8 by omega) hx) k (by omega)]
      · rw [if_neg hv0, if_neg hv0]
    · intro f x
      show g_X9_phrasesAble_5 S O (lp _ _ f) (nI m) (nI x) (nI np) = _
      unfold g_X9_phrasesAble_5
      rw [e3, if_pos (by rw [q_le (by omega) (by omega)]; omega)]
  · refine q_set (fun f k x => lp (fun _ _ _ => none) (g_X12_couldWrite_4 M) f (nI m) (nI x) (nI k)) _ np (fun x => some (nI x)) ?_ ?_ 2000 (by omega)
    · intro f k x hk hx
      obtain ⟨v, hv, h1, h2, -⟩ := q_why ho hs hm hk
      show g_X12_couldWrite_4 M (lp _ _ f) (nI m) (nI x) (nI k) = _
      unfold g_X12_couldWrite_4 g_X12_couldWrite_31
      simp (disch := omega) only [↓q_m1, q_lit, q_cl, e1, q_le, show ¬ np ≤ k by omega, if_false, h2, q_bo, q_bd, nI_add, q_eq, Option.some.injEq, decide_eq_true_eq]
      by_cases hv0 : v = 0
      · rw [if_pos hv0, if_pos hv0, q_or x (q_pow (show k ≤ 8 by omega) hx) k (by omega)]
      · rw [if_neg hv0, if_neg hv0, q_or0 x (q_pow (show k ≤ 8 by omega) hx)]
    · intro f x
      show g_X12_couldWrite_4 M (lp _ _ f) (nI m) (nI x) (nI np) = _
      unfold g_X12_couldWrite_4
      simp (disch := omega) only [↓q_m1, q_lit, q_cl, e1, q_le, Nat.le_refl, if_true]
/-! sums -/
def smI (f : Nat → Int32) : Nat → Int32
  | 0 => nI 0
  | k + 1 => smI f k + f k
theorem q_addz (a : Int32) : a + nI 0 = a := Int32.add_zero a
theorem q_zadd (a : Int32) : nI 0 + a = a := Int32.zero_add a
theorem smI_add (f : Nat → Int32) (a b : Nat) : smI f (a + b) = smI f a + smI (fun k => f (a + k)) b := by
  induction b with
  | zero => exact (q_addz _).symm
  | succ b ih =>
    show smI f (a + b) + f (a + b) = smI f a + (smI (fun k => f (a + k)) b + f (a + b))
    rw [ih, Int32.add_assoc]
theorem smI_z (f : Nat → Int32) (n : Nat) (h : ∀ k, k < n → f k = nI 0) : smI f n = nI 0 := by
  induction n with
  | zero => rfl
  | succ n ih => show smI f n + f n = nI 0; rw [ih (fun k hk => h k (by omega)), h n (by omega), q_addz]
theorem smI_cut (f : Nat → Int32) (n N : Nat) (hn : n ≤ N) (h : ∀ k, n ≤ k → k < N → f k = nI 0) : smI f N = smI f n := by
  obtain ⟨b, rfl⟩ : ∃ b, N = n + b := ⟨N - n, by omega⟩
  rw [smI_add, smI_z (fun k => f (n + k)) b (fun k hk => h (n + k) (by omega) (by omega)), q_addz]
theorem smI_cg (f g : Nat → Int32) (n : Nat) (h : ∀ k, k < n → f k = g k) : smI f n = smI g n := by
  induction n with
  | zero => rfl
  | succ n ih => show smI f n + f n = smI g n + g n; rw [ih (fun k hk => h k (by omega)), h n (by omega)]
def smN (f : Nat → Nat) : Nat → Nat
  | 0 => 0
  | k + 1 => smN f k + f k
theorem smI_N (f : Nat → Int32) (a : Nat → Nat) (n : Nat) (h : ∀ k, k < n → f k = nI (a k)) : smI f n = nI (smN a n) := by
  induction n with
  | zero => rfl
  | succ n ih => show smI f n + f n = nI (smN a n + a n); rw [ih (fun k hk => h k (by omega)), h n (by omega), nI_add]
theorem smN_le (a : Nat → Nat) (n B : Nat) (h : ∀ k, k < n → a k ≤ B) : smN a n ≤ n * B := by
  induction n with
  | zero => exact Nat.zero_le _
  | succ n ih =>
    have h1 := ih (fun k hk => h k (by omega))
    have h2 := h n (by omega)
    show smN a n + a n ≤ (n + 1) * B
    rw [Nat.succ_mul]
    omega
/-- the class's sum of a row -/
theorem q_sum (n : Nat) (A : Nat → Int32) (hn : n < 1000) : f_X11_sumOf n A = some (smI A n) := by
  refine q_one (fun f k x => lp (fun _ _ => none) (g_X11_sumOf_4 n A) f x (nI k)) (fun k x => x = smI A k) (fun r => r = some (smI A n)) n ?_ ?_ n 0 2000 (nI 0) (by omega) (by omega) rfl
  · intro f k x _ hk hx ih
    show g_X11_sumOf_4 n A (lp _ _ f) x (nI k) = _
    generalize lp _ (g_X11_sumOf_4 n A) f = rc at ih ⊢
    unfold g_X11_sumOf_4
    simp (disch := omega) only [↓q_m1, q_lit, show (Int32.ofNat n) = nI n from rfl, q_le, show ¬ n ≤ k by omega, if_false, q_lt, Nat.not_lt_zero, false_or, q_cl, q_bd, nI_add]
    exact ih _ (by rw [hx]; rfl)
  · intro f x hx
    show g_X11_sumOf_4 n A (lp _ _ f) x (nI n) = _
    generalize lp _ (g_X11_sumOf_4 n A) f = rc
    unfold g_X11_sumOf_4
    rw [show (Int32.ofNat n) = nI n from rfl, if_pos (by rw [q_le (by omega) (by omega)]; omega), hx]
/-- the reference's -/
theorem q_sum12 {nm : Nat} {M : kD} (hn : nm ≤ 6) (h0 : M.1 6 0 = nI nm) (r : Nat) (hr : r ≤ 200) : f_X12_sumOf (nI r) M = some (smI (fun m => M.1 6 (r + m)) nm) := by
  refine q_one (fun f k x => lp (fun _ _ _ => none) (g_X12_sumOf_4 M) f (nI r) x (nI k)) (fun k x => x = smI (fun m => M.1 6 (r + m)) k) (fun q => q = some (smI (fun m => M.1 6 (r + m)) nm)) nm ?_ ?_ nm 0 2000 (nI 0) (by omega) (by omega) rfl
  · intro f k x _ hk hx ih
    show g_X12_sumOf_4 M (lp _ _ f) (nI r) x (nI k) = _
    generalize lp _ (g_X12_sumOf_4 M) f = rc at ih ⊢
    unfold g_X12_sumOf_4
    simp (disch := omega) only [↓q_m1, q_lit, q_cl, h0, q_le, show ¬ nm ≤ k by omega, if_false, q_lt, Nat.not_lt_zero, false_or, q_bd, nI_add, show ¬ 279 ≤ r + k by omega]
    exact ih (x + M.1 6 (r + k)) (by rw [hx]; rfl)
  · intro f x hx
    show g_X12_sumOf_4 M (lp _ _ f) (nI r) x (nI nm) = _
    generalize lp _ (g_X12_sumOf_4 M) f = rc
    unfold g_X12_sumOf_4
    simp (disch := omega) only [↓q_m1, q_lit, q_cl, h0, q_le, Nat.le_refl, if_true, hx]
theorem q_debt (S : kD) {m k : Nat} (hm : m < 6) (hk : k < 6) : f_X9_debtOf (nI m) (nI k) S = some (S.1 8 (m * 6 + k)) := by
  unfold f_X9_debtOf
  simp (disch := omega) only [↓q_m1, q_lit, q_lt, q_le, Nat.not_lt_zero, if_false, show ¬ 6 ≤ m by omega, hk, if_true, q_bd, pk_mul, nI_add, false_or, q_cl, show ¬ 36 ≤ m * 6 + k by omega]
theorem q_owedBy (S : kD) {m : Nat} (hm : m < 6) : f_X9_owedBy (nI m) S = some (smI (fun k => S.1 8 (m * 6 + k)) 6) := by
  refine q_one (fun f k x => lp (fun _ _ _ => none) (g_X9_owedBy_4 S) f (nI m) x (nI k)) (fun k x => x = smI (fun k => S.1 8 (m * 6 + k)) k) (fun q => q = some (smI (fun k => S.1 8 (m * 6 + k)) 6)) 6 ?_ ?_ 6 0 2000 (nI 0) (by omega) (by omega) rfl
  · intro f k x _ hk hx ih
    show g_X9_owedBy_4 S (lp _ _ f) (nI m) x (nI k) = _
    generalize lp _ (g_X9_owedBy_4 S) f = rc at ih ⊢
    unfold g_X9_owedBy_4
    simp (disch := omega) only [↓q_m1, q_lit, q_le, show ¬ 6 ≤ k by omega, if_false, q_debt S hm hk, q_bo, q_bd, nI_add]
    exact ih _ (by rw [hx]; rfl)
  · intro f x hx
    show g_X9_owedBy_4 S (lp _ _ f) (nI m) x (nI 6) = _
    generalize lp _ (g_X9_owedBy_4 S) f = rc
    unfold g_X9_owedBy_4
    simp (disch := omega) only [↓q_m1, q_lit, q_le, Nat.le_refl, if_true, hx]
theorem q_owedTo (S : kD) {m : Nat} (hm : m < 6) : f_X9_owedTo (nI m) S = some (smI (fun k => S.1 8 (k * 6 + m)) 6) := by
  refine q_one (fun f k x => lp (fun _ _ _ => none) (g_X9_owedTo_4 S) f (nI m) x (nI k)) (fun k x => x = smI (fun k => S.1 8 (k * 6 + m)) k) (fun q => q = some (smI (fun k => S.1 8 (k * 6 + m)) 6)) 6 ?_ ?_ 6 0 2000 (nI 0) (by omega) (by omega) rfl
  · intro f k x _ hk hx ih
    show g_X9_owedTo_4 S (lp _ _ f) (nI m) x (nI k) = _
    generalize lp _ (g_X9_owedTo_4 S) f = rc at ih ⊢
    unfold g_X9_owedTo_4
    simp (disch := omega) only [↓q_m1, q_lit, q_le, show ¬ 6 ≤ k by omega, if_false, q_debt S hk hm, q_bo, q_bd, nI_add]
    exact ih _ (by rw [hx]; rfl)
  · intro f x hx
    show g_X9_owedTo_4 S (lp _ _ f) (nI m) x (nI 6) = _
    generalize lp _ (g_X9_owedTo_4 S) f = rc
    unfold g_X9_owedTo_4
    simp (disch := omega) only [↓q_m1, q_lit, q_le, Nat.le_refl, if_true, hx]
theorem q_owed12 {nm : Nat} {M : kD} (hn : nm ≤ 6) (h0 : M.1 6 0 = nI nm) {m : Nat} (hm : m < 6) (b : Bool) :
    f_X12_owedBy (nI m) (q_b b) M = some (smI (fun k => M.1 6 (62 + (if b then m * 6 + k else k * 6 + m))) nm) := by
  refine q_one (fun f k x => lp (fun _ _ _ _ => none) (g_X12_owedBy_5 M) f (nI m) (q_b b) x (nI k)) (fun k x => x = smI (fun k => M.1 6 (62 + (if b then m * 6 + k else k * 6 + m))) k) (fun q => q = some (smI (fun k => M.1 6 (62 + (if b then m * 6 + k else k * 6 + m))) nm)) nm ?_ ?_ nm 0 2000 (nI 0) (by omega) (by omega) rfl
  · intro f k x _ hk hx ih
    show g_X12_owedBy_5 M (lp _ _ f) (nI m) (q_b b) x (nI k) = _
    generalize lp _ (g_X12_owedBy_5 M) f = rc at ih ⊢
    unfold g_X12_owedBy_5 g_X12_owedBy_54
    simp (disch := omega) only [↓q_m1, q_lit, q_cl, h0, q_le, show ¬ nm ≤ k by omega, if_false, q_qb, q_bd, pk_mul, nI_add, q_lt, Nat.not_lt_zero, false_or, show ¬ 279 ≤ 62 + 6 * k + m by omega, show ¬ 279 ≤ 62 + 6 * m + k by omega]
    cases b with
    | true =>
      simp only [Bool.true_eq_false, if_false]
      exact ih (x + M.1 6 (62 + 6 * m + k)) (by rw [hx]; show _ = smI _ k + M.1 6 _; simp only [if_true]; rw [show 62 + (m * 6 + k) = 62 + 6 * m + k by omega])
    | false =>
      simp only [if_true]
      exact ih (x + M.1 6 (62 + 6 * k + m)) (by rw [hx]; show _ = smI _ k + M.1 6 _; simp only [Bool.false_eq_true, if_false]; rw [show 62 + (k * 6 + m) = 62 + 6 * k + m by omega])
  · intro f x hx
    show g_X12_owedBy_5 M (lp _ _ f) (nI m) (q_b b) x (nI nm) = _
    generalize lp _ (g_X12_owedBy_5 M) f = rc
    unfold g_X12_owedBy_5
    simp (disch := omega) only [↓q_m1, q_lit, q_cl, h0, q_le, Nat.le_refl, if_true, hx]
