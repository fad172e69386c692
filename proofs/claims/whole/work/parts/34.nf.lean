/-! machine-free: what is asked of an OFFICE and of what is so -/
theorem q_owes {nm np d lt w h B : Nat} {O S M K C N : kD} (ho : RO nm np O (M.1 6)) (hs : RS nm np d lt w h B S (M.1 6)) (a b : Int32) :
    ∃ v, f_X11_owes a b K C O S N = some v ∧ f_X12_owes a b M = some (v, kI M 0 0 (nI 0)) := by
  have hn : nm ≤ 6 := ho.1.1
  have e0 : (kI M 0 0 (nI 0)).1 6 0 = nI nm := ho.2.1.1
  have e2 : O.1 0 1 = nI nm := ho.2.1.2.2.1
  unfold f_X11_owes f_X12_owes
  simp only [↓q_m1, q_lit, ↓q_bd]
  rcases q_mach hn e2 e0 a with ⟨m, hm, rfl, hm1, hm2⟩ | ⟨-, hm1, hm2⟩
  · rcases q_mach hn e2 e0 b with ⟨k, hk, rfl, hk1, hk2⟩ | ⟨-, hk1, hk2⟩
    · by_cases hmk : m = k
      · subst hmk
        simp (disch := omega) only [hm1, hm2, q_bo, q_10, ↓reduceIte]
        exact ⟨_, rfl, rfl⟩
      · have hj := hs.2.2.2.2.2 (m * 6 + k) (by omega)
        simp (disch := omega) only [hm1, hm2, hk1, hk2, q_bo, q_10, ↓reduceIte, q_eq, hmk, q_debt, pk_mul, nI_add, q_lt, Nat.not_lt_zero, false_or, q_cl, show ¬ 279 ≤ 62 + 6 * m + k by omega, q_kI, Nat.reduceEqDiff]
        refine ⟨_, rfl, ?_⟩
        rw [hj.1, show 62 + (m * 6 + k) = 62 + 6 * m + k by omega]
    · simp only [hm1, hm2, hk1, hk2, q_bo, q_10, ↓reduceIte]
      refine ⟨mI, ?_, rfl⟩
      split <;> rfl
  · simp only [hm1, hm2, q_bo, q_10, ↓reduceIte]
    refine ⟨mI, ?_, rfl⟩
    split <;> rfl
theorem smI_6 (f : Nat → Int32) (n : Nat) : smI f (n * 6) = smI (fun m => smI (fun k => f (m * 6 + k)) 6) n := by
  induction n with
  | zero => rfl
  | succ n ih =>
    rw [Nat.succ_mul, smI_add, ih]
    rfl
theorem q_now {nm np d lt w h B : Nat} {O S M K C N : kD} (ho : RO nm np O (M.1 6)) (hs : RS nm np d lt w h B S (M.1 6)) (a : Int32) :
    ∃ v, f_X11_now a K C O S N = some v ∧ f_X12_now a M = some (v, kI M 0 0 (nI 0)) := by
  have hn : nm ≤ 6 := ho.1.1
  have e0 : (kI M 0 0 (nI 0)).1 6 0 = nI nm := ho.2.1.1
  have hloop : f_X12_now a M = g_X12_now_34 a (smI (fun m => smI (fun k => M.1 6 (62 + (m * 6 + k))) nm) nm) (kI M 0 0 (nI 0)) := by
    refine q_one (fun f k x => lp (fun _ _ _ _ => none) g_X12_now_9 f a x (nI k) (kI M 0 0 (nI 0))) (fun k x => x = smI (fun m => smI (fun k => M.1 6 (62 + (m * 6 + k))) nm) k) (fun r => r = g_X12_now_34 a (smI (fun m => smI (fun k => M.1 6 (62 + (m * 6 + k))) nm) nm) (kI M 0 0 (nI 0))) nm ?_ ?_ nm 0 2000 (nI 0) (by omega) (by omega) rfl
    · intro f k x _ hk hx ih
      simp only [q_lp]
      generalize lp _ g_X12_now_9 f = rc at ih ⊢
      have h1 := q_owed12 (M := kI M 0 0 (nI 0)) hn e0 (show k < 6 by omega) true
      unfold g_X12_now_9
      simp (disch := omega) only [↓q_m1, q_lit, ↓q_bd, ↓reduceIte, q_cl, e0, q_le, show ¬ nm ≤ k by omega, show nI 1 = q_b true from rfl, h1, q_bo]
      simp only [show q_b true = nI 1 from rfl, nI_add]
      exact ih _ (by rw [hx]; rfl)
    · intro f x hx
      simp only [q_lp]
      generalize lp _ g_X12_now_9 f = rc
      unfold g_X12_now_9
      simp (disch := omega) only [↓q_m1, q_lit, ↓reduceIte, q_cl, e0, q_le, Nat.le_refl, hx]
  have htot : smI (S.1 8) 36 = smI (fun m => smI (fun k => M.1 6 (62 + (m * 6 + k))) nm) nm := by
    have hdb := hs.2.2.2.2.2
    rw [show 36 = 6 * 6 from rfl, smI_6, smI_cut _ nm 6 hn]
    · refine smI_cg _ _ _ fun m hm => ?_
      rw [smI_cut _ nm 6 hn]
      · exact smI_cg _ _ _ fun k hk => (hdb (m * 6 + k) (by omega)).1
      · intro k h1 h2
        rw [(hdb (m * 6 + k) (by omega)).1]
        exact (hdb (m * 6 + k) (by omega)).2.1 (Or.inr (by omega))
    · intro m h1 h2
      refine smI_z _ _ fun k hk => ?_
      rw [(hdb (m * 6 + k) (by omega)).1]
      exact (hdb (m * 6 + k) (by omega)).2.1 (Or.inl (by omega))
  have hrow : ∀ (r s0 : Nat), (∀ m, m < 6 → ∃ v, v ≤ B ∧ S.1 r m = nI v ∧ M.1 6 (s0 + m) = nI v ∧ (nm ≤ m → v = 0)) → smI (S.1 r) 6 = smI (fun m => M.1 6 (s0 + m)) nm := by
    intro r s0 hh
    rw [smI_cut _ nm 6 hn]
    · refine smI_cg _ _ _ fun m hm => ?_
      obtain ⟨v, -, h1, h2, -⟩ := hh m (by omega)
      rw [h1, h2]
    · intro m h1 h2
      obtain ⟨v, -, h3, -, h4⟩ := hh m h2
      rw [h3, h4 h1]
  have s4 := q_sum12 (M := kI M 0 0 (nI 0)) hn e0 50 (by omega)
  have s5 := q_sum12 (M := kI M 0 0 (nI 0)) hn e0 56 (by omega)
  have r4 := hrow 6 50 hs.2.2.2.1
  have r5 := hrow 7 56 hs.2.2.2.2.1
  obtain ⟨h0, h39, h1, h40, h2, h41, h3, h42, h4⟩ := hs.2.1
  rw [hloop]
  unfold f_X11_now g_X12_now_34
  rw [q_sum 6 _ (by omega), q_sum 6 _ (by omega), q_sum 36 _ (by omega), htot, r4, r5]
  simp (disch := omega) only [↓q_m1, q_lit, q_cl, s4, s5, q_bo, h0, h1, h2, h3, h4, q_kI, Nat.reduceEqDiff, ↓reduceIte, h39, h40, h41, h42]
  by_cases a0 : a = nI 0
  · subst a0; exact ⟨_, rfl, rfl⟩
  by_cases a1 : a = nI 1
  · simp only [a0, a1, ↓reduceIte]; exact ⟨_, rfl, rfl⟩
  by_cases a2 : a = nI 2
  · simp only [a0, a1, a2, ↓reduceIte]; exact ⟨_, rfl, rfl⟩
  by_cases a3 : a = nI 3
  · simp only [a0, a1, a2, a3, ↓reduceIte]; exact ⟨_, rfl, rfl⟩
  by_cases a4 : a = nI 4
  · simp only [a0, a1, a2, a3, a4, ↓reduceIte]; exact ⟨_, rfl, rfl⟩
  by_cases a5 : a = nI 5
  · simp only [a0, a1, a2, a3, a4, a5, ↓reduceIte]; exact ⟨_, rfl, rfl⟩
  by_cases a6 : a = nI 6
  · simp only [a0, a1, a2, a3, a4, a5, a6, ↓reduceIte]; exact ⟨_, rfl, rfl⟩
  by_cases a7 : a = nI 7
  · simp only [a0, a1, a2, a3, a4, a5, a6, a7, ↓reduceIte]; exact ⟨_, rfl, rfl⟩
  simp only [a0, a1, a2, a3, a4, a5, a6, a7, ↓reduceIte]
  exact ⟨_, rfl, rfl⟩
theorem q_ansBy {nm np : Nat} {O M : kD} (ho : RO nm np O (M.1 6)) {p : Nat} (hp0 : p < np) : f_X3_answeredBy (nI p) O = some (nI (stO (fun q => (O.1 10 q).toNatClampNeg.testBit p) np)) := by
  have hp : np ≤ 8 := ho.1.2
  have e3 : O.1 0 2 = nI np := ho.2.1.2.2.2.1
  refine q_set (fun f k x => lp (fun _ _ _ => none) (g_X3_answeredBy_4 O) f (nI p) (nI x) (nI k)) _ np (fun x => some (nI x)) ?_ ?_ 2000 (by omega)
  · intro f k x hk hx
    have h1 := (q_answer ho hp0 hk).1
    simp only [q_lp]
    generalize lp _ (g_X3_answeredBy_4 O) f = rc
    unfold g_X3_answeredBy_4 g_X3_answeredBy_27
    simp (disch := omega) only [↓q_m1, q_lit, ↓q_bd, ↓reduceIte, e3, q_le, show ¬ np ≤ k by omega, h1, q_bo, q_qb, nI_add]
    cases (O.1 10 k).toNatClampNeg.testBit p with
    | false => rfl
    | true => simp only [Bool.true_eq_false, ↓reduceIte]; rw [q_or x (q_pow (show k ≤ 8 by omega) hx) k (by omega)]
  · intro f x
    simp only [q_lp]
    generalize lp _ (g_X3_answeredBy_4 O) f = rc
    unfold g_X3_answeredBy_4
    simp (disch := omega) only [↓reduceIte, e3, q_le, Nat.le_refl]
theorem q_mKnow {nm np : Nat} {O M : kD} (ho : RO nm np O (M.1 6)) {p : Nat} (hp0 : p < np) : f_X3_machinesKnowing (nI p) O = some (nI (stO (fun m => (O.1 6 m).toNatClampNeg.testBit p) nm)) := by
  have hn : nm ≤ 6 := ho.1.1
  have e2 : O.1 0 1 = nI nm := ho.2.1.2.2.1
  refine q_set (fun f k x => lp (fun _ _ _ => none) (g_X3_machinesKnowing_4 O) f (nI p) (nI x) (nI k)) _ nm (fun x => some (nI x)) ?_ ?_ 2000 (by omega)
  · intro f k x hk hx
    have h1 := (q_knows ho hk hp0).1
    simp only [q_lp]
    generalize lp _ (g_X3_machinesKnowing_4 O) f = rc
    unfold g_X3_machinesKnowing_4 g_X3_machinesKnowing_27
    simp (disch := omega) only [↓q_m1, q_lit, ↓q_bd, ↓reduceIte, e2, q_le, show ¬ nm ≤ k by omega, h1, q_bo, q_qb, nI_add]
    cases (O.1 6 k).toNatClampNeg.testBit p with
    | false => rfl
    | true => simp only [Bool.true_eq_false, ↓reduceIte]; rw [q_or x (q_pow (show k ≤ 8 by omega) hx) k (by omega)]
  · intro f x
    simp only [q_lp]
    generalize lp _ (g_X3_machinesKnowing_4 O) f = rc
    unfold g_X3_machinesKnowing_4
    simp (disch := omega) only [↓reduceIte, e2, q_le, Nat.le_refl]
theorem q_phrase {nm np : Nat} {O S M K C N : kD} (ho : RO nm np O (M.1 6)) (a b : Int32) :
    ∃ v, f_X11_phrase a b K C O S N = some v ∧ f_X12_phrase a b M = some (v, kI M 0 0 (nI 0)) := by
  have hn : nm ≤ 6 := ho.1.1
  have hp : np ≤ 8 := ho.1.2
  have e0 : (kI M 0 0 (nI 0)).1 6 0 = nI nm := ho.2.1.1
  have e1 : (kI M 0 0 (nI 0)).1 6 1 = nI np := ho.2.1.2.1
  have e3 : O.1 0 2 = nI np := ho.2.1.2.2.2.1
  unfold f_X11_phrase f_X12_phrase
  simp only [↓q_m1, q_lit, ↓q_bd]
  rcases q_phr hp e3 e1 a with ⟨p, hp0, rfl, hp1, hp2⟩ | ⟨-, hp1, hp2⟩
  · have l1 : lp (fun _ _ _ _ _ _ => none) g_X12_phrase_23 2000 (nI p) b (nI 0) (nI 0) (nI 0) (kI M 0 0 (nI 0)) = g_X12_phrase_61 (nI p) b (nI (stO (fun q => (O.1 10 q).toNatClampNeg.testBit p) np)) (nI 0) (kI M 0 0 (nI 0)) := by
      refine q_set (fun f k x => lp (fun _ _ _ _ _ _ => none) g_X12_phrase_23 f (nI p) b (nI x) (nI 0) (nI k) (kI M 0 0 (nI 0))) _ np (fun x => g_X12_phrase_61 (nI p) b (nI x) (nI 0) (kI M 0 0 (nI 0))) ?_ ?_ 2000 (by omega)
      · intro f k x hk hx
        have h1 := (q_answer (M := kI M 0 0 (nI 0)) ho hp0 hk).2
        simp only [q_lp]
        generalize lp _ g_X12_phrase_23 f = rc
        unfold g_X12_phrase_23 g_X12_phrase_53
        simp (disch := omega) only [↓q_m1, q_lit, ↓q_bd, ↓reduceIte, e1, q_cl, q_le, show ¬ np ≤ k by omega, h1, q_bo, q_qb, nI_add]
        cases (O.1 10 k).toNatClampNeg.testBit p with
        | false => simp only [Bool.false_eq_true, ↓reduceIte]; rw [q_or0 x (q_pow (show k ≤ 8 by omega) hx)]
        | true => simp only [Bool.true_eq_false, ↓reduceIte]; rw [q_or x (q_pow (show k ≤ 8 by omega) hx) k (by omega)]
      · intro f x
        simp only [q_lp]
        generalize lp _ g_X12_phrase_23 f = rc
        unfold g_X12_phrase_23
        simp (disch := omega) only [↓q_m1, q_lit, ↓reduceIte, e1, q_cl, q_le, Nat.le_refl]
    have l2 : ∀ x3, g_X12_phrase_61 (nI p) b x3 (nI 0) (kI M 0 0 (nI 0)) = g_X12_phrase_111 (nI p) b x3 (nI (stO (fun m => (O.1 6 m).toNatClampNeg.testBit p) nm)) (kI M 0 0 (nI 0)) := by
      intro x3
      refine q_set (fun f k x => lp (fun _ _ _ _ _ _ => none) g_X12_phrase_64 f (nI p) b x3 (nI x) (nI k) (kI M 0 0 (nI 0))) _ nm (fun x => g_X12_phrase_111 (nI p) b x3 (nI x) (kI M 0 0 (nI 0))) ?_ ?_ 2000 (by omega)
      · intro f k x hk hx
        have h1 : f_X12_bitOf ((kI M 0 0 (nI 0)).1 6 (9 + k)) (nI p) = _ := (q_knows ho hk hp0).2
        simp only [q_lp]
        generalize lp _ g_X12_phrase_64 f = rc
        unfold g_X12_phrase_64 g_X12_phrase_102
        simp (disch := omega) only [↓q_m1, q_lit, ↓q_bd, ↓reduceIte, e0, q_cl, q_le, show ¬ nm ≤ k by omega, nI_add, q_lt, Nat.not_lt_zero, false_or, show ¬ 279 ≤ 9 + k by omega, h1, q_qb]
        cases (O.1 6 k).toNatClampNeg.testBit p with
        | false => simp only [Bool.false_eq_true, ↓reduceIte]; rw [q_or0 x (q_pow (show k ≤ 8 by omega) hx)]
        | true => simp only [Bool.true_eq_false, ↓reduceIte]; rw [q_or x (q_pow (show k ≤ 8 by omega) hx) k (by omega)]
      · intro f x
        simp only [q_lp]
        generalize lp _ g_X12_phrase_64 f = rc
        unfold g_X12_phrase_64
        simp (disch := omega) only [↓q_m1, q_lit, ↓reduceIte, e0, q_cl, q_le, Nat.le_refl]
    obtain ⟨c8, -, -, h81, h82⟩ := ho.2.2.2.1 p hp0
    obtain ⟨c9, -, h91, h92⟩ := ho.2.2.2.2.1 p hp0
    obtain ⟨c10, -, h101, h102⟩ := ho.2.2.2.2.2 p hp0
    rw [hp1, hp2, q_bo, l1, l2, q_ansBy ho hp0, q_mKnow ho hp0]
    unfold g_X12_phrase_111
    simp (disch := omega) only [↓q_m1, q_lit, ↓q_bd, q_10, ↓reduceIte, q_lt, Nat.not_lt_zero, false_or, q_cl, show ¬ 8 ≤ p by omega, h81, h91, h101, q_bo, nI_add, show ¬ 279 ≤ 15 + p by omega, show ¬ 279 ≤ 23 + p by omega, show ¬ 279 ≤ 31 + p by omega, q_kI, Nat.reduceEqDiff, h82, h92, h102]
    by_cases a0 : b = nI 0
    · subst a0; exact ⟨_, rfl, rfl⟩
    by_cases a1 : b = nI 1
    · simp only [a0, a1, ↓reduceIte]; exact ⟨_, rfl, rfl⟩
    by_cases a2 : b = nI 2
    · simp only [a0, a1, a2, ↓reduceIte]; exact ⟨_, rfl, rfl⟩
    by_cases a3 : b = nI 3
    · simp only [a0, a1, a2, a3, ↓reduceIte]; exact ⟨_, rfl, rfl⟩
    by_cases a4 : b = nI 4
    · simp only [a0, a1, a2, a3, a4, ↓reduceIte]; exact ⟨_, rfl, rfl⟩
    simp only [a0, a1, a2, a3, a4, ↓reduceIte]
    exact ⟨_, rfl, rfl⟩
  · rw [hp1, hp2, q_bo]
    simp only [↓reduceIte]
    exact ⟨_, rfl, rfl⟩
