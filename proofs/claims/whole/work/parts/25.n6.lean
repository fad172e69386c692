/-! machine-free: a day -/
theorem q_inC {np m : Nat} {S O : kD} {rc : Int32 → kD → Option (Int32 × kD)} {x2 : Int32} (e3 : O.1 0 2 = nI np) (hp : np ≤ 8) (v : Nat → Nat) (hv : ∀ q, q < np → v q ≤ 5 ∧ f_X9_whyNotWrite (nI m) (nI q) S O = some (nI (v q))) :
    ((∀ q, q < np → v q ≠ 0) → lp (fun _ _ _ _ => none) (g_X9_writeByTurn_25 rc O) 2000 x2 (nI m) (nI 0) S = g_X9_writeByTurn_61 rc O x2 S) ∧
    (∀ q0, q0 < np → v q0 = 0 → (∀ j, j < q0 → v j ≠ 0) → lp (fun _ _ _ _ => none) (g_X9_writeByTurn_25 rc O) 2000 x2 (nI m) (nI 0) S = g_X9_writeByTurn_45 O (nI m) (nI q0) S) := by
  refine ⟨fun h => ?_, fun q0 hq0 h0 hj => ?_⟩
  · refine q_one (fun f k (_ : Unit) => lp (fun _ _ _ _ => none) (g_X9_writeByTurn_25 rc O) f x2 (nI m) (nI k) S) (fun _ _ => True) (fun r => r = g_X9_writeByTurn_61 rc O x2 S) np ?_ ?_ np 0 2000 () (by omega) (by omega) trivial
    · intro f k x _ hk hx ih
      have hvk := hv k hk
      show g_X9_writeByTurn_25 rc O (lp _ _ f) x2 (nI m) (nI k) S = _
      generalize lp _ (g_X9_writeByTurn_25 rc O) f = rc at ih ⊢
      unfold g_X9_writeByTurn_25
      simp (disch := omega) only [↓q_m1, q_lit, e3, q_le, show ¬ np ≤ k by omega, if_false, hvk.2, q_bo, q_eq, h k hk, q_bd, nI_add]
      exact ih () trivial
    · intro f x hx
      show g_X9_writeByTurn_25 rc O (lp _ _ f) x2 (nI m) (nI np) S = _
      generalize lp _ (g_X9_writeByTurn_25 rc O) f = rc
      unfold g_X9_writeByTurn_25
      simp (disch := omega) only [e3, q_le, Nat.le_refl, if_true]
  · refine q_one (fun f k (_ : Unit) => lp (fun _ _ _ _ => none) (g_X9_writeByTurn_25 rc O) f x2 (nI m) (nI k) S) (fun _ _ => True) (fun r => r = g_X9_writeByTurn_45 O (nI m) (nI q0) S) q0 ?_ ?_ q0 0 2000 () (by omega) (by omega) trivial
    · intro f k x _ hk hx ih
      have hvk := hv k (by omega)
      show g_X9_writeByTurn_25 rc O (lp _ _ f) x2 (nI m) (nI k) S = _
      generalize lp _ (g_X9_writeByTurn_25 rc O) f = rc at ih ⊢
      unfold g_X9_writeByTurn_25
      simp (disch := omega) only [↓q_m1, q_lit, e3, q_le, show ¬ np ≤ k by omega, if_false, hvk.2, q_bo, q_eq, hj k hk, q_bd, nI_add]
      exact ih () trivial
    · intro f x hx
      have hvk := hv q0 hq0
      show g_X9_writeByTurn_25 rc O (lp _ _ f) x2 (nI m) (nI q0) S = _
      unfold g_X9_writeByTurn_25
      simp (disch := omega) only [↓q_m1, q_lit, e3, q_le, show ¬ np ≤ q0 by omega, if_false, hvk.2, q_bo, q_eq, h0, if_true]
theorem q_inM {M : kD} {rc : Int32 → Int32 → Int32 → kD → Option (Int32 × kD)} {x2 x3 x4 : Int32} {x q0 : Nat} (hx : x < 256) (hq : q0 < 8) (h0 : x.testBit q0 = true) (hj : ∀ j, j < q0 → x.testBit j = false) :
    lp (fun _ _ _ _ _ _ => none) (g_X12_day_57 rc) 2000 x2 x3 x4 (nI x) (nI 0) M = g_X12_day_73 rc x2 x3 x4 (nI q0) M := by
  refine q_one (fun f k (_ : Unit) => lp (fun _ _ _ _ _ _ => none) (g_X12_day_57 rc) f x2 x3 x4 (nI x) (nI k) M) (fun _ _ => True) (fun r => r = g_X12_day_73 rc x2 x3 x4 (nI q0) M) q0 ?_ ?_ q0 0 2000 () (by omega) (by omega) trivial
  · intro f k _ _ hk _ ih
    show g_X12_day_57 rc (lp _ _ f) x2 x3 x4 (nI x) (nI k) M = _
    generalize lp _ (g_X12_day_57 rc) f = rc at ih ⊢
    unfold g_X12_day_57
    simp only [↓q_m1, q_lit, (q_bit x hx k (by omega)).2, q_qb, hj k hk, if_true, q_bd, nI_add]
    exact ih () trivial
  · intro f _ _
    show g_X12_day_57 rc (lp _ _ f) x2 x3 x4 (nI x) (nI q0) M = _
    generalize lp _ (g_X12_day_57 rc) f = rc
    unfold g_X12_day_57
    simp only [↓q_m1, q_lit, (q_bit x hx q0 hq).2, q_qb, h0, Bool.true_eq_false, if_false]
theorem q_wi (w k : Nat) : nI w - nI 1 + nI (k + 1) = nI (w + k) := by
  rw [← nI_add k 1, Int32.add_comm (nI k), ← Int32.add_assoc, Int32.sub_add_cancel, nI_add]
theorem q_89 {M : kD} {s1 : Nat → Int32} {d : Nat} (h : s1 39 = nI d) : g_X12_day_89 (nI 1) (kSI M 6 s1) = some (nI 1, kSI M 6 (upd s1 39 (nI (d + 1)))) := by
  unfold g_X12_day_89
  simp (disch := omega) only [↓q_m1, q_lit, q_cl, q_kSI, if_true, h, nI_add, q_bd, q_10, if_false, q_SI]
theorem q_turn {nm np d lt w h B : Nat} {O S M : kD} (ho : RO nm np O (M.1 6)) (hs : RS nm np d lt w h B S (M.1 6)) (hB : B ≤ 1000000000) :
    (∃ m q S1 s1, m < nm ∧ q < np ∧ f_X9_writeByTurn S O = some (nI 1, S1) ∧ f_X12_day M = some (nI 1, kSI M 6 (upd s1 39 (nI (d + 1)))) ∧ RS nm np d (q + 1) (m + 1) h (B + 40) S1 s1 ∧ (∀ k, k < 39 → s1 k = M.1 6 k) ∧ (∀ k, 98 ≤ k → s1 k = M.1 6 k)) ∨
    (f_X9_writeByTurn S O = some (nI 0, S) ∧ f_X12_day M = g_X12_day_89 (nI 0) M) := by
  have hn : nm ≤ 6 := ho.1.1
  have hp8 : np ≤ 8 := ho.1.2
  have e0 : M.1 6 0 = nI nm := ho.2.1.1
  have e2 : O.1 0 1 = nI nm := ho.2.1.2.2.1
  have e3 : O.1 0 2 = nI np := ho.2.1.2.2.2.1
  have h2 : S.1 0 2 = nI w - nI 1 := hs.2.1.2.2.2.2.1
  have h41 : M.1 6 41 = nI w := hs.2.1.2.2.2.2.2.1
  have hw : w ≤ nm := hs.1.2.2.1
  have hh := q_two (fun f k (_ : Unit) => lp (fun _ _ => none) (g_X9_writeByTurn_2 O) f (nI (k + 1)) S) (fun g k (_ : Unit) => lp (fun _ _ _ _ => none) (g_X12_day_12) g (nI 0) (nI w) (nI k) M) (fun _ _ _ => True)
    (fun r1 r2 => (∃ m q S1 s1, m < nm ∧ q < np ∧ r1 = some (nI 1, S1) ∧ r2 = some (nI 1, kSI M 6 (upd s1 39 (nI (d + 1)))) ∧ RS nm np d (q + 1) (m + 1) h (B + 40) S1 s1 ∧ (∀ k, k < 39 → s1 k = M.1 6 k) ∧ (∀ k, 98 ≤ k → s1 k = M.1 6 k)) ∨ (r1 = some (nI 0, S) ∧ r2 = g_X12_day_89 (nI 0) M)) nm ?_ ?_ nm 0 2000 2000 () () (by omega) (by omega) (by omega) trivial
  · have hday : f_X12_day M = lp (fun _ _ _ _ => none) (g_X12_day_12) 2000 (nI 0) (nI w) (nI 0) M := by
      unfold f_X12_day
      simp (disch := omega) only [↓q_m1, q_lit, q_cl, h41, q_bd]
    rw [hday]
    exact hh
  · intro f g k x y hf hg hk _ ih
    have hm : (w + k) % nm < nm := Nat.mod_lt _ (by omega)
    obtain ⟨p, hp1, hp2, hp3⟩ := q_could ho hs hm
    have hv0 : ∀ q, ∃ v, q < np → v ≤ 5 ∧ f_X9_whyNotWrite (nI ((w + k) % nm)) (nI q) S O = some (nI v) ∧ f_X12_whyWrite (nI ((w + k) % nm)) (nI q) M = some (nI v) ∧ (v = 0 → ∃ c i, c ≤ i ∧ i ≤ 999 ∧ M.1 6 (15 + q) = nI c ∧ M.1 6 (44 + (w + k) % nm) = nI i ∧ w ≠ (w + k) % nm + 1) := by
      intro q
      by_cases hq : q < np
      · obtain ⟨v, h9⟩ := q_why ho hs hm hq
        exact ⟨v, fun _ => h9⟩
      · exact ⟨0, fun h9 => absurd h9 hq⟩
    obtain ⟨v, hv⟩ := Classical.axiomOfChoice hv0
    have hpv : ∀ q, q < np → (p q = true ↔ v q = 0) := by
      intro q hq
      rw [hp3 q hq, (hv q hq).2.2.1, Option.some.injEq, q_eq (by have := (hv q hq).1; omega) (by omega)]
    have hin := q_inC (m := (w + k) % nm) (S := S) (rc := lp (fun _ _ => none) (g_X9_writeByTurn_2 O) f) (x2 := nI (k + 1)) e3 hp8 v (fun q hq => ⟨(hv q hq).1, (hv q hq).2.1⟩)
    have hC : g_X9_writeByTurn_2 O (lp (fun _ _ => none) (g_X9_writeByTurn_2 O) f) (nI (k + 1)) S = lp (fun _ _ _ _ => none) (g_X9_writeByTurn_25 (lp (fun _ _ => none) (g_X9_writeByTurn_2 O) f) O) 2000 (nI (k + 1)) (nI ((w + k) % nm)) (nI 0) S := by
      unfold g_X9_writeByTurn_2
      simp (disch := omega) only [↓q_m1, q_lit, e2, q_lt, show ¬ nm < k + 1 by omega, if_false, q_eq, show ¬ nm = 0 by omega, h2, q_wi, q_rem, q_bd]
    have hM : g_X12_day_12 (lp (fun _ _ _ _ => none) (g_X12_day_12) g) (nI 0) (nI w) (nI k) M = if stO p np = 0 then lp (fun _ _ _ _ => none) (g_X12_day_12) g (nI 0) (nI w) (nI (k + 1)) M else lp (fun _ _ _ _ _ _ => none) (g_X12_day_57 (lp (fun _ _ _ _ => none) (g_X12_day_12) g)) 2000 (nI w) (nI k) (nI ((w + k) % nm)) (nI (stO p np)) (nI 0) M := by
      have hst := q_pow hp8 (stO_lt p np)
      unfold g_X12_day_12
      simp (disch := omega) only [↓q_m1, q_lit, q_cl, e0, q_le, show ¬ nm ≤ k by omega, if_false, if_true, q_eq, show ¬ nm = 0 by omega, nI_add, q_rem, q_bd, hp2, q_bo]
      unfold g_X12_day_83
      simp (disch := omega) only [↓q_m1, q_lit, nI_add, q_bd]
    show _ ∨ _
    simp only [q_lp]
    rw [hC, hM]
    by_cases hall : ∀ q, q < np → v q ≠ 0
    · have hst0 : stO p np = 0 := by
        refine Nat.eq_of_testBit_eq fun i => ?_
        rw [stO_bit, Nat.zero_testBit]
        by_cases hi : i < np
        · have : p i = false := by
            cases hpi : p i with
            | false => rfl
            | true => exact absurd ((hpv i hi).mp hpi) (hall i hi)
          rw [this, Bool.and_false]
        · rw [decide_eq_false hi, Bool.false_and]
      rw [if_pos hst0, hin.1 hall]
      unfold g_X9_writeByTurn_61
      simp only [↓q_m1, q_lit, nI_add, q_bd]
      exact ih () () trivial
    · have hex : ∃ q, q < np ∧ v q = 0 := by
        refine Classical.byContradiction fun h9 => hall fun q hq hv9 => h9 ⟨q, hq, hv9⟩
      obtain ⟨q0, ⟨hq0, hvq⟩, hleast⟩ := pk_least (fun q => q < np ∧ v q = 0) hex
      have hlj : ∀ j, j < q0 → v j ≠ 0 := fun j hj e => hleast j hj ⟨by omega, e⟩
      have hbit : ∀ j, j < np → (stO p np).testBit j = p j := fun j hj => by rw [stO_bit, decide_eq_true hj, Bool.true_and]
      have hb0 : (stO p np).testBit q0 = true := by rw [hbit q0 hq0]; exact (hpv q0 hq0).mpr hvq
      have hst0 : stO p np ≠ 0 := fun e => by rw [e, Nat.zero_testBit] at hb0; cases hb0
      have hbj : ∀ j, j < q0 → (stO p np).testBit j = false := fun j hj => by
        rw [hbit j (by omega)]
        cases hpj : p j with
        | false => rfl
        | true => exact absurd ((hpv j (by omega)).mp hpj) (hlj j hj)
      rw [if_neg hst0, hin.2 q0 hq0 hvq hlj, q_inM (q_pow hp8 (stO_lt p np)) (by omega) hb0 hbj]
      obtain ⟨c, i, h91, h92, h93, h94, -⟩ := (hv q0 hq0).2.2.2 hvq
      obtain ⟨S1, s1, ht1, ht2, ht3, ht4, ht5⟩ := q_types ho hs hm hq0 hB ⟨c, i, h91, h92, h93, h94⟩
      refine Or.inl ⟨(w + k) % nm, q0, S1, s1, hm, hq0, ?_, ?_, ht3, ht4, ht5⟩
      · unfold g_X9_writeByTurn_45
        rw [ht1]
        rfl
      · unfold g_X12_day_73 g_X12_day_83
        rw [ht2]
        simp only [↓q_m1, q_lit, nI_add, q_bo, q_bd]
        obtain ⟨g, rfl⟩ : ∃ q, g = q + 1 := ⟨g - 1, by omega⟩
        rw [q_lp]
        have h89 := q_89 (M := M) ht3.2.1.2.1
        unfold g_X12_day_12
        simp only [↓q_m1, q_lit, q_10, if_false]
        split <;> exact h89
  · intro f g x y _
    refine Or.inr (And.intro ?_ ?_)
    · show g_X9_writeByTurn_2 O (lp _ _ f) (nI (nm + 1)) S = _
      unfold g_X9_writeByTurn_2
      simp (disch := omega) only [↓q_m1, q_lit, e2, q_lt, show nm < nm + 1 by omega, if_true]
    · show g_X12_day_12 (lp _ _ g) (nI 0) (nI w) (nI nm) M = _
      unfold g_X12_day_12
      simp (disch := omega) only [↓q_m1, q_lit, q_cl, e0, q_le, Nat.le_refl, if_true]
theorem q_day {nm np d lt w h B : Nat} {O S M : kD} (ho : RO nm np O (M.1 6)) (hs : RS nm np d lt w h B S (M.1 6)) (hB : B ≤ 1000000000) (hd9 : d ≤ 900) :
    ∃ b S' s' lt' w', f_X9_passDay S O = some (q_b b, S') ∧ f_X12_day M = some (q_b b, kSI M 6 s') ∧ RS nm np (d + 1) lt' w' h (B + 40) S' s' ∧ (∀ k, k < 39 → s' k = M.1 6 k) ∧ (∀ k, 98 ≤ k → s' k = M.1 6 k) := by
  unfold f_X9_passDay
  rcases q_turn ho hs hB with ⟨m, q, S1, s1, hm, hq, e1, e2, hr, hf1, hf2⟩ | ⟨e1, e2⟩
  · rw [e1, e2, q_bo2]
    simp only [↓q_m1, q_lit, q_10, if_false]
    unfold g_X9_passDay_38
    simp only [↓q_m1, q_lit, q_bd, hr.2.1.1, nI_add, q_10, false_or, not_true_eq_false, if_false]
    refine ⟨true, _, _, q + 1, m + 1, rfl, rfl, ?_, fun k hk => ?_, fun k hk => ?_⟩
    · obtain ⟨⟨h1, h2, h3, h4, h5⟩, ⟨h0, h39, h1', h40, h2', h41, h3', h42, h4'⟩, hink, hwr, hle, hdb⟩ := hr
      refine ⟨⟨by omega, h2, h3, h4, h5⟩, ⟨rfl, rfl, h1', h40, h2', h41, h3', h42, h4'⟩, fun m hm => ?_, fun m hm => ?_, fun m hm => ?_, fun i hi => ?_⟩
      · simp (disch := omega) only [pk_un]; exact hink m hm
      · simp (disch := omega) only [pk_un]; exact hwr m hm
      · simp (disch := omega) only [pk_un]; exact hle m hm
      · simp (disch := omega) only [pk_un]; exact hdb i hi
    · simp (disch := omega) only [pk_un]; exact hf1 k hk
    · simp (disch := omega) only [pk_un]; exact hf2 k hk
  · rw [e1, e2, q_bo2]
    have hn : nm ≤ 6 := ho.1.1
    have hp8 : np ≤ 8 := ho.1.2
    obtain ⟨⟨h1, h2, h3, h4, h5⟩, ⟨h0, h39, h1', h40, h2', h41, h3', h42, h4'⟩, hink, hwr, hle, hdb⟩ := hs
    have hfin : ∀ (X : Nat → Int32) (x : Int32), X 0 = nI (d + 1) → X 1 = mI → X 2 = mI → X 3 = S.1 0 3 → X 4 = x → RS nm np (d + 1) 0 0 h (B + 40) (kSI S 0 X) (upd (upd (upd (upd (M.1 6) 39 (nI (d + 1))) 43 x) 40 (nI 0)) 41 (nI 0)) := by
      intro X x hX0 hX1 hX2 hX3 hX4
      refine ⟨⟨by omega, by omega, by omega, by omega, h5⟩, ⟨hX0, rfl, hX1, rfl, hX2, rfl, by rw [← h3', ← hX3]; rfl, h42, hX4⟩, fun m hm => ?_, fun m hm => ?_, fun m hm => ?_, fun i hi => ?_⟩
      · simp (disch := omega) only [pk_un, q_kSI, ↓reduceIte, Nat.reduceEqDiff]; exact hink m hm
      · simp (disch := omega) only [pk_un, q_kSI, ↓reduceIte, Nat.reduceEqDiff]
        obtain ⟨v, h91, h92⟩ := hwr m hm; exact ⟨v, by omega, h92⟩
      · simp (disch := omega) only [pk_un, q_kSI, ↓reduceIte, Nat.reduceEqDiff]
        obtain ⟨v, h91, h92⟩ := hle m hm; exact ⟨v, by omega, h92⟩
      · simp (disch := omega) only [pk_un, q_kSI, ↓reduceIte, Nat.reduceEqDiff]; exact hdb i hi
    simp only [↓q_m1, q_lit, if_true]
    by_cases hl0 : lt = 0
    · have hw0 : w = 0 := h4.mp hl0
      subst hl0 hw0
      refine ⟨false, kSI S 0 (upd (S.1 0) 0 (nI (d + 1))), upd (upd (upd (upd (M.1 6) 39 (nI (d + 1))) 43 (M.1 6 43)) 40 (nI 0)) 41 (nI 0), 0, 0, ?_, ?_, hfin _ _ rfl h1' h2' rfl h4', fun k hk => ?_, fun k hk => ?_⟩
      · rw [h1', q_0m1, if_pos rfl]
        unfold g_X9_passDay_38
        simp (disch := omega) only [↓q_m1, q_lit, ↓q_bd, ↓reduceIte, true_or, not_true_eq_false, h0, nI_add, q_kI_S]
        rfl
      · unfold g_X12_day_89 g_X12_day_129
        simp (disch := omega) only [↓q_m1, q_lit, ↓q_bd, ↓reduceIte, q_cl, h39, h40, nI_add, pk_un, pk_us, q_kI_S, q_kSI, q_SS, Nat.le_refl, q_le, q_addz, q_lt, Nat.not_lt_zero, false_or, show ¬ 279 ≤ 43 by omega]
        rfl
      · simp (disch := omega) only [pk_un]
      · simp (disch := omega) only [pk_un]
    · refine ⟨false, kSI S 0 (upd (upd (upd (upd (S.1 0) 1 mI) 2 mI) 4 (S.1 0 4 + nI 1)) 0 (nI (d + 1))), upd (upd (upd (upd (M.1 6) 39 (nI (d + 1))) 43 (M.1 6 43 + nI 1)) 40 (nI 0)) 41 (nI 0), 0, 0, ?_, ?_, hfin _ _ rfl rfl rfl rfl (by rw [← h4']; rfl), fun k hk => ?_, fun k hk => ?_⟩
      · unfold g_X9_passDay_38
        have hne : (S.1 0 1 = mI) = False := by
          rw [h1', q_sub (show 1 ≤ lt by omega)]
          exact q_neg _ (by omega)
        simp (disch := omega) only [↓q_m1, q_lit, ↓q_bd, hne, ↓reduceIte, true_or, not_true_eq_false, q_kI_S, q_kSI, q_SS, pk_un, h0, nI_add]
        rfl
      · unfold g_X12_day_89 g_X12_day_129
        simp (disch := omega) only [↓q_m1, q_lit, ↓q_bd, ↓reduceIte, q_cl, h39, h40, nI_add, pk_un, pk_us, q_kI_S, q_kSI, q_SS, show ¬ lt ≤ 0 by omega, q_le, q_lt, Nat.not_lt_zero, false_or, show ¬ 279 ≤ 43 by omega]
        rfl
      · simp (disch := omega) only [pk_un]
      · simp (disch := omega) only [pk_un]
