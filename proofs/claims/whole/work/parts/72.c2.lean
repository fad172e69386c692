/-! machine-free: SENTENCE: marks taken off -/
theorem q_nots {nm np c e d k δ : Nat} {N : kD} {Q2 : List Nat} (hQ : ∀ x, Q2.head? = some x → x ≠ 20) : ∀ (j f : Nat) (M : kD), j < f → SZ nm np c e d k δ (List.replicate j 20 ++ Q2) N M → (Q2 = [] → k = 0 ∨ ∃ y, y < 100 ∧ y ≠ 20 ∧ M.1 39 (k - 1) = nI y) →
    ∃ M', lp (fun _ => none) g_X12_nots_0 f M = some M' ∧ SZ nm np c e d k δ Q2 N M' ∧ MXp M M' := by
  intro j
  induction j with
  | zero =>
    intro f M hf h hk
    obtain ⟨f, rfl⟩ : ∃ g, f = g + 1 := ⟨f - 1, by omega⟩
    refine ⟨M, ?_, h, MXp_r M⟩
    have h : SZ nm np c e d k δ Q2 N M := h
    simp only [q_lp]
    generalize lp _ g_X12_nots_0 f = rc
    unfold g_X12_nots_0
    have m42 := h.2.2.2.1.1
    have hb := h.2.1
    obtain ⟨er, her, _, _, hpq⟩ := h.2.2.1
    cases Q2 with
    | nil =>
      have m42 : M.1 0 42 = nI k := m42
      rcases hk rfl with rfl | ⟨y, y1, y2, y3⟩
      · simp (disch := omega) only [↓q_m1, q_lit, m42, q_le, Nat.le_refl, ↓reduceIte]
      · by_cases hk0 : k = 0
        · subst hk0
          simp (disch := omega) only [↓q_m1, q_lit, m42, q_le, Nat.le_refl, ↓reduceIte]
        · have hb3 : k + 0 ≤ 2 * c := hb.2.2.1
          simp (disch := omega) only [↓q_m1, q_lit, ↓q_bd, m42, q_le, show ¬ k ≤ 0 by omega, ↓reduceIte, q_sub, q_lt, Nat.not_lt_zero, false_or, q_cl, show ¬ 45 ≤ k - 1 by omega, y3, q_eq, y2]
    | cons x Q2 =>
      obtain ⟨hx, ht, _⟩ := hpq
      have hx20 := hQ x rfl
      have hb3 : k + (Q2.length + 1) ≤ 2 * c := hb.2.2.1
      have m42 : M.1 0 42 = nI (k + Q2.length + 1) := m42
      simp (disch := omega) only [↓q_m1, q_lit, ↓q_bd, m42, q_le, show ¬ k + Q2.length + 1 ≤ 0 by omega, ↓reduceIte, q_sub, Nat.add_sub_cancel, q_lt, Nat.not_lt_zero, false_or, q_cl, show ¬ 45 ≤ k + Q2.length by omega, ht, q_eq, hx20]
  | succ j ih =>
    intro f M hf h hk
    obtain ⟨f, rfl⟩ : ∃ g, f = g + 1 := ⟨f - 1, by omega⟩
    have h : SZ nm np c e d k δ (20 :: (List.replicate j 20 ++ Q2)) N M := h
    obtain ⟨m42, m43⟩ := h.2.2.2.1
    have hb := h.2.1
    have hpq := h.2.2.1
    obtain ⟨er, her, _, _, hx, ht, _⟩ := hpq
    generalize hQ9 : List.replicate j 20 ++ Q2 = Q9 at *
    have hb3 : k + (Q9.length + 1) ≤ 2 * c := hb.2.2.1
    have m42 : M.1 0 42 = nI (k + Q9.length + 1) := m42
    have m43 : M.1 0 43 = nI (d + (Q9.count 20 + 1)) := by rw [m43, List.count_cons_self]
    obtain ⟨er2, e1, e2, e3⟩ := SZ_pop (M0 := kI (kI M 0 42 (nI (k + Q9.length))) 0 43 (nI (d + Q9.count 20))) h rfl rfl rfl rfl (fun b hb => by rw [q_kI, if_neg hb, q_kI, if_neg hb])
    have hcd := q_cdM (x := nI 20) (s := nI 0) (v := nI 0) e2 e1
    obtain ⟨M', i1, i2, i3⟩ := ih f _ (by omega) e3 (fun h9 => by
      rcases hk h9 with h8 | ⟨y, y1, y2, y3⟩
      · exact Or.inl h8
      · exact Or.inr ⟨y, y1, y2, y3⟩)
    refine ⟨M', ?_, i2, ?_⟩
    · simp only [q_lp]
      rw [← i1]
      generalize lp _ g_X12_nots_0 f = rc
      unfold g_X12_nots_0
      simp (disch := omega) only [↓q_m1, q_lit, ↓q_bd, m42, q_le, show ¬ k + Q9.length + 1 ≤ 0 by omega, ↓reduceIte, q_sub, Nat.add_sub_cancel, q_lt, Nat.not_lt_zero, false_or, q_cl, show ¬ 45 ≤ k + Q9.length by omega, ht, q_eq, q_kI, q_up, Nat.reduceEqDiff, m43, show d + (Q9.count 20 + 1) - 1 = d + Q9.count 20 by omega, show 1 ≤ d + (Q9.count 20 + 1) by omega, hcd, ↓q_bo]
    · refine MXp_t (B := kI (kI M 0 42 (nI (k + Q9.length))) 0 43 (nI (d + Q9.count 20))) ⟨fun i i1 i2 i3 => ?_, fun b hb _ => ?_, rfl⟩ (MXp_t (cdM_p _ _ _ _ _) i3)
      · show upd (upd (M.1 0) 42 _) 43 _ i = _
        rw [up_ne i3, up_ne i2]
      · rw [q_kI, if_neg hb, q_kI, if_neg hb]
theorem q_joins {nm np c e d k δ t : Nat} {N : kD} (ht : t = 1 ∨ t = 2) : ∀ (Q : List Nat) (f : Nat) (M : kD), Q.length < f → (∀ x, x ∈ Q → x = 21 ∨ (x = 22 ∧ t = 2)) → SZ nm np c e d k δ Q N M → (k = 0 ∨ ∃ y, y < 100 ∧ y ≠ 21 ∧ (t = 2 → y ≠ 22) ∧ M.1 39 (k - 1) = nI y) →
    ∃ M', lp (fun _ _ => none) g_X12_joins_0 f (nI (20 + t)) M = some M' ∧ SZ nm np c e d k δ [] N M' ∧ MXp M M' := by
  intro Q
  induction Q with
  | nil =>
    intro f M hf _ h hk
    obtain ⟨f, rfl⟩ : ∃ g, f = g + 1 := ⟨f - 1, by omega⟩
    refine ⟨M, ?_, h, MXp_r M⟩
    simp only [q_lp]
    generalize lp _ g_X12_joins_0 f = rc
    unfold g_X12_joins_0
    have m42 : M.1 0 42 = nI k := h.2.2.2.1.1
    have hb3 : k + 0 ≤ 2 * c := h.2.1.2.2.1
    have hb1 := h.2.1.1
    rcases hk with rfl | ⟨y, y1, y2, y3, y4⟩
    · simp (disch := omega) only [↓q_m1, q_lit, m42, q_le, Nat.le_refl, ↓reduceIte]
    · by_cases hk0 : k = 0
      · subst hk0
        simp (disch := omega) only [↓q_m1, q_lit, m42, q_le, Nat.le_refl, ↓reduceIte]
      · simp (disch := omega) only [↓q_m1, q_lit, ↓q_bd, m42, q_le, show ¬ k ≤ 0 by omega, ↓reduceIte, q_sub, q_lt, Nat.not_lt_zero, false_or, q_cl, show ¬ 45 ≤ k - 1 by omega, y4, q_eq, y2]
        rcases ht with rfl | rfl
        · simp only [Nat.reduceAdd, Nat.reduceEqDiff, ↓reduceIte, ite_self]
        · rw [if_neg (y3 rfl)]
  | cons x Q ih =>
    intro f M hf hQ h hk
    obtain ⟨f, rfl⟩ : ∃ g, f = g + 1 := ⟨f - 1, by omega⟩
    rw [List.length_cons] at hf
    obtain ⟨m42, m43⟩ := h.2.2.2.1
    have hb := h.2.1
    have hpq := h.2.2.1
    obtain ⟨er, her, _, _, hx, htt, _⟩ := hpq
    have hb3 : k + (Q.length + 1) ≤ 2 * c := hb.2.2.1
    have m42 : M.1 0 42 = nI (k + Q.length + 1) := m42
    have hxx := hQ x (List.mem_cons_self ..)
    have m43 : M.1 0 43 = nI (d + Q.count 20) := by
      rw [m43, List.count_cons_of_ne (by omega)]
    obtain ⟨er2, e1, e2, e3⟩ := SZ_pop (M0 := kI M 0 42 (nI (k + Q.length))) h rfl rfl rfl m43 (fun b hb => by rw [q_kI, if_neg hb])
    have hcd := q_cdM (x := nI x) (s := nI 0) (v := nI 0) e2 e1
    obtain ⟨M', i1, i2, i3⟩ := ih f _ (by omega) (fun y hy => hQ y (List.mem_cons_of_mem _ hy)) e3 hk
    refine ⟨M', ?_, i2, ?_⟩
    · simp only [q_lp]
      rw [← i1]
      generalize lp _ g_X12_joins_0 f = rc
      have h45 : g_X12_joins_45 rc (nI (20 + t)) M = rc (nI (20 + t)) (cdM (kI M 0 42 (nI (k + Q.length))) er2 (nI x) (nI 0) (nI 0)) := by
        unfold g_X12_joins_45
        simp (disch := omega) only [↓q_m1, q_lit, ↓q_bd, m42, q_sub, Nat.add_sub_cancel, q_kI, q_up, ↓reduceIte, q_lt, Nat.not_lt_zero, false_or, q_cl, show ¬ 45 ≤ k + Q.length by omega, Nat.reduceEqDiff, htt, hcd, ↓q_bo]
      unfold g_X12_joins_0
      simp (disch := omega) only [↓q_m1, q_lit, ↓q_bd, m42, q_le, show ¬ k + Q.length + 1 ≤ 0 by omega, ↓reduceIte, q_sub, Nat.add_sub_cancel, q_lt, Nat.not_lt_zero, false_or, q_cl, show ¬ 45 ≤ k + Q.length by omega, htt, q_eq, h45]
      rcases hxx with rfl | ⟨rfl, rfl⟩
      · rw [if_pos rfl]
      · rw [if_neg (by omega), if_pos rfl, if_pos rfl]
    · refine MXp_t (B := kI M 0 42 (nI (k + Q.length))) ⟨fun i i1 i2 i3 => ?_, fun b hb _ => ?_, rfl⟩ (MXp_t (cdM_p _ _ _ _ _) i3)
      · show upd (M.1 0) 42 _ i = _
        rw [up_ne i2]
      · rw [q_kI, if_neg hb]
/-- levels: ONE 0, ALL 1, COND 2 -/
def LQ (t : Nat) (Q : List Nat) : Prop := ∃ j Q2, Q = List.replicate j 20 ++ Q2 ∧ ∀ x, x ∈ Q2 → (x = 21 ∧ 1 ≤ t) ∨ (x = 22 ∧ 2 ≤ t)
theorem LQ_0 (t : Nat) : LQ t [] := ⟨0, [], rfl, fun x hx => absurd hx (List.not_mem_nil)⟩
theorem LQ_up {t t' : Nat} {Q : List Nat} (h : LQ t Q) (ht : t ≤ t') : LQ t' Q := by
  obtain ⟨j, Q2, h1, h2⟩ := h
  refine ⟨j, Q2, h1, fun x hx => ?_⟩
  rcases h2 x hx with ⟨h3, h4⟩ | ⟨h3, h4⟩
  · exact Or.inl ⟨h3, by omega⟩
  · exact Or.inr ⟨h3, by omega⟩
theorem LQ_n {Q : List Nat} (h : LQ 0 Q) : LQ 0 (Q ++ [20]) := by
  obtain ⟨j, Q2, h1, h2⟩ := h
  have : Q2 = [] := by
    cases Q2 with
    | nil => rfl
    | cons x Q2 =>
      rcases h2 x (List.mem_cons_self ..) with ⟨_, h4⟩ | ⟨_, h4⟩
      · omega
      · omega
  subst this
  refine ⟨j + 1, [], ?_, h2⟩
  rw [h1, List.append_nil, List.append_nil, List.replicate_succ']
theorem LQ_j {t x : Nat} {Q : List Nat} (h : LQ t Q) (hx : (x = 21 ∧ 1 ≤ t) ∨ (x = 22 ∧ 2 ≤ t)) : LQ t (Q ++ [x]) := by
  obtain ⟨j, Q2, h1, h2⟩ := h
  refine ⟨j, Q2 ++ [x], by rw [h1, List.append_assoc], fun y hy => ?_⟩
  rcases List.mem_append.mp hy with h3 | h3
  · exact h2 y h3
  · rw [List.mem_singleton.mp h3]; exact hx
/-- below lies nothing that this level may take -/
def BT (t k : Nat) (M : kD) : Prop := t = 0 ∨ k = 0 ∨ ∃ y, y < 100 ∧ y ≠ 20 ∧ y ≠ 21 ∧ (t = 2 → y ≠ 22) ∧ M.1 39 (k - 1) = nI y
theorem q_flush {nm np c e d k δ t : Nat} {Q : List Nat} {N M : kD} (ht : t = 1 ∨ t = 2) (h : SZ nm np c e d k δ Q N M) (hQ : LQ t Q) (hb : BT t k M) :
    ∃ Ma M', f_X12_nots M = some Ma ∧ f_X12_joins (nI (20 + t)) Ma = some M' ∧ MXp M Ma ∧ MXp M M' ∧ SZ nm np c e d k δ [] N M' := by
  obtain ⟨j, Q2, rfl, hQ2⟩ := hQ
  have hlen := h.2.1
  rw [List.length_append, List.length_replicate] at hlen
  have hb2 : k = 0 ∨ ∃ y, y < 100 ∧ y ≠ 20 ∧ y ≠ 21 ∧ (t = 2 → y ≠ 22) ∧ M.1 39 (k - 1) = nI y := by
    rcases hb with h9 | h9
    · omega
    · exact h9
  have hx2 : ∀ x, x ∈ Q2 → x = 21 ∨ (x = 22 ∧ t = 2) := by
    intro x hx
    rcases hQ2 x hx with ⟨h3, h4⟩ | ⟨h3, h4⟩
    · exact Or.inl h3
    · exact Or.inr ⟨h3, by omega⟩
  obtain ⟨Ma, a1, a2, a3⟩ := q_nots (Q2 := Q2) (fun x hx => by
    cases Q2 with
    | nil => cases hx
    | cons y Q2 =>
      have : y = x := Option.some.inj hx
      subst this
      rcases hx2 y (List.mem_cons_self ..) with h3 | ⟨h3, _⟩ <;> omega) j 2000 M (by omega) h (fun _ => by
    rcases hb2 with h9 | ⟨y, y1, y2, y3, y4, y5⟩
    · exact Or.inl h9
    · exact Or.inr ⟨y, y1, y2, y5⟩)
  obtain ⟨M', b1, b2, b3⟩ := q_joins (nm := nm) (np := np) (c := c) (e := e) (d := d) (k := k) (δ := δ) (N := N) ht Q2 2000 Ma (by omega) hx2 a2 (by
    rcases hb2 with h9 | ⟨y, y1, y2, y3, y4, y5⟩
    · exact Or.inl h9
    · exact Or.inr ⟨y, y1, y3, y4, by rw [a3.2.1 39 (by omega) (by omega)]; exact y5⟩)
  exact ⟨Ma, M', a1, b1, a3, MXp_t a3 b3, b2⟩
