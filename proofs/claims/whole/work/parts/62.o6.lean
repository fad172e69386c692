/-! machine-free: OFFICE begun: the relation that holds then -/
theorem q_copyO (O O2 : kD) : ∃ O', f_X3_copyFrom O O2 = some O' ∧ (∀ k, k < 4 → O'.1 0 k = O2.1 0 k) ∧ (∀ m, m < 6 → O'.2 4 m = O2.2 4 m ∧ O'.1 5 m = O2.1 5 m ∧ O'.1 6 m = O2.1 6 m) ∧ ∀ m, m < 8 → O'.2 7 m = O2.2 7 m ∧ O'.1 8 m = O2.1 8 m ∧ O'.1 9 m = O2.1 9 m ∧ O'.1 10 m = O2.1 10 m := by
  refine ⟨_, rfl, fun k hk => ?_, fun m hm => ⟨?_, ?_, ?_⟩, fun m hm => ⟨?_, ?_, ?_, ?_⟩⟩
  · have : k = 0 ∨ k = 1 ∨ k = 2 ∨ k = 3 := by omega
    rcases this with rfl | rfl | rfl | rfl <;> rfl
  · exact q_cpy _ _ 6 m hm
  · exact q_cpy _ _ 6 m hm
  · exact q_cpy _ _ 6 m hm
  · exact q_cpy _ _ 8 m hm
  · exact q_cpy _ _ 8 m hm
  · exact q_cpy _ _ 8 m hm
  · exact q_cpy _ _ 8 m hm
theorem q_clears (M : kD) : ∃ M', f_X12_clears M = some M' ∧ (∀ k, k < 39 → M'.1 7 k = nI 0) ∧ (∀ b, b ≠ 7 → M'.1 b = M.1 b) ∧ M'.2 = M.2 := by
  unfold f_X12_clears
  rw [q_lit]
  refine q_one (fun f i (Q : kD) => lp (fun _ _ => none) g_X12_clears_2 f (nI i) Q) (fun i Q => (∀ k, k < i → Q.1 7 k = nI 0) ∧ (∀ b, b ≠ 7 → Q.1 b = M.1 b) ∧ Q.2 = M.2) (fun r => ∃ M', r = some M' ∧ (∀ k, k < 39 → M'.1 7 k = nI 0) ∧ (∀ b, b ≠ 7 → M'.1 b = M.1 b) ∧ M'.2 = M.2) 39 ?_ ?_ (39 - 0) 0 2000 M (by omega) (by omega) ⟨fun k hk => absurd hk (Nat.not_lt_zero k), fun _ _ => rfl, rfl⟩
  · intro f i Q _ hi ⟨g0, g1, g2⟩ ih
    simp only [q_lp]
    generalize lp _ g_X12_clears_2 f = rc at ih ⊢
    unfold g_X12_clears_2
    simp (disch := omega) only [↓q_m1, q_lit, ↓q_bd, q_le, show ¬ 39 ≤ i by omega, ↓reduceIte, nI_add, q_lt, Nat.not_lt_zero, false_or, q_cl]
    refine ih _ ⟨fun k hk => ?_, fun b hb => ?_, g2⟩
    · show upd (Q.1 7) i (nI 0) k = _
      by_cases e : k = i
      · subst e; exact up_eq
      · rw [up_ne e]; exact g0 k (by omega)
    · rw [q_kI, if_neg hb]; exact g1 b hb
  · intro f Q ⟨g0, g1, g2⟩
    simp only [q_lp]
    generalize lp _ g_X12_clears_2 f = rc
    unfold g_X12_clears_2
    simp (disch := omega) only [↓q_m1, q_lit, q_le, show 39 ≤ 39 by omega, ↓reduceIte]
    exact ⟨Q, rfl, g0, g1, g2⟩
/-- the live office and state of both sides, with inks and names -/
def RLo (nm np : Nat) (O : kD) (s : Nat → Int32) (B : Nat → Int64) : Prop := RO nm np O s ∧ (∀ m, m < nm → ∃ i, i ≤ 999 ∧ O.1 5 m = nI i ∧ s (3 + m) = nI i) ∧ NR nm 0 (O.2 4) B ∧ NR np 6 (O.2 7) B ∧ (∀ m, nm ≤ m → m < 6 → s (3 + m) = nI 0 ∧ s (9 + m) = nI 0) ∧ (∀ q, np ≤ q → q < 8 → s (15 + q) = nI 0 ∧ s (23 + q) = nI 0 ∧ s (31 + q) = nI 0)
def MXb (M M' : kD) : Prop := (∀ k, k ≠ 22 → M'.1 0 k = M.1 0 k) ∧ (∀ b, b ≠ 0 → b ≠ 6 → M'.1 b = M.1 b) ∧ (∀ b, b ≠ 9 → M'.2 b = M.2 b)
theorem q_begin {nm np : Nat} {C O S N O2 M : kD} (h : RF nm np O2 (M.1 7) (M.2 9)) :
    ∃ O' S' N' M', f_X7_begin C O S N O2 = some (O', S', N') ∧ g_X12_office_73 M = some (M.1 0 19, M') ∧ RLo nm np O' (M'.1 6) (M'.2 9) ∧ RS nm np 0 0 0 0 0 S' (M'.1 6) ∧ O'.1 0 0 = O2.1 0 0 ∧ N'.1 0 0 = nI 0 ∧ N'.1 0 1 = nI 0 ∧ MXb M M' ∧ M'.1 0 22 = nI 0 ∧ ∀ k, 98 ≤ k → k < 279 → M'.1 6 k = nI 0 := by
  obtain ⟨O', o1, o2, o3, o4⟩ := q_copyO O O2
  obtain ⟨S', s1, a0, a1, a2, a3, a4, a5, a6⟩ := q_begS S O2
  obtain ⟨⟨⟨c1, c2⟩, ⟨z0, z1, p1, p2, p3⟩, hk, hc, hd, ha⟩, hI, hN1, hN2, hZ1, hZ2⟩ := h
  have hlo : ∀ k, k < 39 → w3 M 6 k = M.1 7 k := by
    intro k hk
    unfold w3 w1
    rw [if_neg (show ¬ (44 ≤ k ∧ k < 44 + 6) by omega), if_pos (show k < 279 by omega), if_pos hk]
  have hhi : ∀ k, 39 ≤ k → k < 279 → ¬ (44 ≤ k ∧ k < 50) → w3 M 6 k = nI 0 := by
    intro k h1 h2 h3
    unfold w3 w1
    rw [if_neg (show ¬ (44 ≤ k ∧ k < 44 + 6) by omega), if_pos h2, if_neg (by omega)]
  have hin : ∀ m, m < 6 → w3 M 6 (44 + m) = M.1 7 (3 + m) := by
    intro m hm
    unfold w3
    rw [if_pos (show 44 ≤ 44 + m ∧ 44 + m < 44 + 6 by omega), show 44 + m - 41 = 3 + m by omega]
  have hnm : ∀ k, k < 14 → w2 M 14 k = M.2 9 (14 + k) := by
    intro k hk
    unfold w2
    rw [if_pos hk]
  refine ⟨O', S', kI (kI N 0 0 (nI 0)) 0 1 (nI 0), kI (kSL (kSI M 6 (w3 M 6)) 9 (w2 M 14)) 0 22 (nI 0), ?_, q_73 M, ⟨⟨⟨c1, c2⟩, ⟨?_, ?_, ?_, ?_, ?_⟩, fun m hm => ?_, fun q hq => ?_, fun q hq => ?_, fun q hq => ?_⟩, fun m hm => ?_, fun m hm => ?_, fun q hq => ?_, fun m h1 h2 => ?_, fun q h1 h2 => ?_⟩, ⟨⟨by omega, by omega, by omega, ⟨fun _ => rfl, fun _ => rfl⟩, Nat.two_pow_pos nm⟩, ⟨a0, ?_, a1, ?_, a2, ?_, a3, ?_, ?_⟩, fun m hm => ?_, fun m hm => ?_, fun m hm => ?_, fun i hi => ?_⟩, o2 0 (by omega), rfl, rfl, ⟨fun k hk => ?_, fun b h1 h2 => ?_, fun b h1 => ?_⟩, rfl, fun k h1 h2 => ?_⟩
  · unfold f_X7_begin f_X8_forget
    simp only [o1, s1, ↓q_bo, ↓q_bd, q_lit]
  · exact (hlo 0 (by omega)).trans z0
  · exact (hlo 1 (by omega)).trans z1
  · rw [o2 1 (by omega)]; exact p1
  · rw [o2 2 (by omega)]; exact p2
  · rw [o2 3 (by omega), p3]; exact (hlo 2 (by omega)).symm
  · rw [(o3 m (by omega)).2.2]
    show ∃ k, k < 2 ^ np ∧ _ ∧ w3 M 6 (9 + m) = nI k
    rw [hlo (9 + m) (by omega)]; exact hk m hm
  · rw [(o4 q (by omega)).2.1]
    show ∃ c, 1 ≤ c ∧ c ≤ 40 ∧ _ ∧ w3 M 6 (15 + q) = nI c
    rw [hlo (15 + q) (by omega)]; exact hc q hq
  · rw [(o4 q (by omega)).2.2.1]
    show ∃ c, c ≤ 99 ∧ _ ∧ w3 M 6 (23 + q) = nI c
    rw [hlo (23 + q) (by omega)]; exact hd q hq
  · rw [(o4 q (by omega)).2.2.2]
    show ∃ k, k < 256 ∧ _ ∧ w3 M 6 (31 + q) = nI k
    rw [hlo (31 + q) (by omega)]; exact ha q hq
  · rw [(o3 m (by omega)).2.1]
    show ∃ i, i ≤ 999 ∧ _ ∧ w3 M 6 (3 + m) = nI i
    rw [hlo (3 + m) (by omega)]; exact hI m hm
  · rw [(o3 m (by omega)).1]
    show ∃ l, NM l _ (w2 M 14 (0 + m))
    rw [hnm (0 + m) (by omega), show 14 + (0 + m) = 14 + m by omega]; exact hN1 m hm
  · rw [(o4 q (by omega)).1]
    show ∃ l, NM l _ (w2 M 14 (6 + q))
    rw [hnm (6 + q) (by omega), show 14 + (6 + q) = 20 + q by omega]; exact hN2 q hq
  · show w3 M 6 (3 + m) = nI 0 ∧ w3 M 6 (9 + m) = nI 0
    rw [hlo (3 + m) (by omega), hlo (9 + m) (by omega)]; exact hZ1 m h1 h2
  · show w3 M 6 (15 + q) = nI 0 ∧ w3 M 6 (23 + q) = nI 0 ∧ w3 M 6 (31 + q) = nI 0
    rw [hlo (15 + q) (by omega), hlo (23 + q) (by omega), hlo (31 + q) (by omega)]; exact hZ2 q h1 h2
  · exact hhi 39 (by omega) (by omega) (by omega)
  · exact hhi 40 (by omega) (by omega) (by omega)
  · exact hhi 41 (by omega) (by omega) (by omega)
  · exact hhi 42 (by omega) (by omega) (by omega)
  · rw [a4]; exact (hhi 43 (by omega) (by omega) (by omega)).symm
  · rw [(a5 m (by omega)).1]
    show ∃ v, v ≤ 999 ∧ _ ∧ w3 M 6 (44 + m) = nI v
    rw [hin m (by omega)]; exact hI m hm
  · exact ⟨0, Nat.le_refl 0, (a5 m hm).2.1, hhi (50 + m) (by omega) (by omega) (by omega), fun _ => rfl⟩
  · exact ⟨0, Nat.le_refl 0, (a5 m hm).2.2, hhi (56 + m) (by omega) (by omega) (by omega), fun _ => rfl⟩
  · rw [a6 i hi]
    have := hhi (62 + i) (by omega) (by omega) (by omega)
    exact ⟨this.symm, fun _ => this, 0, by omega, this⟩
  · show upd (M.1 0) 22 (nI 0) k = _
    rw [up_ne hk]
  · show (if b = 0 then _ else if b = 6 then _ else M.1 b) = _
    rw [if_neg h1, if_neg h2]
  · show (if b = 9 then _ else M.2 b) = _
    rw [if_neg h1]
  · exact hhi k (by omega) h2 (by omega)
