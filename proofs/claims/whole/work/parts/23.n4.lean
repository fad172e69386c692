/-! machine-free: to write -/
theorem q_min (a b : Int32) : f_X12_lesser a b = kMin a b := by
  unfold f_X12_lesser kMin
  by_cases h1 : b < a
  · rw [if_pos h1, if_pos (Int32.le_of_lt h1)]
  · rw [if_neg h1]
    by_cases h2 : b ≤ a
    · rw [if_pos h2]; exact Int32.le_antisymm h2 (Int32.not_lt.mp h1)
    · rw [if_neg h2]
theorem RO_cg {nm np : Nat} {O : kD} {s s' : Nat → Int32} (h : ∀ k, k < 39 → s' k = s k) (ho : RO nm np O s) : RO nm np O s' := by
  obtain ⟨⟨hn, hp⟩, ⟨e0, e1, e2, e3, e4⟩, hk, hl, hc, ha⟩ := ho
  refine ⟨⟨hn, hp⟩, ⟨by rw [h 0 (by omega)]; exact e0, by rw [h 1 (by omega)]; exact e1, e2, e3, by rw [h 2 (by omega)]; exact e4⟩, fun m hm => ?_, fun m hm => ?_, fun m hm => ?_, fun m hm => ?_⟩
  · rw [h (9 + m) (by omega)]; exact hk m hm
  · rw [h (15 + m) (by omega)]; exact hl m hm
  · rw [h (23 + m) (by omega)]; exact hc m hm
  · rw [h (31 + m) (by omega)]; exact ha m hm
theorem q_minN {a b : Nat} (ha : a < 2 ^ 31) (hb : b < 2 ^ 31) : kMin (nI a) (nI b) = nI (min a b) := by
  unfold kMin
  by_cases h : b < a
  · rw [if_pos (by rw [q_lt hb ha]; exact h), Nat.min_eq_right (by omega)]
  · rw [if_neg (by rw [q_lt hb ha]; exact h), Nat.min_eq_left (by omega)]
theorem RS_ty {nm np d lt w h B : Nat} {S : kD} {s : Nat → Int32} (hs : RS nm np d lt w h B S s) (hn : nm ≤ 6) {m q : Nat} (hm : m < nm) (hq : q < np) {x5 x6 x7 : Nat} {S' : kD} {s' : Nat → Int32}
    (a0 : S'.1 0 0 = S.1 0 0) (a3 : S'.1 0 3 = S.1 0 3) (a4 : S'.1 0 4 = S.1 0 4) (a1 : S'.1 0 1 = nI q) (a2 : S'.1 0 2 = nI m)
    (b39 : s' 39 = s 39) (b42 : s' 42 = s 42) (b43 : s' 43 = s 43) (b40 : s' 40 = nI (q + 1)) (b41 : s' 41 = nI (m + 1))
    (a5 : S'.1 5 m = nI x5 ∧ s' (44 + m) = nI x5 ∧ x5 ≤ 999) (a5' : ∀ k, k ≠ m → S'.1 5 k = S.1 5 k) (b5' : ∀ k, k < 6 → k ≠ m → s' (44 + k) = s (44 + k))
    (a6 : S'.1 6 m = nI x6 ∧ s' (50 + m) = nI x6 ∧ x6 ≤ B + 40) (a6' : ∀ k, k ≠ m → S'.1 6 k = S.1 6 k) (b6' : ∀ k, k < 6 → k ≠ m → s' (50 + k) = s (50 + k))
    (a7 : S'.1 7 m = nI x7 ∧ s' (56 + m) = nI x7 ∧ x7 ≤ B + 40) (a7' : ∀ k, k ≠ m → S'.1 7 k = S.1 7 k) (b7' : ∀ k, k < 6 → k ≠ m → s' (56 + k) = s (56 + k))
    (a8 : ∀ i, i < 36 → S'.1 8 i = s' (62 + i) ∧ (nm ≤ i / 6 ∨ nm ≤ i % 6 → s' (62 + i) = nI 0) ∧ ∃ v, v ≤ 9999 ∧ s' (62 + i) = nI v) : RS nm np d (q + 1) (m + 1) h (B + 40) S' s' := by
  obtain ⟨⟨hd, hlt, hw, hlw, hh⟩, ⟨h0, h39, h1, h40, h2, h41, h3, h42, h4⟩, hink, hwr, hle, hdb⟩ := hs
  refine ⟨⟨hd, by omega, by omega, by omega, hh⟩, ⟨by rw [a0]; exact h0, by rw [b39]; exact h39, by rw [a1, q_sub (by omega), Nat.add_sub_cancel], b40, by rw [a2, q_sub (by omega), Nat.add_sub_cancel], b41, by rw [a3]; exact h3, by rw [b42]; exact h42, by rw [a4, b43]; exact h4⟩, fun k hk => ?_, fun k hk => ?_, fun k hk => ?_, a8⟩
  · by_cases hkm : k = m
    · subst hkm; exact ⟨x5, a5.2.2, a5.1, a5.2.1⟩
    · rw [a5' k hkm, b5' k (by omega) hkm]; exact hink k hk
  · by_cases hkm : k = m
    · subst hkm; exact ⟨x6, a6.2.2, a6.1, a6.2.1, fun h9 => by omega⟩
    · rw [a6' k hkm, b6' k hk hkm]
      obtain ⟨v, hv, h9⟩ := hwr k hk
      exact ⟨v, by omega, h9⟩
  · by_cases hkm : k = m
    · subst hkm; exact ⟨x7, a7.2.2, a7.1, a7.2.1, fun h9 => by omega⟩
    · rw [a7' k hkm, b7' k hk hkm]
      obtain ⟨v, hv, h9⟩ := hle k hk
      exact ⟨v, by omega, h9⟩
set_option maxHeartbeats 2000000 in
theorem q_types {nm np d lt w h B : Nat} {O S M : kD} (ho : RO nm np O (M.1 6)) (hs : RS nm np d lt w h B S (M.1 6)) {m q : Nat} (hm : m < nm) (hq : q < np) (hB : B ≤ 1000000000)
    (hci : ∃ c i, c ≤ i ∧ i ≤ 999 ∧ M.1 6 (15 + q) = nI c ∧ M.1 6 (44 + m) = nI i) :
    ∃ S' s', f_X9_put (nI m) (nI q) S O = some S' ∧ f_X12_types (nI m) (nI q) M = some (kSI M 6 s') ∧ RS nm np d (q + 1) (m + 1) h (B + 40) S' s' ∧ (∀ k, k < 39 → s' k = M.1 6 k) ∧ (∀ k, 98 ≤ k → s' k = M.1 6 k) := by
  obtain ⟨c, i, hci1, hi9, hci2, hci3⟩ := hci
  have hs0 := hs
  obtain ⟨⟨hd, hlt, hw, hlw, hh⟩, ⟨h0, h39, h1, h40, h2, h41, h3, h42, h4⟩, hink, hwr, hle, hdb⟩ := hs
  obtain ⟨⟨hn, hp⟩, ⟨e0, e1, e2, e3, e4⟩, hk, hl, hc, ha⟩ := ho
  obtain ⟨c2, hc0, hc40, hc1, hc2⟩ := hl q hq
  have hcc : c2 = c := by
    rw [hci2, q_eq (by omega) (by omega)] at hc2
    exact hc2.symm
  subst hcc
  obtain ⟨i2, hi2, hi3, hi4⟩ := hink m hm
  have hii : i2 = i := by
    rw [hci3, q_eq (by omega) (by omega)] at hi4
    exact hi4.symm
  subst hii
  obtain ⟨v6, hv6, hv6a, hv6b, -⟩ := hwr m (by omega)
  obtain ⟨v7, hv7, hv7a, hv7b, -⟩ := hle m (by omega)
  obtain ⟨cl, hcl, hcl1, hcl2⟩ := hc q hq
  by_cases hl0 : lt = 0
  · have hw0 : w = 0 := hlw.mp hl0
    subst hl0 hw0
    refine ⟨kSI (kSI (kSI (kSI S 5 (upd (S.1 5) m (nI (i2 - c2)))) 6 (upd (S.1 6) m (nI (v6 + 1)))) 7 (upd (S.1 7) m (nI (v7 + c2)))) 0 (upd (upd (S.1 0) 1 (nI q)) 2 (nI m)),
      upd (upd (upd (upd (upd (M.1 6) (44 + m) (nI (i2 - c2))) (50 + m) (nI (v6 + 1))) (56 + m) (nI (v7 + c2))) 40 (nI (q + 1))) 41 (nI (m + 1)), ?_, ?_, ?_, fun k hk => ?_, fun k hk => ?_⟩
    · unfold f_X9_put g_X9_put_96
      rw [q_hm hn e2 hm, q_hp hp e3 hq]
      simp (disch := omega) only [↓q_m1, q_lit, ↓q_bd, ↓reduceIte, q_10, nI_add, q_lt, q_cl, Nat.not_lt_zero, false_or, show ¬ 6 ≤ m by omega, show ¬ 8 ≤ q by omega, hi3, hc1, q_sub, hv6a, hv7a, q_kI_S, q_kSI, q_SS, ↓reduceIte, Nat.reduceEqDiff, h1, q_0m1]
    · unfold f_X12_types g_X12_types_111
      simp (disch := omega) only [↓q_m1, q_lit, ↓q_bd, ↓reduceIte, q_10, nI_add, q_lt, q_cl, Nat.not_lt_zero, false_or, show ¬ 279 ≤ 44 + m by omega, show ¬ 279 ≤ 50 + m by omega, show ¬ 279 ≤ 56 + m by omega, show ¬ 279 ≤ 15 + q by omega, hi4, hc2, q_sub, hv6b, hv7b, q_kI_S, q_kSI, q_SS, ↓reduceIte, pk_un, pk_us, h40, q_le, Nat.le_refl]
    · refine RS_ty hs0 hn hm hq (x5 := i2 - c2) (x6 := v6 + 1) (x7 := v7 + c2) rfl rfl rfl rfl rfl ?_ ?_ ?_ ?_ ?_ ⟨?_, ?_, by omega⟩ (fun k hk => ?_) (fun k hk hkm => ?_) ⟨?_, ?_, by omega⟩ (fun k hk => ?_) (fun k hk hkm => ?_) ⟨?_, ?_, by omega⟩ (fun k hk => ?_) (fun k hk hkm => ?_) (fun i hi => ?_)
      all_goals simp (disch := omega) only [pk_un, pk_us, q_kSI, ↓reduceIte, Nat.reduceEqDiff]
      exact hdb i hi
    · simp (disch := omega) only [pk_un]
    · simp (disch := omega) only [pk_un]
  · have hw0 : w ≠ 0 := fun e => hl0 (hlw.mpr e)
    obtain ⟨w, rfl⟩ : ∃ z, w = z + 1 := ⟨w - 1, by omega⟩
    obtain ⟨l, rfl⟩ : ∃ z, lt = z + 1 := ⟨lt - 1, by omega⟩
    have hj := hdb (w * 6 + m) (by omega)
    have hsd : ∀ (X : kD) (v : Int32), f_X9_setDebt (nI w) (nI m) v X = some (kI X 8 (w * 6 + m) v) := by
      intro X v
      unfold f_X9_setDebt
      simp (disch := omega) only [↓q_m1, q_lit, q_lt, q_le, Nat.not_lt_zero, if_false, show ¬ 6 ≤ w by omega, show ¬ 6 ≤ m by omega, pk_mul, nI_add, false_or, q_cl, show ¬ 36 ≤ w * 6 + m by omega, q_bd]
    refine ⟨kSI (kSI (kSI (kSI (kSI S 5 (upd (S.1 5) m (nI (i2 - c2)))) 6 (upd (S.1 6) m (nI (v6 + 1)))) 7 (upd (S.1 7) m (nI (v7 + c2)))) 8 (upd (S.1 8) (w * 6 + m) (kMin (nI 9999) (S.1 8 (w * 6 + m) + nI cl)))) 0 (upd (upd (S.1 0) 1 (nI q)) 2 (nI m)),
      upd (upd (upd (upd (upd (upd (M.1 6) (44 + m) (nI (i2 - c2))) (50 + m) (nI (v6 + 1))) (56 + m) (nI (v7 + c2))) (62 + 6 * w + m) (kMin (nI 9999) (S.1 8 (w * 6 + m) + nI cl))) 40 (nI (q + 1))) 41 (nI (m + 1)), ?_, ?_, ?_, fun k hk => ?_, fun k hk => ?_⟩
    · unfold f_X9_put g_X9_put_96
      rw [q_hm hn e2 hm, q_hp hp e3 hq]
      simp (disch := omega) only [↓q_m1, q_lit, ↓q_bd, ↓reduceIte, q_10, nI_add, q_lt, q_cl, Nat.not_lt_zero, false_or, show ¬ 6 ≤ m by omega, show ¬ 8 ≤ q by omega, hi3, hc1, q_sub, hv6a, hv7a, q_kI_S, q_kSI, q_SS, ↓reduceIte, Nat.reduceEqDiff, h1, h2, Nat.add_sub_cancel, q_neg, q_debt, q_bo, hsd, hcl1]
    · unfold f_X12_types g_X12_types_111
      simp (disch := omega) only [↓q_m1, q_lit, ↓q_bd, ↓reduceIte, q_10, nI_add, q_lt, q_cl, Nat.not_lt_zero, false_or, show ¬ 279 ≤ 44 + m by omega, show ¬ 279 ≤ 50 + m by omega, show ¬ 279 ≤ 56 + m by omega, show ¬ 279 ≤ 15 + q by omega, hi4, hc2, q_sub, hv6b, hv7b, q_kI_S, q_kSI, q_SS, ↓reduceIte, pk_un, pk_us, h40, h41, q_le, show ¬ l + 1 ≤ 0 by omega, Nat.add_sub_cancel, pk_mul, show ¬ 279 ≤ 62 + 6 * w + m by omega, show ¬ 279 ≤ 23 + q by omega, hcl2, q_min, show M.1 6 (62 + 6 * w + m) = S.1 8 (w * 6 + m) by rw [hj.1]; exact congrArg (M.1 6) (by omega)]
    · refine RS_ty hs0 hn hm hq (x5 := i2 - c2) (x6 := v6 + 1) (x7 := v7 + c2) rfl rfl rfl rfl rfl ?_ ?_ ?_ ?_ ?_ ⟨?_, ?_, by omega⟩ (fun k hk => ?_) (fun k hk hkm => ?_) ⟨?_, ?_, by omega⟩ (fun k hk => ?_) (fun k hk hkm => ?_) ⟨?_, ?_, by omega⟩ (fun k hk => ?_) (fun k hk hkm => ?_) (fun i hi => ?_)
      all_goals simp (disch := omega) only [pk_un, pk_us, q_kSI, ↓reduceIte, Nat.reduceEqDiff]
      by_cases hij : i = w * 6 + m
      · subst hij
        rw [show 62 + (w * 6 + m) = 62 + 6 * w + m by omega, pk_us, pk_us]
        obtain ⟨v0, hv0, hv1⟩ := hj.2.2
        refine ⟨rfl, fun h9 => by omega, min 9999 (v0 + cl), Nat.min_le_left _ _, ?_⟩
        rw [hj.1, hv1, nI_add, q_minN (by omega) (by omega)]
      · rw [pk_un hij, pk_un (show 62 + i ≠ 62 + 6 * w + m by omega)]
        simp (disch := omega) only [pk_un]
        exact hdb i hi
    · simp (disch := omega) only [pk_un]
    · simp (disch := omega) only [pk_un]
