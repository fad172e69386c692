/-! machine-free: what an OFFICE and its state are on both sides; reading them -/
def RO (nm np : Nat) (O : kD) (s : Nat → Int32) : Prop :=
  (nm ≤ 6 ∧ np ≤ 8) ∧ (s 0 = nI nm ∧ s 1 = nI np ∧ O.1 0 1 = nI nm ∧ O.1 0 2 = nI np ∧ O.1 0 3 = s 2) ∧
  (∀ m, m < nm → ∃ k, k < 2 ^ np ∧ O.1 6 m = nI k ∧ s (9 + m) = nI k) ∧
  (∀ q, q < np → ∃ c, 1 ≤ c ∧ c ≤ 40 ∧ O.1 8 q = nI c ∧ s (15 + q) = nI c) ∧
  (∀ q, q < np → ∃ c, c ≤ 99 ∧ O.1 9 q = nI c ∧ s (23 + q) = nI c) ∧
  (∀ q, q < np → ∃ k, k < 256 ∧ O.1 10 q = nI k ∧ s (31 + q) = nI k)
def RS (nm np d lt w h B : Nat) (S : kD) (s : Nat → Int32) : Prop :=
  (d ≤ 1000 ∧ lt ≤ np ∧ w ≤ nm ∧ (lt = 0 ↔ w = 0) ∧ h < 2 ^ nm) ∧
  (S.1 0 0 = nI d ∧ s 39 = nI d ∧ S.1 0 1 = nI lt - nI 1 ∧ s 40 = nI lt ∧ S.1 0 2 = nI w - nI 1 ∧ s 41 = nI w ∧ S.1 0 3 = nI h ∧ s 42 = nI h ∧ S.1 0 4 = s 43) ∧
  (∀ m, m < nm → ∃ v, v ≤ 999 ∧ S.1 5 m = nI v ∧ s (44 + m) = nI v) ∧
  (∀ m, m < 6 → ∃ v, v ≤ B ∧ S.1 6 m = nI v ∧ s (50 + m) = nI v ∧ (nm ≤ m → v = 0)) ∧
  (∀ m, m < 6 → ∃ v, v ≤ B ∧ S.1 7 m = nI v ∧ s (56 + m) = nI v ∧ (nm ≤ m → v = 0)) ∧
  (∀ i, i < 36 → S.1 8 i = s (62 + i) ∧ (nm ≤ i / 6 ∨ nm ≤ i % 6 → s (62 + i) = nI 0) ∧ ∃ v, v ≤ 9999 ∧ s (62 + i) = nI v)
theorem q_mach {nm : Nat} {O M : kD} (hn : nm ≤ 6) (h1 : O.1 0 1 = nI nm) (h2 : M.1 6 0 = nI nm) (a : Int32) :
    (∃ m, m < nm ∧ a = nI m ∧ f_X3_hasMachine a O = nI 1 ∧ f_X12_isMachine a M = some (nI 1)) ∨ ((∀ m, m < nm → a ≠ nI m) ∧ f_X3_hasMachine a O = nI 0 ∧ f_X12_isMachine a M = some (nI 0)) := by
  unfold f_X3_hasMachine f_X12_isMachine f_X12_isIn
  simp (disch := omega) only [↓q_m1, q_lit, q_cl, h1, h2]
  rcases q_arg a with h | ⟨j, hj, rfl⟩
  · refine Or.inr ⟨fun m hm e => ?_, by rw [if_pos h], by rw [if_pos h]⟩
    rw [e, q_lt (by omega) (by omega)] at h
    omega
  · simp (disch := omega) only [q_lt, q_le, q_pred_lt, Nat.not_lt_zero, if_false]
    by_cases h : nm ≤ j
    · refine Or.inr ⟨fun m hm e => ?_, by rw [if_pos h], by rw [if_pos h]⟩
      rw [q_eq (by omega) (by omega)] at e
      omega
    · exact Or.inl ⟨j, by omega, rfl, by rw [if_neg h], by rw [if_neg h]⟩
theorem q_phr {np : Nat} {O M : kD} (hn : np ≤ 8) (h1 : O.1 0 2 = nI np) (h2 : M.1 6 1 = nI np) (a : Int32) :
    (∃ m, m < np ∧ a = nI m ∧ f_X3_hasPhrase a O = nI 1 ∧ f_X12_isPhrase a M = some (nI 1)) ∨ ((∀ m, m < np → a ≠ nI m) ∧ f_X3_hasPhrase a O = nI 0 ∧ f_X12_isPhrase a M = some (nI 0)) := by
  unfold f_X3_hasPhrase f_X12_isPhrase f_X12_isIn
  simp (disch := omega) only [↓q_m1, q_lit, q_cl, h1, h2]
  rcases q_arg a with h | ⟨j, hj, rfl⟩
  · refine Or.inr ⟨fun m hm e => ?_, by rw [if_pos h], by rw [if_pos h]⟩
    rw [e, q_lt (by omega) (by omega)] at h
    omega
  · simp (disch := omega) only [q_lt, q_le, q_pred_lt, Nat.not_lt_zero, if_false]
    by_cases h : np ≤ j
    · refine Or.inr ⟨fun m hm e => ?_, by rw [if_pos h], by rw [if_pos h]⟩
      rw [q_eq (by omega) (by omega)] at e
      omega
    · exact Or.inl ⟨j, by omega, rfl, by rw [if_neg h], by rw [if_neg h]⟩
/-- .. of one that is there -/
theorem q_hm {nm m : Nat} {O : kD} (hn : nm ≤ 6) (h1 : O.1 0 1 = nI nm) (h : m < nm) : f_X3_hasMachine (nI m) O = nI 1 := by
  unfold f_X3_hasMachine
  simp (disch := omega) only [↓q_m1, q_lit, h1, q_lt, q_le, Nat.not_lt_zero, if_false, show ¬ nm ≤ m by omega]
theorem q_hp {np m : Nat} {O : kD} (hn : np ≤ 8) (h1 : O.1 0 2 = nI np) (h : m < np) : f_X3_hasPhrase (nI m) O = nI 1 := by
  unfold f_X3_hasPhrase
  simp (disch := omega) only [↓q_m1, q_lit, h1, q_lt, q_le, Nat.not_lt_zero, if_false, show ¬ np ≤ m by omega]
theorem q_10 : (nI 1 = nI 0) = False := eq_false (by decide)
theorem q_qb (b : Bool) : (q_b b = nI 0) = (b = false) := by cases b <;> simp [q_b, q_10]
/-- a girl sits there -/
theorem q_held {nm np d lt w h B : Nat} {S M : kD} (hs : RS nm np d lt w h B S (M.1 6)) (hn : nm ≤ 6) {m : Nat} (hm : m < nm) : f_X9_isHeld (nI m) S = q_b (h.testBit m) ∧ f_X12_isHeld (nI m) M = some (q_b (h.testBit m)) := by
  obtain ⟨⟨-, -, -, -, hh⟩, ⟨-, -, -, -, -, -, h7, h8, -⟩, -⟩ := hs
  have h64 : h < 256 := Nat.lt_of_lt_of_le hh (Nat.le_trans (Nat.pow_le_pow_right (by omega) hn) (by decide))
  unfold f_X9_isHeld f_X12_isHeld
  simp (disch := omega) only [↓q_m1, q_lit, q_cl, h7, h8]
  exact ⟨(q_bit h h64 m (by omega)).1, congrArg some (q_bit h h64 m (by omega)).2⟩
theorem q_pow {n x : Nat} (hn : n ≤ 8) (hx : x < 2 ^ n) : x < 256 := Nat.lt_of_lt_of_le hx (Nat.le_trans (Nat.pow_le_pow_right (by omega) hn) (by decide))
theorem q_knows {nm np : Nat} {O : kD} {s : Nat → Int32} (ho : RO nm np O s) {m q : Nat} (hm : m < nm) (hq : q < np) : f_X3_knowsOf (nI m) (nI q) O = some (q_b ((O.1 6 m).toNatClampNeg.testBit q)) ∧ f_X12_bitOf (s (9 + m)) (nI q) = q_b ((O.1 6 m).toNatClampNeg.testBit q) := by
  obtain ⟨⟨hn, hp⟩, ⟨-, -, h3, h4, -⟩, hk, -⟩ := ho
  obtain ⟨k, hk0, hk2, hk3⟩ := hk m hm
  have hk1 := q_pow hp hk0
  have hb := q_bit k hk1 q (by omega)
  have ec : (O.1 6 m).toNatClampNeg = k := by rw [hk2]; exact q_cl (by omega)
  rw [ec]
  refine ⟨?_, by rw [hk3]; exact hb.2⟩
  unfold f_X3_knowsOf
  rw [q_hm hn h3 hm, q_hp hp h4 hq]
  simp (disch := omega) only [↓q_m1, q_lit, q_10, if_false, q_lt, q_cl, Nat.not_lt_zero, false_or, show ¬ 6 ≤ m by omega, hk2, hb.1, q_qb]
  cases k.testBit q <;> rfl
theorem q_answer {nm np : Nat} {O M : kD} (ho : RO nm np O (M.1 6)) {p q : Nat} (hp0 : p < np) (hq : q < np) : f_X3_isAnswer (nI p) (nI q) O = some (q_b ((O.1 10 q).toNatClampNeg.testBit p)) ∧ f_X12_isAnswer (nI p) (nI q) M = some (q_b ((O.1 10 q).toNatClampNeg.testBit p)) := by
  obtain ⟨⟨hn, hp⟩, ⟨-, -, h3, h4, -⟩, -, -, -, hk⟩ := ho
  obtain ⟨k, hk1, hk2, hk3⟩ := hk q hq
  have hb := q_bit k hk1 p (by omega)
  have ec : (O.1 10 q).toNatClampNeg = k := by rw [hk2]; exact q_cl (by omega)
  rw [ec]
  refine ⟨?_, ?_⟩
  · unfold f_X3_isAnswer
    rw [q_hp hp h4 hp0, q_hp hp h4 hq]
    simp (disch := omega) only [↓q_m1, q_lit, q_10, if_false, q_lt, q_cl, Nat.not_lt_zero, false_or, show ¬ 8 ≤ q by omega, hk2, hb.1, q_qb]
    cases k.testBit p <;> rfl
  · unfold f_X12_isAnswer
    simp (disch := omega) only [↓q_m1, q_lit, q_bd, nI_add, q_lt, q_cl, Nat.not_lt_zero, false_or, show ¬ 279 ≤ 31 + q by omega, if_false, hk3, hb.2]
/-- why not write -/
theorem q_why {nm np d lt w h B : Nat} {O S M : kD} (ho : RO nm np O (M.1 6)) (hs : RS nm np d lt w h B S (M.1 6)) {m q : Nat} (hm : m < nm) (hq : q < np) :
    ∃ v, v ≤ 5 ∧ f_X9_whyNotWrite (nI m) (nI q) S O = some (nI v) ∧ f_X12_whyWrite (nI m) (nI q) M = some (nI v) ∧ (v = 0 → ∃ c i, c ≤ i ∧ i ≤ 999 ∧ M.1 6 (15 + q) = nI c ∧ M.1 6 (44 + m) = nI i ∧ w ≠ m + 1) := by
  have hheld := q_held hs ho.1.1 hm
  obtain ⟨hk1, hk2⟩ := q_knows ho hm hq
  generalize (O.1 6 m).toNatClampNeg.testBit q = b at hk1 hk2
  obtain ⟨⟨hd, hlt, hw, hlw, hh⟩, ⟨h0, h39, h1, h40, h2, h41, h3, h42, h4⟩, hink, -⟩ := hs
  have ho2 := ho
  obtain ⟨⟨hn, hp⟩, ⟨e0, e1, e2, e3, -⟩, -, hl, -⟩ := ho
  obtain ⟨i, hi, hi1, hi2⟩ := hink m hm
  obtain ⟨c, hc0, hc, hc1, hc2⟩ := hl q hq
  have hlast : g_X9_whyNotWrite_79 S O (nI m) (nI q) = some (if c ≤ i then nI 0 else nI 5) ∧ g_X12_whyWrite_72 M (nI m) (nI q) = some (if c ≤ i then nI 0 else nI 5) := by
    unfold g_X9_whyNotWrite_79 g_X12_whyWrite_72
    simp (disch := omega) only [↓q_m1, q_lit, q_bd, nI_add, q_lt, q_le, q_cl, Nat.not_lt_zero, false_or, show ¬ 279 ≤ 44 + m by omega, show ¬ 279 ≤ 15 + q by omega, show ¬ 6 ≤ m by omega, show ¬ 8 ≤ q by omega, if_false, hi1, hi2, hc1, hc2]
    by_cases hci : c ≤ i
    · simp only [hci, if_true, and_self]
    · simp only [hci, if_false, and_self]
  have hmid : ∃ v, v ≤ 5 ∧ g_X9_whyNotWrite_46 S O (nI m) (nI q) = some (nI v) ∧ (if (f_X12_bitOf (M.1 6 (9 + m)) (nI q)) = nI 0 then some (nI 3) else if M.1 6 40 ≤ nI 0 then g_X12_whyWrite_72 M (nI m) (nI q) else bo (f_X12_isAnswer (nI q) (M.1 6 40 - nI 1) M) fun v10 => if v10 = nI 0 then some (nI 4) else g_X12_whyWrite_72 M (nI m) (nI q)) = some (nI v) ∧ (v = 0 → c ≤ i) := by
    unfold g_X9_whyNotWrite_46
    rw [hk1, q_bo, hk2, h1, h40, hlast.1, hlast.2]
    simp (disch := omega) only [↓q_m1, q_lit, q_qb, q_le]
    cases b with
    | false => exact ⟨3, by omega, rfl, rfl, by omega⟩
    | true =>
      simp only [Bool.true_eq_false, if_false]
      by_cases hl0 : lt = 0
      · subst hl0
        rw [if_pos q_0m1, if_pos (Nat.le_refl 0)]
        by_cases hci : c ≤ i
        · exact ⟨0, by omega, by rw [if_pos hci], by rw [if_pos hci], fun _ => hci⟩
        · exact ⟨5, by omega, by rw [if_neg hci], by rw [if_neg hci], by omega⟩
      · obtain ⟨l, rfl⟩ : ∃ l, lt = l + 1 := ⟨lt - 1, by omega⟩
        obtain ⟨ha1, ha2⟩ := q_answer ho2 hq (show l < np by omega)
        generalize (O.1 10 l).toNatClampNeg.testBit q = ba at ha1 ha2
        simp (disch := omega) only [show ¬ l + 1 ≤ 0 by omega, q_sub (show 1 ≤ l + 1 by omega), Nat.add_sub_cancel, if_false, q_neg, ha1, ha2, q_bo, q_qb]
        cases ba with
        | false => exact ⟨4, by omega, rfl, rfl, by omega⟩
        | true =>
          simp only [Bool.true_eq_false, if_false]
          by_cases hci : c ≤ i
          · exact ⟨0, by omega, by rw [if_pos hci], by rw [if_pos hci], fun _ => hci⟩
          · exact ⟨5, by omega, by rw [if_neg hci], by rw [if_neg hci], by omega⟩
  obtain ⟨v, hv, hv1, hv2, hv3⟩ := hmid
  unfold f_X9_whyNotWrite f_X12_whyWrite
  rw [q_hm hn e2 hm, q_hp hp e3 hq, hheld.1, hheld.2, q_bo, hv1]
  simp (disch := omega) only [↓q_m1, q_lit, q_10, if_false, q_qb, q_bd, nI_add, q_lt, q_cl, Nat.not_lt_zero, false_or, show ¬ 279 ≤ 9 + m by omega] at hv2 ⊢
  rw [hv2, h1, h2, h41]
  cases hb : h.testBit m with
  | true => exact ⟨1, by omega, rfl, rfl, by omega⟩
  | false =>
    simp only [if_true]
    by_cases hl0 : lt = 0
    · have hw0 : w = 0 := hlw.mp hl0
      subst hl0 hw0
      simp (disch := omega) only [q_0m1, if_true, q_eq, show ¬ 0 = m + 1 by omega, if_false]
      exact ⟨v, hv, rfl, rfl, fun h9 => ⟨c, i, hv3 h9, hi, hc2, hi2, by omega⟩⟩
    · have hw0 : w ≠ 0 := fun e => hl0 (hlw.mpr e)
      obtain ⟨w, rfl⟩ : ∃ z, w = z + 1 := ⟨w - 1, by omega⟩
      simp (disch := omega) only [show nI lt - nI 1 = nI (lt - 1) from q_sub (by omega), q_neg, if_false, q_sub (show 1 ≤ w + 1 by omega), Nat.add_sub_cancel, q_eq]
      by_cases hwm : w = m
      · rw [if_pos hwm, if_pos (by omega)]
        exact ⟨2, by omega, rfl, rfl, by omega⟩
      · rw [if_neg hwm, if_neg (by omega)]
        exact ⟨v, hv, rfl, rfl, fun h9 => ⟨c, i, hv3 h9, hi, hc2, hi2, by omega⟩⟩
