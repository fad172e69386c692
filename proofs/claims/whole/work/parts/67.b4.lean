/-! machine-free: BOOK lived: one line -/
/-- both sides' answers to a line: done (0), or refused by the code t -/
def DO (nm np : Nat) (B B' : Nat) (A Q V x y z : Int32) (O S M : kD) : Prop :=
  (∃ S' s' d lt w h, d ≤ 400 ∧ f_X9_whyNot A Q V S O = some (nI 0) ∧ (if A = nI 50 then f_X9_passDays V S O = some S' else f_X9_perform A Q V S O = some S') ∧ f_X12_does x y z M = some (nI 0, kSI M 6 s') ∧ RS nm np d lt w h B' S' s' ∧ (∀ k, k < 39 → s' k = M.1 6 k) ∧ ∀ k, 98 ≤ k → s' k = M.1 6 k) ∨
  (∃ v t : Nat, 1 ≤ v ∧ v ≤ 5 ∧ t ≤ 5 ∧ A = nI (10 * t) ∧ f_X9_whyNot A Q V S O = some (nI v) ∧ f_X12_does x y z M = some (nI (10 * t + v), M))
theorem q_doR {nm np d lt w h B : Nat} {O S M : kD} (ho : RO nm np O (M.1 6)) (hd : d ≤ 400) (hs : RS nm np d lt w h B S (M.1 6)) {m v : Nat} (hm : m < nm) (h1 : 1 ≤ v) (h2 : v ≤ 999) : DO nm np B B (nI 30) (nI m) (nI v) (nI 3) (nI m) (nI v) O S M := by
  have hn : nm ≤ 6 := ho.1.1
  have hm1 := q_hm hn ho.2.1.2.2.1 hm
  obtain ⟨i, hi, hi1, hi2⟩ := hs.2.2.1 m hm
  unfold DO f_X9_whyNot f_X12_does g_X12_does_126 g_X12_does_192 f_X9_perform
  simp (disch := omega) only [↓q_m1, q_lit, ↓q_bd, ↓reduceIte, q_eq, Nat.reduceEqDiff, hm1, q_10, q_lt, q_le, show ¬ v < 1 by omega, h2, Nat.not_lt_zero, false_or, q_cl, show ¬ 6 ≤ m by omega, hi1, nI_add, show ¬ 279 ≤ 44 + m by omega, hi2, pk_mul]
  by_cases hin : i < v
  · refine Or.inl ⟨kI S 5 m (nI v), upd (M.1 6) (44 + m) (nI v), d, lt, w, h, hd, by rw [if_pos hin], rfl, ?_, RS_ink hs hn hm h2, fun k hk => up_ne (by omega), fun k hk => up_ne (by omega)⟩
    rw [if_pos hin, if_pos (Nat.le_refl 0), q_kI_S]
  · refine Or.inr ⟨1, 3, by omega, by omega, by omega, rfl, by rw [if_neg hin], ?_⟩
    rw [if_neg hin, if_neg (by omega)]
