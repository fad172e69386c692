/-! machine-free: BOOK lived: all lines -/
def LV (nm np c B : Nat) (x1 : Int32) (K M : kD) (C : Option (kD × kD)) (D : Option (Int32 × kD)) : Prop :=
  ∃ R S' s' t k v d lt w h, C = some (kSI K 0 R, S') ∧ D = g_X12_book_191 x1 (if v = 0 then mI else nI k) (kSI (kSI M 6 s') 37 t) ∧ k ≤ c ∧ R 0 = nI c ∧ R 1 = nI k ∧ R 2 = nI v ∧ v ≤ 99 ∧ t 0 = nI v ∧ t 1 = nI k ∧ d ≤ 400 ∧ RS nm np d lt w h B S' s' ∧ (∀ k, k < 39 → s' k = M.1 6 k) ∧ (∀ k, 98 ≤ k → s' k = M.1 6 k) ∧ (k = 0 → s' = M.1 6)
theorem q_live {nm np c d lt w h B : Nat} {O S M K : kD} (x1 : Int32) (ho : RO nm np O (M.1 6)) (hd : d ≤ 400) (hs : RS nm np d lt w h B S (M.1 6)) (hB : B ≤ 800000000) (hk : RK nm np c K (M.1 8)) (h36 : M.1 0 36 = nI c) (t0 : M.1 37 0 = nI 0) (t1 : M.1 37 1 = nI 0) :
    LV nm np c (B + 96000) x1 K M (f_X0_live K O S) (lp (fun _ _ _ _ => none) g_X12_book_111 2000 x1 mI (nI 0) M) := by
  obtain ⟨hk0, hc, hkl⟩ := hk
  have key := q_two (fun f k (x : (Nat → Int32) × kD) => lp (fun _ _ _ => none) (g_X0_live_12 O) f (nI k) (kSI K 0 x.1) x.2) (fun g k (y : (Nat → Int32) × (Nat → Int32)) => lp (fun _ _ _ _ => none) g_X12_book_111 g x1 mI (nI k) (kSI (kSI M 6 y.1) 37 y.2))
    (fun k x y => x.1 0 = nI c ∧ x.1 1 = nI k ∧ x.1 2 = nI 0 ∧ y.2 0 = nI 0 ∧ y.2 1 = nI k ∧ (∃ d lt w h, d ≤ 400 ∧ RS nm np d lt w h (B + 2400 * k) x.2 y.1) ∧ (∀ k, k < 39 → y.1 k = M.1 6 k) ∧ (∀ k, 98 ≤ k → y.1 k = M.1 6 k) ∧ (k = 0 → y.1 = M.1 6))
    (fun r1 r2 => LV nm np c (B + 96000) x1 K M r1 r2) c ?_ ?_ c 0 2000 2000 (upd (upd (K.1 0) 1 (nI 0)) 2 (nI 0), S) (M.1 6, M.1 37) (by omega) (by omega) (by omega) ⟨hk0, rfl, rfl, t0, t1, ⟨d, lt, w, h, hd, hs⟩, fun _ _ => rfl, fun _ _ => rfl, fun _ => rfl⟩
  · have e1 : kSI (kSI M 6 (M.1 6)) 37 (M.1 37) = M := by rw [q_SM, q_SM]
    rw [e1] at key
    unfold f_X0_live
    simp only [↓q_m1, q_lit, ↓q_bd]
    have e2 : kI (kI K 0 1 (nI 0)) 0 2 (nI 0) = kSI K 0 (upd (upd (K.1 0) 1 (nI 0)) 2 (nI 0)) := by
      rw [q_kI_S, q_kI_S, q_SS]; rfl
    rw [e2]
    exact key
  · rintro f g k ⟨R, S1⟩ ⟨s, t⟩ hf hg hkc ⟨i0, i1, i2, i3, i4, ⟨d1, lt1, w1, h1, hd1, hs1⟩, i6, i7, i8⟩ ih
    simp only [q_lp] at *
    have ho1 : RO nm np O ((kSI (kSI M 6 s) 37 t).1 6) := RO_cg (s := M.1 6) i6 ho
    have hdo := q_do (M := kSI (kSI M 6 s) 37 t) ho1 hd1 hs1 (by omega) (hkl k hkc)
    obtain ⟨g, rfl⟩ : ∃ q, g = q + 1 := ⟨g - 1, by omega⟩
    generalize hrc : lp _ (g_X0_live_12 O) f = rc at ih ⊢
    generalize hrd : lp _ g_X12_book_111 (g + 1) = rd at ih ⊢
    unfold g_X0_live_12 g_X12_book_111
    simp (disch := omega) only [↓q_m1, q_lit, ↓q_bd, q_kSI, ↓reduceIte, i0, h36, q_le, show ¬ c ≤ k by omega, show ¬ 40 ≤ k by omega, q_lt, Nat.not_lt_zero, false_or, q_cl, pk_mul, nI_add, show ¬ 135 ≤ 3 * k by omega, show ¬ 135 ≤ 3 * k + 1 by omega, show ¬ 135 ≤ 3 * k + 2 by omega, Nat.reduceEqDiff, q_len]
    rcases hdo with ⟨S2, s2, d2, lt2, w2, h2, hd2, j1, j2, j3, j4, j5, j6⟩ | ⟨v, tt, hv, hv5, ht5, hA, j1, j2⟩
    · rw [j1, j3]
      simp only [↓q_bo, ↓q_bo2, ↓reduceIte]
      have hgo : (if K.1 3 k = nI 50 then bo (f_X9_passDays (K.1 5 k) S1 O) fun Sv18 => g_X0_live_118 rc O (nI k) (kSI K 0 R) Sv18 else bo (f_X9_perform (K.1 3 k) (K.1 4 k) (K.1 5 k) S1 O) fun Sv15 => g_X0_live_118 rc O (nI k) (kSI K 0 R) Sv15) = g_X0_live_118 rc O (nI k) (kSI K 0 R) S2 := by
        by_cases h50 : K.1 3 k = nI 50
        · rw [if_pos h50] at j2 ⊢
          rw [j2]; rfl
        · rw [if_neg h50] at j2 ⊢
          rw [j2]; rfl
      rw [hgo]
      unfold g_X0_live_118 g_X12_book_185
      simp (disch := omega) only [↓q_m1, q_lit, ↓q_bd, q_kSI, q_kI, ↓reduceIte, i1, i4, nI_add, q_cl, q_up, Nat.reduceEqDiff, q_le, Nat.le_refl]
      have := ih (upd R 1 (nI (k + 1)), S2) (s2, upd (upd t 0 (nI 0)) 1 (nI (k + 1))) ⟨i0, rfl, i2, rfl, rfl, ⟨d2, lt2, w2, h2, hd2, by rw [show B + 2400 * (k + 1) = B + 2400 * k + 2400 by omega]; exact j4⟩, fun j hj => (j5 j hj).trans (i6 j hj), fun j hj => (j6 j hj).trans (i7 j hj), fun h9 => absurd h9 (Nat.succ_ne_zero k)⟩
      have eK : kI (kSI K 0 R) 0 1 (nI (k + 1)) = kSI K 0 (upd R 1 (nI (k + 1))) := by
        rw [q_kI_S, q_SS]; rfl
      have eM : kI (kI (kSI (kSI (kSI M 6 s) 37 t) 6 s2) 37 0 (nI 0)) 37 1 (nI (k + 1)) = kSI (kSI M 6 s2) 37 (upd (upd t 0 (nI 0)) 1 (nI (k + 1))) := by
        refine kD_ext (fun b => ?_) rfl
        simp only [q_kI, q_kSI]
        by_cases b37 : b = 37
        · subst b37
          simp only [↓reduceIte, Nat.reduceEqDiff]
        · by_cases b6 : b = 6
          · subst b6
            simp only [↓reduceIte, Nat.reduceEqDiff]
          · simp only [if_neg b37, if_neg b6]
      rw [eK, eM]
      exact this
    · rw [j1, j2]
      unfold g_X0_live_56 g_X12_book_185
      simp (disch := omega) only [↓q_m1, q_lit, ↓q_bd, ↓q_bo, ↓q_bo2, q_eq, show ¬ v = 0 by omega, ↓reduceIte, q_kSI, q_kI, q_lt, Nat.not_lt_zero, false_or, q_cl, show ¬ 40 ≤ k by omega, Nat.reduceEqDiff, hA, nI_add, q_up, q_le, show ¬ 10 * tt + v ≤ 0 by omega]
      rw [← hrd]
      simp only [q_lp]
      generalize lp _ g_X12_book_111 g = re
      have hlast : ∀ (Z : kD), g_X12_book_111 re x1 (nI k) (nI (k + 1)) Z = g_X12_book_191 x1 (nI k) Z := by
        intro Z
        unfold g_X12_book_111
        by_cases h9 : Z.1 0 36 ≤ nI (k + 1)
        · rw [if_pos h9]
        · rw [if_neg h9, show (0 : Int32) = nI 0 from rfl, if_pos (by rw [q_le (by omega) (by omega)]; omega)]
      rw [hlast]
      refine ⟨upd R 2 (nI (10 * tt + v)), S1, s, upd t 0 (nI (10 * tt + v)), k, 10 * tt + v, d1, lt1, w1, h1, ?_, ?_, by omega, i0, i1, rfl, by omega, rfl, i4, hd1, RS_B (by omega) hs1, i6, i7, i8⟩
      · rw [q_kI_S, q_SS]; rfl
      · rw [if_neg (by omega), q_kI_S, q_SS]; rfl
  · rintro f g ⟨R, S1⟩ ⟨s, t⟩ ⟨i0, i1, i2, i3, i4, ⟨d1, lt1, w1, h1, hd1, hs1⟩, i6, i7, i8⟩
    simp only [q_lp] at *
    generalize lp _ (g_X0_live_12 O) f = rc
    generalize lp _ g_X12_book_111 g = rd
    unfold g_X0_live_12 g_X12_book_111
    simp (disch := omega) only [↓q_m1, q_lit, ↓q_bd, q_kSI, ↓reduceIte, i0, h36, q_le, Nat.le_refl, Nat.reduceEqDiff]
    exact ⟨R, S1, s, t, c, 0, d1, lt1, w1, h1, rfl, rfl, Nat.le_refl _, i0, i1, i2, by omega, i3, i4, hd1, RS_B (by omega) hs1, i6, i7, i8⟩
