/-! machine-free: TOKENS: the next one, both sides -/
def isSg (t : Nat) : Prop := t = 59 ∨ t = 40 ∨ t = 41 ∨ t = 60 ∨ t = 61 ∨ t = 62
theorem q_sgC : ∀ t, t < 256 → (f_X4_isSignByte (nI t) = nI 1 ∧ (t = 59 ∨ t = 40 ∨ t = 41 ∨ t = 60 ∨ t = 61 ∨ t = 62 ∨ t = 46)) ∨ (f_X4_isSignByte (nI t) = nI 0 ∧ ¬ (t = 59 ∨ t = 40 ∨ t = 41 ∨ t = 60 ∨ t = 61 ∨ t = 62)) := by decide +kernel
theorem q_sgM {M : kD} {t : Nat} (ht : t < 256) (hl : ¬ isLt t) (hd : ¬ isDg t) (hpk : f_X12_peek M = some (nI t)) :
    ∃ s, ((s = 3 ∧ isSg t) ∨ (s = 4 ∧ ¬ isSg t)) ∧ g_X12_next_80 M = some (kI (kI (kI M 0 11 (nI s)) 0 14 (nI t)) 0 4 (M.1 0 4 + nI 1)) := by
  have h1 : f_X12_isSmall (nI t) = nI 0 := by
    rcases q_small t ht with h | h
    · exact absurd h.2 hl
    · exact h.1
  have h2 : f_X12_isDigit (nI t) = nI 0 := by
    rcases q_digit t ht with h | h
    · exact absurd h.2 hd
    · exact h.1
  have h145 : ∀ s : Nat, g_X12_next_145 (nI t) (nI s) M = some (kI (kI (kI M 0 11 (nI s)) 0 14 (nI t)) 0 4 (M.1 0 4 + nI 1)) := by
    intro s
    unfold g_X12_next_145
    simp only [↓q_m1, q_lit, ↓q_bd]
    rfl
  unfold g_X12_next_80 g_X12_next_140 g_X12_next_144
  simp (disch := omega) only [↓q_m1, q_lit, hpk, ↓q_bo, q_le, Nat.zero_le, ↓reduceIte, h1, h2, q_eq, q_lt, h145]
  unfold isSg
  by_cases a1 : t = 59
  · exact ⟨3, Or.inl ⟨rfl, by omega⟩, by rw [if_pos a1]⟩
  · rw [if_neg a1]
    by_cases a2 : t = 40
    · exact ⟨3, Or.inl ⟨rfl, by omega⟩, by rw [if_pos a2]⟩
    · rw [if_neg a2]
      by_cases a3 : t = 41
      · exact ⟨3, Or.inl ⟨rfl, by omega⟩, by rw [if_pos a3]⟩
      · rw [if_neg a3]
        by_cases a4 : t < 60
        · exact ⟨4, Or.inr ⟨rfl, by omega⟩, by rw [if_pos a4]⟩
        · rw [if_neg a4]
          by_cases a5 : 62 < t
          · exact ⟨4, Or.inr ⟨rfl, by omega⟩, by rw [if_pos a5]⟩
          · exact ⟨3, Or.inl ⟨rfl, by omega⟩, by rw [if_neg a5]⟩
/-- what both readers hold after a step -/
def TK (n L : Nat) (T : Nat → Int32) (l : List Nat) (k v p a : Nat) (R M : kD) : Prop := R.1 0 0 = nI 1 ∧ R.1 0 1 = nI n ∧ R.1 0 2 = nI L ∧ M.1 0 5 = nI L ∧ RZ n T M ∧ a ≤ n ∧ R.1 0 5 = nI a ∧ M.1 0 12 = nI a ∧ (k ≤ 3 → p ≤ n ∧ R.1 0 3 = nI p ∧ M.1 0 4 = nI p) ∧ R.1 0 6 = nI (if k = 1 then wordIx l else 0) ∧ ((k = 0 ∧ R.1 0 4 = nI 1 ∧ M.1 0 11 = nI 0) ∨ (k = 1 ∧ R.1 0 4 = nI 2 ∧ M.1 0 11 = nI 1 ∧ NM l (R.2 0 7) (M.2 0 17)) ∨ (k = 2 ∧ R.1 0 4 = nI 3 ∧ M.1 0 11 = nI 2 ∧ R.1 0 8 = nI v ∧ M.1 0 14 = nI v ∧ v < 1000) ∨ (k = 3 ∧ R.1 0 4 = nI 4 ∧ M.1 0 11 = nI 3 ∧ R.1 0 8 = nI v ∧ M.1 0 14 = nI v ∧ isSg v) ∨ (k = 4 ∧ (R.1 0 4 = nI 0 ∨ (R.1 0 4 = nI 4 ∧ R.1 0 8 = nI 46)) ∧ M.1 0 11 = nI 4))
def MXn (M M' : kD) : Prop := (∀ k, k ≠ 4 → k ≠ 11 → k ≠ 12 → k ≠ 13 → k ≠ 14 → M'.1 0 k = M.1 0 k) ∧ (∀ b, b ≠ 0 → M'.1 b = M.1 b) ∧ (∀ b, b ≠ 0 → M'.2 b = M.2 b) ∧ (∀ k, k ≠ 17 → M'.2 0 k = M.2 0 k)
def MRn (R R' : kD) : Prop := ∀ k, k ≠ 3 → k ≠ 4 → k ≠ 5 → k ≠ 6 → k ≠ 8 → R'.1 0 k = R.1 0 k
theorem q_next {T : Nat → Int32} {n L p : Nat} {R M : kD} (hz : RZ n T M) (hL : L < 2 ^ 31) (h0 : R.1 0 0 = nI 1) (h1 : R.1 0 1 = nI n) (h2 : R.1 0 2 = nI L) (h5 : M.1 0 5 = nI L) (h3 : R.1 0 3 = nI p) (h4 : M.1 0 4 = nI p) (hp : p ≤ n) :
    ∃ R' M' l k v p' a, f_X4_advance 940 R T = some R' ∧ f_X12_next M = some M' ∧ TK n L T l k v p' a R' M' ∧ ((k ≤ 3 → p ≤ p') ∧ (1 ≤ k → k ≤ 3 → p < p')) ∧ MXn M M' ∧ MRn R R' := by
  have hT := okT_of hz
  have hn := hz.1
  have hn3 : M.1 0 3 = nI n := hz.2.1
  obtain ⟨q, hpq, hqn, hw, he⟩ := ws_end T n p hp
  obtain ⟨b, hb, hbm⟩ : ∃ b, kMin (nI n) (nI L) = nI b ∧ ((n ≤ L ∧ b = n) ∨ (L < n ∧ b = L)) := by
    unfold kMin
    rcases Nat.lt_or_ge L n with h | h
    · refine ⟨L, ?_, Or.inr ⟨h, rfl⟩⟩
      rw [if_pos (show nI L < nI n by rw [nI_ltI hL (by omega)]; exact h)]
    · refine ⟨n, ?_, Or.inl ⟨h, rfl⟩⟩
      rw [if_neg (show ¬ nI L < nI n by rw [nI_ltI hL (by omega)]; omega)]
  have eR : kI R 0 3 (nI p) = R := by
    refine kD_ext (fun z => ?_) rfl
    rw [q_kI]
    by_cases h : z = 0
    · subst h; rw [if_pos rfl]; funext y; rw [q_up]; split
      · next h9 => rw [h9]; exact h3.symm
      · rfl
    · rw [if_neg h]
  have hC : ∀ e', p ≤ e' → e' ≤ 940 → (∀ i, p ≤ i → i < e' → i < b ∧ isWs (tN T i)) → (b ≤ e' ∨ (e' < b ∧ ¬ isWs (tN T e'))) → f_X4_advance 940 R T = g_X4_advance_61 940 T (nI b) (kI R 0 3 (nI e')) := by
    intro e' a1 a2 a3 a4
    have := q_wsC hT (R := R) h0 (b := b) (p := p) (e := e') a1 (by omega) a3 a4 a2
    rw [eR] at this
    rw [← this]
    unfold f_X4_advance
    simp only [↓q_bd, h1, h2, hb]
  have hM := q_wsM hz hpq hqn hw he h4
  by_cases hqb : q < b
  · have hnw : ¬ isWs (tN T q) := by
      rcases he with h | h
      · omega
      · exact h
    have hC1 := hC q hpq (by omega) (fun i a1 a2 => ⟨by omega, hw i a1 a2⟩) (Or.inr ⟨hqb, hnw⟩)
    rw [hC1, hM]
    clear hC hC1 hM
    obtain ⟨t1, t2⟩ := hT q (by omega)
    -- reference: to 80
    have h31 : g_X12_next_31 (kI M 0 4 (nI q)) = g_X12_next_80 (kI (kI (kI M 0 4 (nI q)) 0 12 (nI q)) 0 13 (nI 0)) := by
      unfold g_X12_next_31
      simp (disch := omega) only [↓q_m1, q_lit, ↓q_bd, show (kI M 0 4 (nI q)).1 0 4 = nI q from rfl, show (kI (kI (kI M 0 4 (nI q)) 0 12 (nI q)) 0 13 (nI 0)).1 0 3 = nI n from hn3, show (kI (kI (kI M 0 4 (nI q)) 0 12 (nI q)) 0 13 (nI 0)).1 0 5 = nI L from h5, show (kI (kI (kI M 0 4 (nI q)) 0 12 (nI q)) 0 13 (nI 0)).1 0 4 = nI q from rfl, q_le, q_lt]
      by_cases hnl : n ≤ L
      · rw [if_pos hnl]
      · rw [if_neg hnl, if_pos (by omega)]
    rw [h31]
    clear h31
    obtain ⟨M2, eM2⟩ : ∃ M2, M2 = kI (kI (kI M 0 4 (nI q)) 0 12 (nI q)) 0 13 (nI 0) := ⟨_, rfl⟩
    rw [← eM2]
    have m4 : M2.1 0 4 = nI q := by rw [eM2]; rfl
    have m12 : M2.1 0 12 = nI q := by rw [eM2]; rfl
    have m13 : M2.1 0 13 = nI 0 := by rw [eM2]; rfl
    have mF : ∀ k, k ≠ 4 → k ≠ 12 → k ≠ 13 → M2.1 0 k = M.1 0 k := by
      intro k k1 k2 k3
      rw [eM2, q_kI, if_pos rfl, q_up, if_neg k3, q_kI, if_pos rfl, q_up, if_neg k2, q_kI, if_pos rfl, q_up, if_neg k1]
    have mF1 : ∀ z, z ≠ 0 → M2.1 z = M.1 z := by
      intro z hz0
      rw [eM2, q_kI, if_neg hz0, q_kI, if_neg hz0, q_kI, if_neg hz0]
    have mF2 : M2.2 = M.2 := by rw [eM2]; rfl
    clear eM2
    have mz : RZ n T M2 := RZ_f hz (mF 3 (by omega) (by omega) (by omega)) (mF1 1 (by omega))
    have mpk := q_peek mz m4 (by omega)
    rw [if_pos (show q < n by omega)] at mpk
    -- class: the run
    obtain ⟨R4, eR4⟩ : ∃ R4, R4 = kI (kI (kI R 0 3 (nI q)) 0 6 (nI 0)) 0 5 (nI q) := ⟨_, rfl⟩
    have r3 : R4.1 0 3 = nI q := by rw [eR4]; rfl
    have r5 : R4.1 0 5 = nI q := by rw [eR4]; rfl
    have r6 : R4.1 0 6 = nI 0 := by rw [eR4]; rfl
    have rF : ∀ k, k ≠ 3 → k ≠ 5 → k ≠ 6 → R4.1 0 k = R.1 0 k := by
      intro k k1 k2 k3
      rw [eR4, q_kI, if_pos rfl, q_up, if_neg k2, q_kI, if_pos rfl, q_up, if_neg k3, q_kI, if_pos rfl, q_up, if_neg k1]
    have r0 : R4.1 0 0 = nI 1 := (rF 0 (by omega) (by omega) (by omega)).trans h0
    have r1 : R4.1 0 1 = nI n := (rF 1 (by omega) (by omega) (by omega)).trans h1
    have r2 : R4.1 0 2 = nI L := (rF 2 (by omega) (by omega) (by omega)).trans h2
    obtain ⟨e, hqe, hen, hrun, hree⟩ := run_end T n q hqn
    obtain ⟨R5, hR5, s3, sF, sK⟩ := q_run hT hn r0 r1 r3 hqe hen hrun hree
    have s0 : R5.1 0 0 = nI 1 := (sF 0 (by omega) (by omega) (by omega)).trans r0
    have s1 : R5.1 0 1 = nI n := (sF 1 (by omega) (by omega) (by omega)).trans r1
    have s2 : R5.1 0 2 = nI L := (sF 2 (by omega) (by omega) (by omega)).trans r2
    have s5 : R5.1 0 5 = nI q := (sF 5 (by omega) (by omega) (by omega)).trans r5
    have s6 : R5.1 0 6 = nI 0 := (sF 6 (by omega) (by omega) (by omega)).trans r6
    have sF2 : ∀ k, k ≠ 3 → k ≠ 4 → k ≠ 5 → k ≠ 6 → k ≠ 8 → R5.1 0 k = R.1 0 k := fun k k1 k2 k3 k4 k5 => (sF k k1 k2 k5).trans (rF k k1 k3 k4)
    have h61 : g_X4_advance_61 940 T (nI b) (kI R 0 3 (nI q)) = (if nI e = nI q then (if f_X4_isSignByte (T q) = nI 0 then g_X4_advance_154 940 T (nI 0) (kI R5 0 8 (T q)) else g_X4_advance_154 940 T (nI 4) (kI R5 0 8 (T q))) else if R5.1 0 4 = nI 2 then bo (f_X4_wordOf (nI (e - q)) 940 R5 T) fun v8 => some (kI R5 0 6 v8) else some R5) := by
      unfold g_X4_advance_61
      simp (disch := omega) only [↓q_m1, q_lit, ↓q_bd, show (kI (kI R 0 3 (nI q)) 0 6 (nI 0)).1 0 3 = nI q from rfl, q_lt, hqb, ↓reduceIte, ← eR4, hR5, ↓q_bo, s3, s5, s0, not_true_eq_false, Nat.not_lt_zero, false_or, q_cl, show ¬ 940 ≤ q by omega, q_sub, show (kI R5 0 8 (T q)).1 0 8 = T q from rfl]
    rw [h61]
    clear h61
    by_cases hqe2 : e = q
    · -- a sign or nothing
      rw [if_pos (by rw [hqe2])]
      have hne : ¬ (isLt (tN T q) ∨ isDg (tN T q)) := by
        rw [hqe2] at hree
        rcases hree with h | h
        · omega
        · exact h
      obtain ⟨s, hs, hg⟩ := q_sgM t2 (fun h => hne (Or.inl h)) (fun h => hne (Or.inr h)) mpk
      rw [hg, m4, nI_add]
      have h154 : ∀ d : Nat, g_X4_advance_154 940 T (nI d) (kI R5 0 8 (T q)) = some (kI (kI (kI R5 0 8 (nI (tN T q))) 0 4 (nI d)) 0 3 (nI (q + 1))) := by
        intro d
        unfold g_X4_advance_154
        simp only [↓q_m1, q_lit, ↓q_bd, t1.symm]
        rw [show (kI (kI R5 0 8 (T q)) 0 4 (nI d)).1 0 3 = nI e from s3, hqe2, nI_add]
      rw [h154, h154]
      have hfin : ∀ d : Nat, ((s = 3 ∧ isSg (tN T q) ∧ d = 4) ∨ (s = 4 ∧ (d = 0 ∨ (d = 4 ∧ tN T q = 46)))) → ∃ R' M' l k v p' a, some (kI (kI (kI R5 0 8 (nI (tN T q))) 0 4 (nI d)) 0 3 (nI (q + 1))) = some R' ∧ some (kI (kI (kI M2 0 11 (nI s)) 0 14 (nI (tN T q))) 0 4 (nI (q + 1))) = some M' ∧ TK n L T l k v p' a R' M' ∧ ((k ≤ 3 → p ≤ p') ∧ (1 ≤ k → k ≤ 3 → p < p')) ∧ MXn M M' ∧ MRn R R' := by
        intro d hd
        refine ⟨_, _, [], s, tN T q, q + 1, q, rfl, rfl, ⟨s0, s1, s2, ?_, RZ_f mz rfl rfl, hqn, s5, m12, fun _ => ⟨by omega, rfl, rfl⟩, ?_, ?_⟩, ⟨fun _ => by omega, fun _ _ => by omega⟩, ⟨fun k k1 k2 k3 k4 k5 => ?_, fun z hz0 => ?_, fun z _ => ?_, fun k _ => ?_⟩, fun k k1 k2 k3 k4 k5 => ?_⟩
        · exact (mF 5 (by omega) (by omega) (by omega)).trans h5
        · rw [if_neg (by omega)]; exact s6
        · rcases hd with ⟨d1, d2, d3⟩ | ⟨d1, d2⟩
          · subst d1; subst d3
            exact Or.inr (Or.inr (Or.inr (Or.inl ⟨rfl, rfl, rfl, rfl, rfl, d2⟩)))
          · subst d1
            refine Or.inr (Or.inr (Or.inr (Or.inr ⟨rfl, ?_, rfl⟩)))
            rcases d2 with d2 | ⟨d2, d4⟩
            · subst d2; exact Or.inl rfl
            · subst d2; refine Or.inr ⟨rfl, ?_⟩; rw [d4]; rfl
        · rw [q_kI, if_pos rfl, q_up, if_neg k1, q_kI, if_pos rfl, q_up, if_neg k5, q_kI, if_pos rfl, q_up, if_neg k2]; exact mF k k1 k3 k4
        · rw [q_kI, if_neg hz0, q_kI, if_neg hz0, q_kI, if_neg hz0]; exact mF1 z hz0
        · exact congrFun mF2 z
        · exact congrFun (congrFun mF2 0) k
        · rw [q_kI, if_pos rfl, q_up, if_neg k1, q_kI, if_pos rfl, q_up, if_neg k2, q_kI, if_pos rfl, q_up, if_neg k5]; exact sF2 k k1 k2 k3 k4 k5
      rw [t1]
      rcases q_sgC (tN T q) t2 with ⟨hg1, hg2⟩ | ⟨hg1, hg2⟩
      · rw [hg1, if_neg (by decide)]
        refine hfin 4 ?_
        unfold isSg at hs ⊢
        rcases hs with ⟨d1, d2⟩ | ⟨d1, d2⟩
        · exact Or.inl ⟨d1, d2, rfl⟩
        · exact Or.inr ⟨d1, Or.inr ⟨rfl, by omega⟩⟩
      · rw [hg1, if_pos rfl]
        refine hfin 0 ?_
        unfold isSg at hs ⊢
        rcases hs with ⟨d1, d2⟩ | ⟨d1, d2⟩
        · exact absurd d2 hg2
        · exact Or.inr ⟨d1, Or.inl rfl⟩
    · -- a run
      have hqe3 : q < e := by omega
      rw [if_neg (by rw [nI_eq (by omega) (by omega)]; exact hqe2)]
      obtain ⟨M3, hM3, n4, nF, nF1, nF2, nF3, nK⟩ := q_runM mz m4 m13 hqe3 hen hrun hree
      have h80 : g_X12_next_80 M2 = g_X12_next_164 (nI (tN T q)) M2 := by
        have hq0 := hrun q (Nat.le_refl q) hqe3
        unfold g_X12_next_80
        simp (disch := omega) only [↓q_m1, q_lit, mpk, ↓q_bo, q_le, Nat.zero_le, ↓reduceIte]
        rcases q_small (tN T q) t2 with ⟨hm, hml⟩ | ⟨hm, hml⟩
        · rw [hm, if_neg (by decide)]
        · rw [hm, if_pos rfl]
          rcases q_digit (tN T q) t2 with ⟨hm, hml2⟩ | ⟨hm, hml2⟩
          · rw [hm, if_neg (by decide)]
          · rcases hq0 with h | h
            · exact absurd h hml
            · exact absurd h hml2
      rw [h80, hM3]
      have n12 : M3.1 0 12 = nI q := (nF 12 (by omega) (by omega) (by omega) (by omega)).trans m12
      have n5 : M3.1 0 5 = nI L := ((nF 5 (by omega) (by omega) (by omega) (by omega)).trans (mF 5 (by omega) (by omega) (by omega))).trans h5
      have nz : RZ n T M3 := RZ_f mz (nF 3 (by omega) (by omega) (by omega) (by omega)) (nF1 1 (by omega))
      have hMX : MXn M M3 := ⟨fun k k1 k2 k3 k4 k5 => (nF k k1 k2 k4 k5).trans (mF k k1 k3 k4), fun z hz0 => (nF1 z hz0).trans (mF1 z hz0), fun z hz0 => (nF2 z hz0).trans (congrFun mF2 z), fun k hk => (nF3 k hk).trans (congrFun (congrFun mF2 0) k)⟩
      have hnLD : ¬ (allL T q (e - q) ∧ allD T q (e - q)) := by
        intro ⟨a1, a2⟩
        have b1 := a1 0 (by omega)
        have b2 := a2 0 (by omega)
        unfold isLt at b1; unfold isDg at b2; omega
      rcases sK with ⟨a1, a2, a3, a4⟩ | ⟨a1, a2, a3, a4, a5⟩ | ⟨a1, a2, a3⟩
      · have hok : okL (sub T q (e - q)) := by
          refine ⟨by rw [sub_len]; omega, by rw [sub_len]; exact a2, fun c hc => ?_⟩
          obtain ⟨i, i1, i2⟩ := sub_mem hc
          have := a1 i i1
          unfold isLt at this; rw [i2]; exact this
        rcases nK with ⟨b1, b2, b3, b4⟩ | ⟨b1, b2, b3, b4, b5⟩ | ⟨b1, b2, b3⟩
        · rw [if_pos a3, q_wordOf hT hn (by omega) s0 s1 s5, q_bo]
          refine ⟨_, _, sub T q (e - q), 1, 0, e, q, rfl, rfl, ⟨s0, s1, s2, n5, nz, hqn, s5, n12, fun _ => ⟨hen, s3, n4⟩, rfl, Or.inr (Or.inl ⟨rfl, a3, b3, hok, ?_, b4⟩)⟩, ⟨fun _ => by omega, fun _ _ => by omega⟩, hMX, fun k k1 k2 k3 k4 k5 => ?_⟩
          · rw [sub_len]; exact a4
          · rw [q_kI, if_pos rfl, q_up, if_neg k4]; exact sF2 k k1 k2 k3 k4 k5
        · exact absurd ⟨a1, b1⟩ hnLD
        · exact absurd ⟨a1, a2⟩ b1
      · rcases nK with ⟨b1, b2, b3, b4⟩ | ⟨b1, b2, b3, b4, b5⟩ | ⟨b1, b2, b3⟩
        · exact absurd ⟨b1, a1⟩ hnLD
        · rw [if_neg (by rw [a4]; decide)]
          have hlt := numR_lt T q (e - q) a1
          have hlt2 : 10 ^ (e - q) ≤ 10 ^ 3 := Nat.pow_le_pow_right (by omega) a3
          exact ⟨_, _, [], 2, numR (sub T q (e - q)), e, q, rfl, rfl, ⟨s0, s1, s2, n5, nz, hqn, s5, n12, fun _ => ⟨hen, s3, n4⟩, s6, Or.inr (Or.inr (Or.inl ⟨rfl, a4, b4, a5, b5, by omega⟩))⟩, ⟨fun _ => by omega, fun _ _ => by omega⟩, hMX, sF2⟩
        · exact absurd ⟨a1, a2, a3⟩ b2
      · rcases nK with ⟨b1, b2, b3, b4⟩ | ⟨b1, b2, b3, b4, b5⟩ | ⟨b1, b2, b3⟩
        · exact absurd ⟨b1, b2⟩ a1
        · exact absurd ⟨b1, b2, b3⟩ a2
        · rw [if_neg (by rw [a3]; decide)]
          exact ⟨_, _, [], 4, 0, e, q, rfl, rfl, ⟨s0, s1, s2, n5, nz, hqn, s5, n12, fun h => absurd h (by omega), s6, Or.inr (Or.inr (Or.inr (Or.inr ⟨rfl, Or.inl a3, b3⟩)))⟩, ⟨fun h => absurd h (by omega), fun _ h => absurd h (by omega)⟩, hMX, sF2⟩
  · -- the end, or past the most
    obtain ⟨e', he1, he2, he3⟩ : ∃ e', p ≤ e' ∧ b ≤ e' ∧ e' = max p b := ⟨max p b, by omega, by omega, rfl⟩
    have hC1 := hC e' he1 (by omega) (fun i a1 a2 => ⟨by omega, hw i a1 (by omega)⟩) (Or.inl he2)
    rw [hC1, hM]
    clear hC hC1 hM
    rcases hbm with ⟨hnl, hbn⟩ | ⟨hnl, hbl⟩
    · have hq : q = n := by omega
      have heq : e' = n := by omega
      have h61 : g_X4_advance_61 940 T (nI b) (kI R 0 3 (nI e')) = some (kI (kI (kI (kI R 0 3 (nI n)) 0 6 (nI 0)) 0 5 (nI n)) 0 4 (nI 1)) := by
        rw [heq, hbn]
        unfold g_X4_advance_61
        simp (disch := omega) only [↓q_m1, q_lit, ↓q_bd, show (kI (kI R 0 3 (nI n)) 0 6 (nI 0)).1 0 3 = nI n from rfl, q_lt, show ¬ n < n by omega, ↓reduceIte, show (kI (kI (kI R 0 3 (nI n)) 0 6 (nI 0)) 0 5 (nI n)).1 0 1 = nI n from h1, show (kI (kI (kI R 0 3 (nI n)) 0 6 (nI 0)) 0 5 (nI n)).1 0 2 = nI L from h2, q_le, hnl]
      have h31 : g_X12_next_31 (kI M 0 4 (nI q)) = some (kI (kI (kI (kI M 0 4 (nI n)) 0 12 (nI n)) 0 13 (nI 0)) 0 11 (nI 0)) := by
        rw [hq]
        have hpk := q_peek (RZ_f (Q := kI (kI (kI M 0 4 (nI n)) 0 12 (nI n)) 0 13 (nI 0)) hz rfl rfl) (p := n) rfl (Nat.le_refl n)
        rw [if_neg (by omega)] at hpk
        unfold g_X12_next_31 g_X12_next_80
        simp (disch := omega) only [↓q_m1, q_lit, ↓q_bd, show (kI M 0 4 (nI n)).1 0 4 = nI n from rfl, show (kI (kI (kI M 0 4 (nI n)) 0 12 (nI n)) 0 13 (nI 0)).1 0 3 = nI n from hn3, show (kI (kI (kI M 0 4 (nI n)) 0 12 (nI n)) 0 13 (nI 0)).1 0 5 = nI L from h5, q_le, hnl, ↓reduceIte, hpk, ↓q_bo, q_len]
      rw [h61, h31]
      refine ⟨_, _, [], 0, 0, n, n, rfl, rfl, ⟨h0, h1, h2, h5, RZ_f hz rfl rfl, Nat.le_refl n, rfl, rfl, fun _ => ⟨Nat.le_refl n, rfl, rfl⟩, rfl, Or.inl ⟨rfl, rfl, rfl⟩⟩, ⟨fun _ => hp, fun h => absurd h (by omega)⟩, ⟨fun k k1 k2 k3 k4 k5 => ?_, fun z hz0 => ?_, fun z _ => rfl, fun k _ => rfl⟩, fun k k1 k2 k3 k4 k5 => ?_⟩
      · rw [q_kI, if_pos rfl, q_up, if_neg k2, q_kI, if_pos rfl, q_up, if_neg k4, q_kI, if_pos rfl, q_up, if_neg k3, q_kI, if_pos rfl, q_up, if_neg k1]
      · rw [q_kI, if_neg hz0, q_kI, if_neg hz0, q_kI, if_neg hz0, q_kI, if_neg hz0]
      · rw [q_kI, if_pos rfl, q_up, if_neg k2, q_kI, if_pos rfl, q_up, if_neg k3, q_kI, if_pos rfl, q_up, if_neg k4, q_kI, if_pos rfl, q_up, if_neg k1]
    · have h61 : g_X4_advance_61 940 T (nI b) (kI R 0 3 (nI e')) = some (kI (kI (kI (kI R 0 3 (nI e')) 0 6 (nI 0)) 0 5 (nI b)) 0 4 (nI 0)) := by
        unfold g_X4_advance_61
        simp (disch := omega) only [↓q_m1, q_lit, ↓q_bd, show (kI (kI R 0 3 (nI e')) 0 6 (nI 0)).1 0 3 = nI e' from rfl, q_lt, show ¬ e' < b by omega, ↓reduceIte, show (kI (kI (kI R 0 3 (nI e')) 0 6 (nI 0)) 0 5 (nI b)).1 0 1 = nI n from h1, show (kI (kI (kI R 0 3 (nI e')) 0 6 (nI 0)) 0 5 (nI b)).1 0 2 = nI L from h2, q_le, show ¬ n ≤ L by omega]
      have h31 : g_X12_next_31 (kI M 0 4 (nI q)) = some (kI (kI (kI (kI (kI M 0 4 (nI q)) 0 12 (nI q)) 0 13 (nI 0)) 0 12 (nI L)) 0 11 (nI 4)) := by
        unfold g_X12_next_31
        simp (disch := omega) only [↓q_m1, q_lit, ↓q_bd, show (kI M 0 4 (nI q)).1 0 4 = nI q from rfl, show (kI (kI (kI M 0 4 (nI q)) 0 12 (nI q)) 0 13 (nI 0)).1 0 3 = nI n from hn3, show (kI (kI (kI M 0 4 (nI q)) 0 12 (nI q)) 0 13 (nI 0)).1 0 5 = nI L from h5, show (kI (kI (kI M 0 4 (nI q)) 0 12 (nI q)) 0 13 (nI 0)).1 0 4 = nI q from rfl, q_le, q_lt, show ¬ n ≤ L by omega, show ¬ q < L by omega, ↓reduceIte]
      rw [h61, h31]
      refine ⟨_, _, [], 4, 0, n, L, rfl, rfl, ⟨h0, h1, h2, h5, RZ_f hz rfl rfl, by omega, by rw [hbl]; rfl, rfl, fun h => absurd h (by omega), rfl, Or.inr (Or.inr (Or.inr (Or.inr ⟨rfl, Or.inl rfl, rfl⟩)))⟩, ⟨fun h => absurd h (by omega), fun _ h => absurd h (by omega)⟩, ⟨fun k k1 k2 k3 k4 k5 => ?_, fun z hz0 => ?_, fun z _ => rfl, fun k _ => rfl⟩, fun k k1 k2 k3 k4 k5 => ?_⟩
      · rw [q_kI, if_pos rfl, q_up, if_neg k2, q_kI, if_pos rfl, q_up, if_neg k3, q_kI, if_pos rfl, q_up, if_neg k4, q_kI, if_pos rfl, q_up, if_neg k3, q_kI, if_pos rfl, q_up, if_neg k1]
      · rw [q_kI, if_neg hz0, q_kI, if_neg hz0, q_kI, if_neg hz0, q_kI, if_neg hz0, q_kI, if_neg hz0]
      · rw [q_kI, if_pos rfl, q_up, if_neg k2, q_kI, if_pos rfl, q_up, if_neg k3, q_kI, if_pos rfl, q_up, if_neg k4, q_kI, if_pos rfl, q_up, if_neg k1]
