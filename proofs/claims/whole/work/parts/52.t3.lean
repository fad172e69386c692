/-! machine-free: TOKENS: the run, reference -/
theorem q_wordM {A c j : Nat} (hj : j < 7) (hA : A < 256 ^ j) (hc : c < 256) : (lN A <<< ((nI 8).toInt64 &&& lN 63)) ||| (nI c).toInt64 = lN (A * 256 + c) := by
  have h1 : (256 : Nat) ^ j ≤ 256 ^ 6 := Nat.pow_le_pow_right (by omega) (by omega)
  have h2 : A < 2 ^ 48 := Nat.lt_of_lt_of_le hA h1
  have h3 := or_add A c 0 hc
  simp only [Nat.pow_zero, Nat.mul_one] at h3
  rw [l_shl (by omega) (by omega), nI_l (by omega), l_or (by omega) (by omega), show (2 : Nat) ^ 8 = 256 from rfl, h3]
def NI (T : Nat → Int32) (n q : Nat) (M0 : kD) (j : Nat) (x : Int32 × kD) : Prop := ∃ c, c ≤ 1 ∧ x.1 = nI c ∧ (isLt (tN T q) → (c = 1 ↔ allL T q j)) ∧ (¬ isLt (tN T q) → (c = 1 ↔ allD T q j)) ∧ x.2.1 0 13 = nI j ∧ x.2.1 0 4 = nI (q + j) ∧ (j ≤ 7 → x.2.2 0 17 = lN (encR (sub T q j))) ∧ (j ≤ 3 → x.2.1 0 14 = nI (numR (sub T q j))) ∧ (∀ k, k ≠ 4 → k ≠ 13 → k ≠ 14 → x.2.1 0 k = M0.1 0 k) ∧ (∀ b, b ≠ 0 → x.2.1 b = M0.1 b) ∧ (∀ b, b ≠ 0 → x.2.2 b = M0.2 b) ∧ (∀ k, k ≠ 17 → x.2.2 0 k = M0.2 0 k)
def RNm (T : Nat → Int32) (q e : Nat) (M M' : kD) : Prop := M'.1 0 4 = nI e ∧ (∀ k, k ≠ 4 → k ≠ 11 → k ≠ 13 → k ≠ 14 → M'.1 0 k = M.1 0 k) ∧ (∀ b, b ≠ 0 → M'.1 b = M.1 b) ∧ (∀ b, b ≠ 0 → M'.2 b = M.2 b) ∧ (∀ k, k ≠ 17 → M'.2 0 k = M.2 0 k) ∧
      ((allL T q (e - q) ∧ e - q ≤ 7 ∧ M'.1 0 11 = nI 1 ∧ M'.2 0 17 = lN (encR (sub T q (e - q)))) ∨ (allD T q (e - q) ∧ 1 ≤ e - q ∧ e - q ≤ 3 ∧ M'.1 0 11 = nI 2 ∧ M'.1 0 14 = nI (numR (sub T q (e - q)))) ∨ (¬ (allL T q (e - q) ∧ e - q ≤ 7) ∧ ¬ (allD T q (e - q) ∧ 1 ≤ e - q ∧ e - q ≤ 3) ∧ M'.1 0 11 = nI 4))
theorem RZ_f {n : Nat} {T : Nat → Int32} {M Q : kD} (h : RZ n T M) (h3 : Q.1 0 3 = M.1 0 3) (h1 : Q.1 1 = M.1 1) : RZ n T Q := by
  refine ⟨h.1, h3.trans h.2.1, fun i hi => ?_⟩
  rw [h1]; exact h.2.2 i hi
theorem q_runM {T : Nat → Int32} {n q e : Nat} {M : kD} (hz : RZ n T M) (h4 : M.1 0 4 = nI q) (h13 : M.1 0 13 = nI 0) (hqe : q < e) (hen : e ≤ n) (hr : ∀ i, q ≤ i → i < e → isLt (tN T i) ∨ isDg (tN T i)) (he : e = n ∨ ¬ (isLt (tN T e) ∨ isDg (tN T e))) :
    ∃ M', g_X12_next_164 (nI (tN T q)) M = some M' ∧ RNm T q e M M' := by
  have hT := okT_of hz
  have hn := hz.1
  have hq256 := (hT q (by omega)).2
  obtain ⟨s, hs, hsl⟩ : ∃ s, f_X12_isSmall (nI (tN T q)) = nI s ∧ ((s = 1 ∧ isLt (tN T q)) ∨ (s = 0 ∧ ¬ isLt (tN T q))) := by
    rcases q_small (tN T q) hq256 with h | h
    · exact ⟨1, h.1, Or.inl ⟨rfl, h.2⟩⟩
    · exact ⟨0, h.1, Or.inr ⟨rfl, h.2⟩⟩
  have hs2 : s < 2 := by omega
  unfold g_X12_next_164
  simp only [↓q_bd, hs]
  refine q_one (fun f j (x : Int32 × kD) => lp (fun _ _ _ => none) g_X12_next_181 f (nI s) x.1 x.2) (NI T n q M) (fun r => ∃ M', r = some M' ∧ RNm T q e M M') (e - q) ?_ ?_ (e - q) 0 2000 (1, kI (kL M 0 17 0) 0 14 0) (by omega) (by omega) ?_
  · intro f j x _ hj hI ih
    obtain ⟨x3, Q⟩ := x
    obtain ⟨c, hc1, e1', hcl, hcd, h13', h4', hW', hV', hF', hF1', hF2', hF3'⟩ := hI
    have e1 : x3 = nI c := e1'
    clear e1'
    subst e1
    have h13 : Q.1 0 13 = nI j := h13'
    have h4 : Q.1 0 4 = nI (q + j) := h4'
    have hW : j ≤ 7 → Q.2 0 17 = lN (encR (sub T q j)) := hW'
    have hV : j ≤ 3 → Q.1 0 14 = nI (numR (sub T q j)) := hV'
    have hF : ∀ k, k ≠ 4 → k ≠ 13 → k ≠ 14 → Q.1 0 k = M.1 0 k := hF'
    have hF1 : ∀ b, b ≠ 0 → Q.1 b = M.1 b := hF1'
    have hF2 : ∀ b, b ≠ 0 → Q.2 b = M.2 b := hF2'
    have hF3 : ∀ k, k ≠ 17 → Q.2 0 k = M.2 0 k := hF3'
    have hzQ : RZ n T Q := RZ_f hz (hF 3 (by omega) (by omega) (by omega)) (hF1 1 (by omega))
    obtain ⟨t1, t2⟩ := hT (q + j) (by omega)
    have hrj := hr (q + j) (by omega) (by omega)
    have hpk := q_peek hzQ h4 (by omega)
    rw [if_pos (show q + j < n by omega)] at hpk
    have hsp : sub T q (j + 1) = sub T q j ++ [tN T (q + j)] := sub_s T q j
    simp only [q_lp]
    generalize lp _ g_X12_next_181 f = rc at ih ⊢
    -- after the flag
    have hwr : ∀ Q1 : kD, ∀ d, d ≤ 1 → (isLt (tN T q) → (d = 1 ↔ allL T q (j + 1))) → (¬ isLt (tN T q) → (d = 1 ↔ allD T q (j + 1))) → Q1 = kL Q 0 17 (Q1.2 0 17) → (j + 1 ≤ 7 → Q1.2 0 17 = lN (encR (sub T q (j + 1)))) →
        ∃ M', g_X12_next_248 rc (nI s) (nI d) Q1 = some M' ∧ RNm T q e M M' := by
      intro Q1 d hd hdl hdd hQ1 hQW
      generalize Q1.2 0 17 = w at hQ1 hQW
      subst hQ1
      have h13k : (kL Q 0 17 w).1 0 13 = nI j := h13
      have hpk1 : f_X12_peek (kL Q 0 17 w) = some (nI (tN T (q + j))) := hpk
      have h275 : ∀ v : Int32, g_X12_next_275 rc (nI s) (nI d) (kI (kL Q 0 17 w) 0 14 v) = rc (nI s) (nI d) (kI (kI (kI (kL Q 0 17 w) 0 14 v) 0 13 (nI (j + 1))) 0 4 (nI (q + (j + 1)))) := by
        intro v
        unfold g_X12_next_275
        simp only [↓q_m1, q_lit, ↓q_bd, show (kI (kL Q 0 17 w) 0 14 v).1 0 13 = nI j from h13, nI_add, show (kI (kI (kL Q 0 17 w) 0 14 v) 0 13 (nI (j + 1))).1 0 4 = nI (q + j) from h4]
        rfl
      have hgo : ∀ v : Int32, (j + 1 ≤ 3 → v = nI (numR (sub T q (j + 1)))) → ∃ M', g_X12_next_275 rc (nI s) (nI d) (kI (kL Q 0 17 w) 0 14 v) = some M' ∧ RNm T q e M M' := by
        intro v hv
        rw [h275]
        refine ih (nI d, _) ⟨d, hd, rfl, hdl, hdd, rfl, rfl, hQW, hv, fun k k1 k2 k3 => ?_, fun b hb => ?_, fun b hb => ?_, fun k hk => ?_⟩
        · show (kI (kI (kI (kL Q 0 17 w) 0 14 v) 0 13 (nI (j + 1))) 0 4 (nI (q + (j + 1)))).1 0 k = _
          rw [q_kI, if_pos rfl, q_up, if_neg k1, q_kI, if_pos rfl, q_up, if_neg k2, q_kI, if_pos rfl, q_up, if_neg k3]; exact hF k k1 k2 k3
        · show (kI (kI (kI (kL Q 0 17 w) 0 14 v) 0 13 (nI (j + 1))) 0 4 (nI (q + (j + 1)))).1 b = _
          rw [q_kI, if_neg hb, q_kI, if_neg hb, q_kI, if_neg hb]; exact hF1 b hb
        · show (kL Q 0 17 w).2 b = _
          rw [q_kL, if_neg hb]; exact hF2 b hb
        · show (kL Q 0 17 w).2 0 k = _
          rw [q_kL, if_pos rfl, q_upL, if_neg hk]; exact hF3 k hk
      unfold g_X12_next_248
      simp (disch := omega) only [↓q_m1, q_lit, h13k, q_le, hpk1, ↓q_bo, ↓q_bd]
      by_cases h3 : 3 ≤ j
      · rw [if_pos h3]
        have := hgo (Q.1 0 14) (fun h9 => by omega)
        have e9 : kI (kL Q 0 17 w) 0 14 (Q.1 0 14) = kL Q 0 17 w := by
          refine kD_ext (fun z => ?_) rfl
          rw [q_kI]
          by_cases h : z = 0
          · subst h; rw [if_pos rfl]; funext y; rw [q_up]; split
            · next h9 => rw [h9]; rfl
            · rfl
          · rw [if_neg h]
        rw [e9] at this
        exact this
      · rw [if_neg h3]
        refine hgo _ (fun h9 => ?_)
        show nI 10 * (Q.1 0 14) + nI (tN T (q + j)) - nI 48 = _
        unfold isLt isDg at hrj
        rw [hV (by omega), pk_mul, nI_add, q_sub (by omega), hsp, numR_add]
        congr 1; omega
    have h221 : ∀ d, d ≤ 1 → (isLt (tN T q) → (d = 1 ↔ allL T q (j + 1))) → (¬ isLt (tN T q) → (d = 1 ↔ allD T q (j + 1))) → ∃ M', g_X12_next_221 rc (nI s) (nI d) Q = some M' ∧ RNm T q e M M' := by
      intro d hd hdl hdd
      unfold g_X12_next_221
      simp (disch := omega) only [↓q_m1, q_lit, q_litL, h13, q_le, hpk, ↓q_bo, ↓q_bd]
      by_cases h7 : 7 ≤ j
      · rw [if_pos h7]
        refine hwr Q d hd hdl hdd ?_ (fun h9 => by omega)
        refine Prod.ext rfl ?_
        funext z y
        show _ = (kL Q 0 17 (Q.2 0 17)).2 z y
        rw [q_kL]
        by_cases h : z = 0
        · subst h; rw [if_pos rfl, q_upL]; split
          · next h9 => rw [h9]
          · rfl
        · rw [if_neg h]
      · rw [if_neg h7]
        have hA := encR_lt (sub T q j) (sub_c hT (by omega))
        rw [sub_len] at hA
        rw [hW (by omega), q_wordM (by omega) hA t2, ← encR_add, ← hsp]
        exact hwr (kL Q 0 17 (lN (encR (sub T q (j + 1))))) d hd hdl hdd rfl (fun _ => rfl)
    have h201 : ∃ M', g_X12_next_201 rc (nI s) (nI c) Q = some M' ∧ RNm T q e M M' := by
      unfold g_X12_next_201 g_X12_next_220
      simp (disch := omega) only [↓q_m1, q_lit, q_eq, hpk, ↓q_bo]
      by_cases hc0 : c = 0
      · rw [if_pos hc0]
        refine h221 0 (by omega) (fun h => ?_) (fun h => ?_)
        · have := hcl h
          rw [allL_s]
          exact ⟨fun h9 => by omega, fun h9 => absurd (this.mpr h9.1) (by omega)⟩
        · have := hcd h
          rw [allD_s]
          exact ⟨fun h9 => by omega, fun h9 => absurd (this.mpr h9.1) (by omega)⟩
      · rw [if_neg hc0]
        have hc1 : c = 1 := by omega
        rcases q_small (tN T (q + j)) t2 with ⟨hm, hml⟩ | ⟨hm, hml⟩
        · rw [hm]
          rcases hsl with ⟨h1, h2⟩ | ⟨h1, h2⟩
          · rw [h1, if_pos rfl]
            refine h221 1 (by omega) (fun h => ?_) (fun h => absurd h2 h) |> fun hh => by rw [h1] at hh; exact hh
            rw [allL_s]
            exact ⟨fun _ => ⟨(hcl h).mp hc1, hml⟩, fun _ => rfl⟩
          · rw [h1, if_neg (by decide)]
            refine h221 0 (by omega) (fun h => absurd h h2) (fun h => ?_) |> fun hh => by rw [h1] at hh; exact hh
            rw [allD_s]
            refine ⟨fun h9 => by omega, fun h9 => ?_⟩
            have := h9.2
            unfold isLt at hml; unfold isDg at this; omega
        · rw [hm]
          have hdg : isDg (tN T (q + j)) := by
            rcases hrj with h | h
            · exact absurd h hml
            · exact h
          rcases hsl with ⟨h1, h2⟩ | ⟨h1, h2⟩
          · rw [h1, if_neg (by decide)]
            refine h221 0 (by omega) (fun h => ?_) (fun h => absurd h2 h) |> fun hh => by rw [h1] at hh; exact hh
            rw [allL_s]
            exact ⟨fun h9 => by omega, fun h9 => absurd h9.2 hml⟩
          · rw [h1, if_pos rfl]
            refine h221 1 (by omega) (fun h => absurd h h2) (fun h => ?_) |> fun hh => by rw [h1] at hh; exact hh
            rw [allD_s]
            exact ⟨fun _ => ⟨(hcd h).mp hc1, hdg⟩, fun _ => rfl⟩
    show ∃ M', g_X12_next_181 rc (nI s) (nI c) Q = some M' ∧ RNm T q e M M'
    unfold g_X12_next_181
    simp only [hpk, ↓q_bo, q_lit]
    rcases q_small (tN T (q + j)) t2 with ⟨hm, hml⟩ | ⟨hm, hml⟩
    · rw [hm, if_neg (by decide)]; exact h201
    · rw [hm, if_pos rfl]
      rcases q_digit (tN T (q + j)) t2 with ⟨hm, hml⟩ | ⟨hm, hml2⟩
      · rw [hm, if_neg (by decide)]; exact h201
      · rcases hrj with h | h
        · exact absurd h hml
        · exact absurd h hml2
  · intro f x hI
    obtain ⟨x3, Q⟩ := x
    obtain ⟨c, hc1, e1', hcl, hcd, h13', h4', hW', hV', hF', hF1', hF2', hF3'⟩ := hI
    have e1 : x3 = nI c := e1'
    clear e1'
    subst e1
    have h13 : Q.1 0 13 = nI (e - q) := h13'
    have h4 : Q.1 0 4 = nI (q + (e - q)) := h4'
    rw [show q + (e - q) = e by omega] at h4
    have hW : e - q ≤ 7 → Q.2 0 17 = lN (encR (sub T q (e - q))) := hW'
    have hV : e - q ≤ 3 → Q.1 0 14 = nI (numR (sub T q (e - q))) := hV'
    have hF : ∀ k, k ≠ 4 → k ≠ 13 → k ≠ 14 → Q.1 0 k = M.1 0 k := hF'
    have hF1 : ∀ b, b ≠ 0 → Q.1 b = M.1 b := hF1'
    have hF2 : ∀ b, b ≠ 0 → Q.2 b = M.2 b := hF2'
    have hF3 : ∀ k, k ≠ 17 → Q.2 0 k = M.2 0 k := hF3'
    have hzQ : RZ n T Q := RZ_f hz (hF 3 (by omega) (by omega) (by omega)) (hF1 1 (by omega))
    have hpk := q_peek hzQ h4 (by omega)
    simp only [q_lp]
    generalize lp _ g_X12_next_181 f = rc
    have h181 : g_X12_next_181 rc (nI s) (nI c) Q = g_X12_next_298 (nI s) (nI c) Q := by
      unfold g_X12_next_181
      by_cases hen2 : e < n
      · rw [if_pos hen2] at hpk
        have hne : ¬ (isLt (tN T e) ∨ isDg (tN T e)) := by
          rcases he with h | h
          · omega
          · exact h
        obtain ⟨t1, t2⟩ := hT e (by omega)
        simp only [hpk, ↓q_bo, q_lit]
        rcases q_small (tN T e) t2 with ⟨hm, hml⟩ | ⟨hm, hml⟩
        · exact absurd (Or.inl hml) hne
        · rw [hm, if_pos rfl]
          rcases q_digit (tN T e) t2 with ⟨hm, hml⟩ | ⟨hm, hml2⟩
          · exact absurd (Or.inr hml) hne
          · rw [hm, if_pos rfl]
      · rw [if_neg hen2] at hpk
        simp only [hpk, ↓q_bo, q_lit]
        rw [q_smallm.1, if_pos rfl, q_smallm.2, if_pos rfl]
    have hQ : ∀ v : Int32, ((allL T q (e - q) ∧ e - q ≤ 7 ∧ v = nI 1) ∨ (allD T q (e - q) ∧ 1 ≤ e - q ∧ e - q ≤ 3 ∧ v = nI 2) ∨ (¬ (allL T q (e - q) ∧ e - q ≤ 7) ∧ ¬ (allD T q (e - q) ∧ 1 ≤ e - q ∧ e - q ≤ 3) ∧ v = nI 4)) → RNm T q e M (kI Q 0 11 v) := by
      intro v hv
      refine ⟨h4, fun k k1 k2 k3 k4 => ?_, fun b hb => ?_, hF2, hF3, ?_⟩
      · rw [q_kI, if_pos rfl, q_up, if_neg k2]; exact hF k k1 k3 k4
      · rw [q_kI, if_neg hb]; exact hF1 b hb
      · rcases hv with ⟨a1, a2, a3⟩ | ⟨a1, a2, a3, a4⟩ | ⟨a1, a2, a3⟩
        · exact Or.inl ⟨a1, a2, a3, hW a2⟩
        · exact Or.inr (Or.inl ⟨a1, a2, a3, a4, hV a3⟩)
        · exact Or.inr (Or.inr ⟨a1, a2, a3⟩)
    have hnLD : ¬ (allL T q (e - q) ∧ allD T q (e - q)) := by
      intro ⟨a1, a2⟩
      have b1 := a1 0 (by omega)
      have b2 := a2 0 (by omega)
      unfold isLt at b1; unfold isDg at b2; omega
    have hL0 : allL T q (e - q) → isLt (tN T q) := fun h => h 0 (by omega)
    have hD0 : allD T q (e - q) → ¬ isLt (tN T q) := fun h => by
      have := h 0 (by omega)
      unfold isDg at this; unfold isLt
      rw [Nat.add_zero] at this; omega
    show ∃ M', g_X12_next_181 rc (nI s) (nI c) Q = some M' ∧ RNm T q e M M'
    rw [h181]
    unfold g_X12_next_298 g_X12_next_317
    rcases hsl with ⟨h1, h2⟩ | ⟨h1, h2⟩
    · have hc := hcl h2
      have hnd : ¬ allD T q (e - q) := fun h => hD0 h h2
      by_cases hc0 : c = 0
      · simp (disch := omega) only [↓q_m1, q_lit, ↓q_bd, q_eq, hc0, ↓reduceIte]
        exact ⟨_, rfl, hQ _ (Or.inr (Or.inr ⟨fun h => by have := hc.mpr h.1; omega, fun h => hnd h.1, rfl⟩))⟩
      · by_cases h7 : e - q ≤ 7
        · simp (disch := omega) only [↓q_m1, q_lit, ↓q_bd, q_eq, hc0, ↓reduceIte, h1, Nat.reduceEqDiff, h13, q_le, h7]
          exact ⟨_, rfl, hQ _ (Or.inl ⟨hc.mp (by omega), h7, rfl⟩)⟩
        · simp (disch := omega) only [↓q_m1, q_lit, ↓q_bd, q_eq, hc0, ↓reduceIte, h1, Nat.reduceEqDiff, h13, q_le, h7]
          exact ⟨_, rfl, hQ _ (Or.inr (Or.inr ⟨fun h => h7 h.2, fun h => hnd h.1, rfl⟩))⟩
    · have hc := hcd h2
      have hnl : ¬ allL T q (e - q) := fun h => h2 (hL0 h)
      by_cases hc0 : c = 0
      · simp (disch := omega) only [↓q_m1, q_lit, ↓q_bd, q_eq, hc0, ↓reduceIte]
        exact ⟨_, rfl, hQ _ (Or.inr (Or.inr ⟨fun h => hnl h.1, fun h => by have := hc.mpr h.1; omega, rfl⟩))⟩
      · by_cases h3 : e - q ≤ 3
        · simp (disch := omega) only [↓q_m1, q_lit, ↓q_bd, q_eq, hc0, ↓reduceIte, h1, Nat.reduceEqDiff, h13, q_le, h3]
          exact ⟨_, rfl, hQ _ (Or.inr (Or.inl ⟨hc.mp (by omega), by omega, h3, rfl⟩))⟩
        · simp (disch := omega) only [↓q_m1, q_lit, ↓q_bd, q_eq, hc0, ↓reduceIte, h1, Nat.reduceEqDiff, h13, q_le, h3]
          exact ⟨_, rfl, hQ _ (Or.inr (Or.inr ⟨fun h => hnl h.1, fun h => h3 h.2.2, rfl⟩))⟩
  · refine ⟨1, by omega, rfl, fun _ => ⟨fun _ i hi => absurd hi (Nat.not_lt_zero i), fun _ => rfl⟩, fun _ => ⟨fun _ i hi => absurd hi (Nat.not_lt_zero i), fun _ => rfl⟩, h13, h4, fun _ => ?_, fun _ => rfl, fun k k1 k2 k3 => ?_, fun b hb => ?_, fun b hb => ?_, fun k hk => ?_⟩
    · show (0 : Int64) = lN 0
      rw [q_litL]
    · show (kI (kL M 0 17 0) 0 14 0).1 0 k = _
      rw [q_kI, if_pos rfl, q_up, if_neg k3]; rfl
    · show (kI (kL M 0 17 0) 0 14 0).1 b = _
      rw [q_kI, if_neg hb]; rfl
    · show (kL M 0 17 0).2 b = _
      rw [q_kL, if_neg hb]
    · show (kL M 0 17 0).2 0 k = _
      rw [q_kL, if_pos rfl, q_upL, if_neg hk]
