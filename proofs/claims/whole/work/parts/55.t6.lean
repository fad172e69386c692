/-! machine-free: TOKENS: what is asked of the next one -/
def WT (M : kD) : Prop := (∀ i, i < 21 → ∃ w, 1 ≤ w ∧ w < 22 ∧ M.2 10 i = lN (encR (wB w))) ∧ ∀ w, 1 ≤ w → w < 22 → ∃ i, i < 21 ∧ M.2 10 i = lN (encR (wB w))
theorem wB_ok : ∀ w, w < 22 → 1 ≤ w → (1 ≤ (wB w).length ∧ (wB w).length ≤ 7 ∧ ∀ c ∈ wB w, 97 ≤ c ∧ c ≤ 122) := by decide +kernel
theorem wB_NM {w : Nat} (h1 : 1 ≤ w) (h : w < 22) : NM (wB w) (lN (encR (wB w) * 256 ^ (7 - (wB w).length))) (lN (encR (wB w))) := ⟨wB_ok w h h1, rfl, rfl⟩
def BD (e a : Nat) (R M : kD) : Prop := 1 ≤ e ∧ e ≤ 4 ∧ a ≤ 940 ∧ R.1 0 9 = nI e ∧ R.1 0 10 = nI a ∧ M.1 0 15 = nI e ∧ M.1 0 16 = nI a
def MXr (M M' : kD) : Prop := (∀ k, k ≠ 4 → k ≠ 11 → k ≠ 12 → k ≠ 13 → k ≠ 14 → k ≠ 15 → k ≠ 16 → k ≠ 18 → M'.1 0 k = M.1 0 k) ∧ (∀ b, b ≠ 0 → M'.1 b = M.1 b) ∧ (∀ b, b ≠ 0 → M'.2 b = M.2 b) ∧ (∀ k, k ≠ 17 → M'.2 0 k = M.2 0 k)
def MRr (R R' : kD) : Prop := ∀ k, k ≠ 3 → k ≠ 4 → k ≠ 5 → k ≠ 6 → k ≠ 8 → k ≠ 9 → k ≠ 10 → R'.1 0 k = R.1 0 k
theorem MXr_of {M M' : kD} (h : MXn M M') : MXr M M' := ⟨fun k k1 k2 k3 k4 k5 _ _ _ => h.1 k k1 k2 k3 k4 k5, h.2.1, h.2.2.1, h.2.2.2⟩
theorem MXr_r (M : kD) : MXr M M := ⟨fun _ _ _ _ _ _ _ _ _ => rfl, fun _ _ => rfl, fun _ _ => rfl, fun _ _ => rfl⟩
theorem MXr_t {A B C : kD} (h : MXr A B) (g : MXr B C) : MXr A C := ⟨fun k k1 k2 k3 k4 k5 k6 k7 k8 => (g.1 k k1 k2 k3 k4 k5 k6 k7 k8).trans (h.1 k k1 k2 k3 k4 k5 k6 k7 k8), fun b hb => (g.2.1 b hb).trans (h.2.1 b hb), fun b hb => (g.2.2.1 b hb).trans (h.2.2.1 b hb), fun k hk => (g.2.2.2 k hk).trans (h.2.2.2 k hk)⟩
theorem MRr_of {R R' : kD} (h : MRn R R') : MRr R R' := fun k k1 k2 k3 k4 k5 _ _ => h k k1 k2 k3 k4 k5
theorem MRr_r (R : kD) : MRr R R := fun _ _ _ _ _ _ _ _ => rfl
theorem MRr_t {A B C : kD} (h : MRr A B) (g : MRr B C) : MRr A C := fun k k1 k2 k3 k4 k5 k6 k7 => (g k k1 k2 k3 k4 k5 k6 k7).trans (h k k1 k2 k3 k4 k5 k6 k7)
theorem WT_f {M M' : kD} (h : WT M) (g : MXr M M') : WT M' := by
  unfold WT
  rw [g.2.2.1 10 (by omega)]
  exact h
theorem MXr_18 (M : kD) (v : Int32) : MXr M (kI M 0 18 v) := by
  refine ⟨fun k k1 k2 k3 k4 k5 k6 k7 k8 => ?_, fun b hb => ?_, fun _ _ => rfl, fun _ _ => rfl⟩
  · rw [q_kI, if_pos rfl, q_up, if_neg k8]
  · rw [q_kI, if_neg hb]
theorem MXr_bad (M : kD) (v w : Int32) : MXr M (kI (kI M 0 15 v) 0 16 w) := by
  refine ⟨fun k k1 k2 k3 k4 k5 k6 k7 k8 => ?_, fun b hb => ?_, fun _ _ => rfl, fun _ _ => rfl⟩
  · rw [q_kI, if_pos rfl, q_up, if_neg k7, q_kI, if_pos rfl, q_up, if_neg k6]
  · rw [q_kI, if_neg hb, q_kI, if_neg hb]
theorem MRr_bad (R : kD) (v w : Int32) : MRr R (kI (kI R 0 9 v) 0 10 w) := by
  intro k k1 k2 k3 k4 k5 k6 k7
  rw [q_kI, if_pos rfl, q_up, if_neg k7, q_kI, if_pos rfl, q_up, if_neg k6]
section tk
variable {n L : Nat} {T : Nat → Int32} {l : List Nat} {k v p a : Nat} {R M : kD}
theorem q_bad (h : TK n L T l k v p a R M) (e : Nat) (he1 : 1 ≤ e) (he4 : e ≤ 4) : ∃ R' M', f_X4_refuse (nI e) 940 R T = some (nI 0, R') ∧ f_X12_bad (nI e) M = some (nI 0, M') ∧ BD e a R' M' ∧ MRr R R' ∧ MXr M M' := by
  obtain ⟨a0, a1, a2, a3, a4, a5, a6, a7, _⟩ := h
  have hn := a4.1
  refine ⟨kI (kI R 0 9 (nI e)) 0 10 (nI a), kI (kI M 0 15 (nI e)) 0 16 (nI a), ?_, ?_, ⟨he1, he4, by omega, rfl, rfl, rfl, rfl⟩, MRr_bad R _ _, MXr_bad M _ _⟩
  · unfold f_X4_refuse
    simp only [↓q_m1, q_lit, ↓q_bd, show (kI R 0 9 (nI e)).1 0 5 = nI a from a6]
  · unfold f_X12_bad
    simp only [↓q_m1, q_lit, ↓q_bd, show (kI M 0 15 (nI e)).1 0 12 = nI a from a7]
theorem TK_18 (h : TK n L T l k v p a R M) (x : Int32) : TK n L T l k v p a R (kI M 0 18 x) := by
  obtain ⟨a0, a1, a2, a3, a4, a5, a6, a7, a8, a9, aK⟩ := h
  exact ⟨a0, a1, a2, a3, RZ_f a4 rfl rfl, a5, a6, a7, a8, a9, aK⟩
theorem TK_nx (h : TK n L T l k v p a R M) (hL : L < 2 ^ 31) (hk : k ≤ 3) : ∃ R' M' l' k' v' p' a', f_X4_advance 940 R T = some R' ∧ f_X12_next M = some M' ∧ TK n L T l' k' v' p' a' R' M' ∧ ((k' ≤ 3 → p ≤ p') ∧ (1 ≤ k' → k' ≤ 3 → p < p')) ∧ MXr M M' ∧ MRr R R' := by
  obtain ⟨a0, a1, a2, a3, a4, a5, a6, a7, a8, a9, aK⟩ := h
  obtain ⟨b1, b2, b3⟩ := a8 hk
  obtain ⟨R', M', l', k', v', p', a', c1, c2, c3, c4, c5, c6⟩ := q_next a4 hL a0 a1 a2 a3 b2 b3 b1
  exact ⟨R', M', l', k', v', p', a', c1, c2, c3, c4, MXr_of c5, MRr_of c6⟩
/-- the end -/
theorem q_isEnd (h : TK n L T l k v p a R M) : (k = 0 ∧ f_X4_seesEnd 940 R T = nI 1 ∧ M.1 0 11 = nI 0) ∨ (k ≠ 0 ∧ f_X4_seesEnd 940 R T = nI 0 ∧ ¬ M.1 0 11 = nI 0) := by
  obtain ⟨a0, a1, a2, a3, a4, a5, a6, a7, a8, a9, aK⟩ := h
  unfold f_X4_seesEnd
  simp only [q_lit]
  rcases aK with ⟨k0, k1, k2⟩ | ⟨k0, k1, k2, _⟩ | ⟨k0, k1, k2, _⟩ | ⟨k0, k1, k2, _⟩ | ⟨k0, k1, k2⟩
  · exact Or.inl ⟨k0, by rw [k1, if_pos rfl], k2⟩
  · exact Or.inr ⟨by omega, by rw [k1, if_neg (by decide)], by rw [k2]; decide⟩
  · exact Or.inr ⟨by omega, by rw [k1, if_neg (by decide)], by rw [k2]; decide⟩
  · exact Or.inr ⟨by omega, by rw [k1, if_neg (by decide)], by rw [k2]; decide⟩
  · refine Or.inr ⟨by omega, ?_, by rw [k2]; decide⟩
    rcases k1 with k1 | ⟨k1, _⟩
    · rw [k1, if_neg (by decide)]
    · rw [k1, if_neg (by decide)]
/-- a given word -/
theorem q_isW (h : TK n L T l k v p a R M) {w N : Nat} (h1 : 1 ≤ w) (hw : w < 22) (hN : encR (wB w) = N) : ∃ c, c ≤ 1 ∧ f_X4_seesWord (nI w) 940 R T = some (nI c) ∧ f_X12_isWord (lN N) M = nI c ∧ (c = 1 ↔ k = 1 ∧ l = wB w) := by
  obtain ⟨a0, a1, a2, a3, a4, a5, a6, a7, a8, a9, aK⟩ := h
  have hwi := wordIx_lt l
  have ho : ¬ k = 1 → ¬ R.1 0 4 = nI 2 → ¬ M.1 0 11 = nI 1 → ∃ c, c ≤ 1 ∧ f_X4_seesWord (nI w) 940 R T = some (nI c) ∧ f_X12_isWord (lN N) M = nI c ∧ (c = 1 ↔ k = 1 ∧ l = wB w) := by
    intro g1 g2 g3
    refine ⟨0, by omega, ?_, ?_, ⟨fun h => absurd h (by omega), fun h => absurd h.1 g1⟩⟩
    · unfold f_X4_seesWord
      simp only [q_lit]
      rw [if_neg g2]
    · unfold f_X12_isWord
      simp only [q_lit]
      rw [if_neg g3]
  rcases aK with ⟨k0, k1, k2⟩ | ⟨k0, k1, k2, k3⟩ | ⟨k0, k1, k2, _⟩ | ⟨k0, k1, k2, _⟩ | ⟨k0, k1, k2⟩
  · exact ho (by omega) (by rw [k1]; decide) (by rw [k2]; decide)
  · rw [if_pos k0] at a9
    have hq : (M.2 0 17 = lN N) = (l = wB w) := by
      rw [← hN]; exact NM_eqM k3 (wB_NM h1 hw)
    have hs : f_X4_seesWord (nI w) 940 R T = if wordIx l = w then some (nI 1) else some (nI 0) := by
      unfold f_X4_seesWord
      simp (disch := omega) only [↓q_m1, q_lit, k1, ↓reduceIte, a9, q_lt, Nat.not_lt_zero, false_or, q_cl, show ¬ 22 ≤ wordIx l by omega, show ¬ 22 ≤ w by omega, q_eq]
    have hm : f_X12_isWord (lN N) M = if l = wB w then nI 1 else nI 0 := by
      unfold f_X12_isWord
      simp only [q_lit, l_cmp0, hq]
      rw [if_pos k2]
    rw [hs, hm]
    by_cases hl : l = wB w
    · rw [if_pos ((wordIx_eq h1 hw).mpr hl), if_pos hl]
      exact ⟨1, by omega, rfl, rfl, fun _ => ⟨k0, hl⟩, fun _ => rfl⟩
    · rw [if_neg (fun h9 => hl ((wordIx_eq h1 hw).mp h9)), if_neg hl]
      exact ⟨0, by omega, rfl, rfl, fun h9 => absurd h9 (by omega), fun h9 => absurd h9.2 hl⟩
  · exact ho (by omega) (by rw [k1]; decide) (by rw [k2]; decide)
  · exact ho (by omega) (by rw [k1]; decide) (by rw [k2]; decide)
  · refine ho (by omega) ?_ (by rw [k2]; decide)
    rcases k1 with k1 | ⟨k1, _⟩
    · rw [k1]; decide
    · rw [k1]; decide
/-- a name: a word that is none of the 21 -/
theorem q_isNm (h : TK n L T l k v p a R M) (hW : WT M) : ∃ c, c ≤ 1 ∧ f_X4_seesWord (nI 0) 940 R T = some (nI c) ∧ f_X12_isName M = some (nI c) ∧ (c = 1 ↔ k = 1 ∧ wordIx l = 0) := by
  obtain ⟨a0, a1, a2, a3, a4, a5, a6, a7, a8, a9, aK⟩ := h
  have hwi := wordIx_lt l
  -- the loop of the reference
  have hlp : ∀ c0 : Nat, c0 ≤ 1 → (c0 = 1 → NM l (R.2 0 7) (M.2 0 17)) → ∃ c, c ≤ 1 ∧ g_X12_isName_13 M (nI c0) = some (nI c) ∧ (c = 1 ↔ c0 = 1 ∧ wordIx l = 0) := by
    intro c0 hc0 hNM
    unfold g_X12_isName_13
    simp only [q_lit]
    refine q_one (fun f i (c : Nat) => lp (fun _ _ => none) (g_X12_isName_16 M) f (nI c) (nI i)) (fun i c => c ≤ 1 ∧ (c = 1 ↔ c0 = 1 ∧ ∀ j, j < i → ¬ M.2 0 17 = M.2 10 j)) (fun r => ∃ c, c ≤ 1 ∧ r = some (nI c) ∧ (c = 1 ↔ c0 = 1 ∧ wordIx l = 0)) 21 ?_ ?_ (21 - 0) 0 2000 c0 (by omega) (by omega) ⟨hc0, fun h => ⟨h, fun j hj => absurd hj (Nat.not_lt_zero j)⟩, fun h => h.1⟩
    · intro f i c _ hi ⟨hc1, hc⟩ ih
      simp only [q_lp]
      generalize lp _ (g_X12_isName_16 M) f = rc at ih ⊢
      have h45 : ∀ d : Nat, g_X12_isName_45 rc M (nI i) (nI d) = rc (nI d) (nI (i + 1)) := by
        intro d
        unfold g_X12_isName_45
        simp only [q_lit, ↓q_bd, nI_add]
      unfold g_X12_isName_16 g_X12_isName_44
      simp (disch := omega) only [↓q_m1, q_lit, q_le, show ¬ 21 ≤ i by omega, ↓reduceIte, q_eq, q_lt, Nat.not_lt_zero, false_or, q_cl, l_cmp0, h45]
      by_cases hz : c = 0
      · rw [if_pos hz]
        exact ih 0 ⟨by omega, fun h => absurd h (by omega), fun h => by
          have := hc.mpr ⟨h.1, fun j hj => h.2 j (by omega)⟩
          omega⟩
      · rw [if_neg hz]
        obtain ⟨d1, d2⟩ := hc.mp (by omega)
        by_cases he : M.2 0 17 = M.2 10 i
        · rw [if_pos he]
          exact ih 0 ⟨by omega, fun h => absurd h (by omega), fun h => absurd he (h.2 i (by omega))⟩
        · rw [if_neg he]
          refine ih 1 ⟨by omega, fun _ => ⟨d1, fun j hj => ?_⟩, fun _ => rfl⟩
          by_cases hji : j = i
          · subst hji; exact he
          · exact d2 j (by omega)
    · intro f c ⟨hc1, hc⟩
      simp only [q_lp]
      generalize lp _ (g_X12_isName_16 M) f = rc
      unfold g_X12_isName_16
      simp (disch := omega) only [↓q_m1, q_lit, q_le, show 21 ≤ 21 by omega, ↓reduceIte, q_eq, show c = 0 ∨ c = 1 by omega, not_true_eq_false]
      refine ⟨c, hc1, rfl, ?_⟩
      constructor
      · intro h
        obtain ⟨d1, d2⟩ := hc.mp h
        refine ⟨d1, ?_⟩
        refine Classical.byContradiction fun hne => ?_
        have hl := (wordIx_eq (l := l) (w := wordIx l) (by omega) hwi).mp rfl
        obtain ⟨i, hi, hii⟩ := hW.2 (wordIx l) (by omega) hwi
        exact d2 i hi (by rw [hii, ← hl]; exact (hNM d1).2.2)
      · intro ⟨d1, d2⟩
        refine hc.mpr ⟨d1, fun j hj he => ?_⟩
        obtain ⟨w, w1, w2, w3⟩ := hW.1 j hj
        rw [w3, NM_eqM (hNM d1) (wB_NM w1 w2)] at he
        have := (wordIx_eq w1 w2).mpr he
        omega
  have ho : ¬ k = 1 → ¬ R.1 0 4 = nI 2 → ¬ M.1 0 11 = nI 1 → ∃ c, c ≤ 1 ∧ f_X4_seesWord (nI 0) 940 R T = some (nI c) ∧ f_X12_isName M = some (nI c) ∧ (c = 1 ↔ k = 1 ∧ wordIx l = 0) := by
    intro g1 g2 g3
    obtain ⟨c, c1, c2, c3⟩ := hlp 0 (by omega) (fun h => absurd h (by omega))
    have hc0 : c = 0 := by
      refine Classical.byContradiction fun h => ?_
      have := (c3.mp (by omega)).1
      omega
    refine ⟨0, by omega, ?_, ?_, ⟨fun h => absurd h (by omega), fun h => absurd h.1 g1⟩⟩
    · unfold f_X4_seesWord
      simp only [q_lit]
      rw [if_neg g2]
    · unfold f_X12_isName
      simp only [q_lit]
      rw [if_neg g3, c2, hc0]
  rcases aK with ⟨k0, k1, k2⟩ | ⟨k0, k1, k2, k3⟩ | ⟨k0, k1, k2, _⟩ | ⟨k0, k1, k2, _⟩ | ⟨k0, k1, k2⟩
  · exact ho (by omega) (by rw [k1]; decide) (by rw [k2]; decide)
  · rw [if_pos k0] at a9
    obtain ⟨c, c1, c2, c3⟩ := hlp 1 (by omega) (fun _ => k3)
    refine ⟨c, c1, ?_, ?_, ?_⟩
    · unfold f_X4_seesWord
      simp (disch := omega) only [↓q_m1, q_lit, k1, ↓reduceIte, a9, q_lt, Nat.not_lt_zero, false_or, q_cl, show ¬ 22 ≤ wordIx l by omega, show ¬ 22 ≤ 0 by omega, q_eq]
      by_cases hw0 : wordIx l = 0
      · rw [if_pos hw0, c3.mpr ⟨rfl, hw0⟩]
      · rw [if_neg hw0]
        have : c = 0 := by
          refine Classical.byContradiction fun h => ?_
          exact hw0 (c3.mp (by omega)).2
        rw [this]
    · unfold f_X12_isName
      simp only [q_lit]
      rw [if_pos k2, c2]
    · rw [c3]; exact ⟨fun h => ⟨k0, h.2⟩, fun h => ⟨rfl, h.2⟩⟩
  · exact ho (by omega) (by rw [k1]; decide) (by rw [k2]; decide)
  · exact ho (by omega) (by rw [k1]; decide) (by rw [k2]; decide)
  · refine ho (by omega) ?_ (by rw [k2]; decide)
    rcases k1 with k1 | ⟨k1, _⟩
    · rw [k1]; decide
    · rw [k1]; decide
/-- a sign -/
theorem q_isSn (h : TK n L T l k v p a R M) {s : Nat} (hs : s = 59 ∨ s = 40 ∨ s = 41 ∨ s = 60 ∨ s = 61 ∨ s = 62) : ∃ c, c ≤ 1 ∧ f_X4_seesSign (nI s) 940 R T = nI c ∧ f_X12_isSign (nI s) M = nI c ∧ (c = 1 ↔ k = 3 ∧ v = s) := by
  obtain ⟨a0, a1, a2, a3, a4, a5, a6, a7, a8, a9, aK⟩ := h
  have ho : ¬ k = 3 → (¬ R.1 0 4 = nI 4 ∨ R.1 0 8 = nI 46) → ¬ M.1 0 11 = nI 3 → ∃ c, c ≤ 1 ∧ f_X4_seesSign (nI s) 940 R T = nI c ∧ f_X12_isSign (nI s) M = nI c ∧ (c = 1 ↔ k = 3 ∧ v = s) := by
    intro g1 g2 g3
    refine ⟨0, by omega, ?_, ?_, ⟨fun h => absurd h (by omega), fun h => absurd h.1 g1⟩⟩
    · unfold f_X4_seesSign
      simp only [q_lit]
      rcases g2 with g2 | g2
      · rw [if_neg g2]
      · rw [g2]
        simp (disch := omega) only [q_eq, show ¬ 46 = s by omega, ↓reduceIte, ite_self]
    · unfold f_X12_isSign
      simp only [q_lit]
      rw [if_neg g3]
  rcases aK with ⟨k0, k1, k2⟩ | ⟨k0, k1, k2, _⟩ | ⟨k0, k1, k2, _⟩ | ⟨k0, k1, k2, k3, k4, k5⟩ | ⟨k0, k1, k2⟩
  · exact ho (by omega) (Or.inl (by rw [k1]; decide)) (by rw [k2]; decide)
  · exact ho (by omega) (Or.inl (by rw [k1]; decide)) (by rw [k2]; decide)
  · exact ho (by omega) (Or.inl (by rw [k1]; decide)) (by rw [k2]; decide)
  · unfold isSg at k5
    unfold f_X4_seesSign f_X12_isSign
    simp (disch := omega) only [q_lit, k1, k2, k3, k4, ↓reduceIte, q_eq]
    by_cases hv : v = s
    · rw [if_pos hv]; exact ⟨1, by omega, rfl, rfl, fun _ => ⟨k0, hv⟩, fun _ => rfl⟩
    · rw [if_neg hv]; exact ⟨0, by omega, rfl, rfl, fun h => absurd h (by omega), fun h => absurd h.2 hv⟩
  · refine ho (by omega) ?_ (by rw [k2]; decide)
    rcases k1 with k1 | ⟨k1, k3⟩
    · exact Or.inl (by rw [k1]; decide)
    · exact Or.inr k3
end tk
