/-! machine-free: TOKENS: steps -/
theorem gd_b {c : Nat} (h : c ≤ 1) : ¬ ¬ (nI c = nI 0 ∨ nI c = nI 1) := by
  intro h9
  apply h9
  rcases Nat.lt_or_ge c 1 with h | h
  · left; congr 1; omega
  · right; congr 1; omega
def ST (n L p0 : Nat) (T : Nat → Int32) (R M : kD) (C D : Option (Int32 × kD)) : Prop := ∃ c R' M', c ≤ 1 ∧ C = some (nI c, R') ∧ D = some (nI c, M') ∧ MRr R R' ∧ MXr M M' ∧ ((c = 0 ∧ ∃ e a, BD e a R' M') ∨ (c = 1 ∧ ∃ l k v p a, TK n L T l k v p a R' M' ∧ (k ≤ 3 → p0 ≤ p)))
/-- names of both sides in their places -/
def NR (cnt base : Nat) (A B : Nat → Int64) : Prop := ∀ i, i < cnt → ∃ m, NM m (A i) (B (base + i))
theorem q_seek {cnt nA base : Nat} {A : Nat → Int64} {M : kD} {l : List Nat} {x : Int64} (hcn : cnt ≤ nA) (hn : nA ≤ 8) (hb : base + cnt ≤ 28) (hN : NR cnt base A (M.2 9)) (hl : NM l x (M.2 0 17)) :
    ∃ r, f_X11_placeOf x (nI cnt) nA A = some r ∧ f_X12_seek (nI base) (nI cnt) M = some r ∧ (r = mI ∨ ∃ i, i < cnt ∧ r = nI i) := by
  unfold f_X11_placeOf f_X12_seek
  refine q_one (fun f i (_ : Unit) => ((lp (fun _ _ _ => none) (g_X11_placeOf_3 nA A) f x (nI cnt) (nI i) : Option Int32), (lp (fun _ _ _ => none) (g_X12_seek_2 M) f (nI base) (nI cnt) (nI i) : Option Int32))) (fun _ _ => True) (fun r => ∃ y, r.1 = some y ∧ r.2 = some y ∧ (y = mI ∨ ∃ i, i < cnt ∧ y = nI i)) cnt ?_ ?_ (cnt - 0) 0 2000 () (by omega) (by omega) trivial
  · intro f i _ _ hi _ ih
    simp only [q_lp]
    generalize lp _ (g_X11_placeOf_3 nA A) f = rc at ih ⊢
    generalize lp _ (g_X12_seek_2 M) f = rd at ih ⊢
    obtain ⟨m, hm⟩ := hN i hi
    have e1 : (A i = x) = (m = l) := NM_eqC hm hl
    have e2 : (M.2 9 (base + i) = M.2 0 17) = (m = l) := NM_eqM hm hl
    unfold g_X11_placeOf_3 g_X12_seek_2
    simp (disch := omega) only [↓q_m1, q_lit, ↓q_bd, q_of, q_le, show ¬ cnt ≤ i by omega, show ¬ nA ≤ i by omega, ↓reduceIte, q_lt, Nat.not_lt_zero, false_or, q_cl, nI_add, show ¬ 28 ≤ base + i by omega, l_cmp0, e1, e2]
    by_cases he : m = l
    · rw [if_pos he, if_pos he]
      exact ⟨nI i, rfl, rfl, Or.inr ⟨i, hi, rfl⟩⟩
    · rw [if_neg he, if_neg he]
      exact ih () trivial
  · intro f _ _
    simp only [q_lp]
    generalize lp _ (g_X11_placeOf_3 nA A) f = rc
    generalize lp _ (g_X12_seek_2 M) f = rd
    unfold g_X11_placeOf_3 g_X12_seek_2
    simp (disch := omega) only [↓q_m1, q_lit, q_le, show cnt ≤ cnt by omega, ↓reduceIte]
    exact ⟨mI, rfl, rfl, Or.inl rfl⟩
section tk
variable {n L : Nat} {T : Nat → Int32} {l : List Nat} {k v p a : Nat} {R M : kD}
theorem TK_NM (h : TK n L T l k v p a R M) (hk : k = 1) : NM l (R.2 0 7) (M.2 0 17) := by
  obtain ⟨_, _, _, _, _, _, _, _, _, _, aK⟩ := h
  rcases aK with ⟨k0, _⟩ | ⟨_, _, _, k3⟩ | ⟨k0, _⟩ | ⟨k0, _⟩ | ⟨k0, _⟩
  · omega
  · exact k3
  · omega
  · omega
  · omega
theorem q_needed (h : TK n L T l k v p a R M) (hW : WT M) {cnt nA base : Nat} {A : Nat → Int64} (hcn : cnt ≤ nA) (hn : nA ≤ 8) (hb : base + cnt ≤ 28) (hN : NR cnt base A (M.2 9)) :
    (∃ e R' M', f_X4_neededOf (nI cnt) nA 940 R A T = some (mI, R') ∧ f_X12_looksAt (nI base) (nI cnt) M = some (nI 0, M') ∧ BD e a R' M' ∧ MRr R R' ∧ MXr M M') ∨
    (k = 1 ∧ ∃ i, i < cnt ∧ f_X4_neededOf (nI cnt) nA 940 R A T = some (nI i, R) ∧ f_X12_looksAt (nI base) (nI cnt) M = some (nI 1, kI M 0 18 (nI i))) := by
  obtain ⟨c, hc1, hs, hm, hck⟩ := q_isNm h hW
  unfold f_X4_neededOf f_X12_looksAt
  rw [q_lit, hs, hm]
  simp only [↓q_m1, q_lit, ↓q_bo]
  by_cases hc : c = 0
  · obtain ⟨R', M', h1, h2, h3, h4, h5⟩ := q_bad h 1 (by omega) (by omega)
    rw [hc, if_pos rfl, if_pos rfl, h1, h2]
    simp only [↓q_bo2, true_or, not_true_eq_false, ↓reduceIte]
    exact Or.inl ⟨1, R', M', rfl, rfl, h3, h4, h5⟩
  · obtain ⟨hk, hwi⟩ := hck.mp (by omega)
    have hc1 : c = 1 := by omega
    obtain ⟨r, r1, r2, r3⟩ := q_seek hcn hn hb hN (TK_NM h hk)
    rw [hc1, if_neg (by decide), if_neg (by decide), r1, r2]
    simp only [↓q_bo, ↓q_bd]
    rcases r3 with r3 | ⟨i, hi, r3⟩
    · obtain ⟨R', M', h1, h2, h3, h4, h5⟩ := q_bad (TK_18 h r) 3 (by omega) (by omega)
      refine Or.inl ⟨3, R', M', ?_, ?_, h3, h4, MXr_t (MXr_18 M r) h5⟩
      · rw [if_pos r3, h1, r3]
        simp only [↓q_bo2]
      · rw [show (kI M 0 18 r).1 0 18 = r from rfl, h2]
        rw [if_neg (show ¬ nI 0 ≤ r by rw [r3]; decide)]
        simp only [↓q_bo2, ↓reduceIte]
    · refine Or.inr ⟨hk, i, hi, ?_, ?_⟩
      · rw [r3, if_neg (by rw [q_neg i (by omega)]; exact id)]
      · rw [show (kI M 0 18 r).1 0 18 = r from rfl, r3, if_pos (by rw [nI_leI (by omega) (by omega)]; omega)]
theorem q_number (h : TK n L T l k v p a R M) {lo hi : Nat} (hlo : lo < 1000) (hhi : hi < 1000) :
    (∃ e R' M', f_X4_needsNumber (nI lo) (nI hi) 940 R T = some (nI 0, R') ∧ f_X12_takes (nI lo) (nI hi) M = some (nI 0, M') ∧ BD e a R' M' ∧ MRr R R' ∧ MXr M M') ∨
    (k = 2 ∧ lo ≤ v ∧ v ≤ hi ∧ R.1 0 8 = nI v ∧ f_X4_needsNumber (nI lo) (nI hi) 940 R T = some (nI 1, R) ∧ f_X12_takes (nI lo) (nI hi) M = bo (f_X12_next (kI M 0 18 (nI v))) fun M2 => some (nI 1, M2)) := by
  have hTK := h
  obtain ⟨a0, a1, a2, a3, a4, a5, a6, a7, a8, a9, aK⟩ := h
  have ho : ¬ R.1 0 4 = nI 3 → ¬ M.1 0 11 = nI 2 → ∃ e R' M', f_X4_needsNumber (nI lo) (nI hi) 940 R T = some (nI 0, R') ∧ f_X12_takes (nI lo) (nI hi) M = some (nI 0, M') ∧ BD e a R' M' ∧ MRr R R' ∧ MXr M M' := by
    intro g1 g2
    obtain ⟨R', M', h1, h2, h3, h4, h5⟩ := q_bad hTK 1 (by omega) (by omega)
    refine ⟨1, R', M', ?_, ?_, h3, h4, h5⟩
    · unfold f_X4_needsNumber
      simp only [↓q_m1, q_lit]
      rw [if_neg g1, h1]
      simp only [↓q_bo2, true_or, not_true_eq_false, ↓reduceIte]
    · unfold f_X12_takes
      simp only [↓q_m1, q_lit]
      rw [if_neg g2, h2]
      simp only [↓q_bo2, true_or, not_true_eq_false, ↓reduceIte]
  rcases aK with ⟨k0, k1, k2⟩ | ⟨k0, k1, k2, _⟩ | ⟨k0, k1, k2, k3, k4, k5⟩ | ⟨k0, k1, k2, _⟩ | ⟨k0, k1, k2⟩
  · exact Or.inl (ho (by rw [k1]; decide) (by rw [k2]; decide))
  · exact Or.inl (ho (by rw [k1]; decide) (by rw [k2]; decide))
  · have hin : f_X12_isIn (nI v) (nI lo) (nI hi) = if v < lo ∨ hi < v then nI 0 else nI 1 := by
      unfold f_X12_isIn
      simp (disch := omega) only [q_lit, q_lt]
      by_cases b1 : v < lo
      · rw [if_pos b1, if_pos (Or.inl b1)]
      · rw [if_neg b1]
        by_cases b2 : hi < v
        · rw [if_pos b2, if_pos (Or.inr b2)]
        · rw [if_neg b2, if_neg (by omega)]
    by_cases hv : v < lo ∨ hi < v
    · obtain ⟨R', M', h1, h2, h3, h4, h5⟩ := q_bad hTK 2 (by omega) (by omega)
      refine Or.inl ⟨2, R', M', ?_, ?_, h3, h4, h5⟩
      · unfold f_X4_needsNumber g_X4_needsNumber_30
        simp (disch := omega) only [↓q_m1, q_lit, k1, ↓reduceIte, k3, q_lt, q_le, h1, ↓q_bo2]
        by_cases b1 : v < lo
        · rw [if_pos b1]
        · rw [if_neg b1, if_neg (by omega)]
      · unfold f_X12_takes
        simp only [↓q_m1, q_lit]
        rw [if_pos k2, k4, hin, if_pos hv, if_pos rfl, h2]
        simp only [↓q_bo2, true_or, not_true_eq_false, ↓reduceIte]
    · refine Or.inr ⟨k0, by omega, by omega, k3, ?_, ?_⟩
      · unfold f_X4_needsNumber g_X4_needsNumber_30
        simp (disch := omega) only [↓q_m1, q_lit, k1, ↓reduceIte, k3, q_lt, q_le, show ¬ v < lo by omega, show v ≤ hi by omega]
      · unfold f_X12_takes
        simp only [↓q_m1, q_lit]
        rw [if_pos k2, k4, hin, if_neg hv, if_neg (by decide)]
        simp only [↓q_bd]
  · exact Or.inl (ho (by rw [k1]; decide) (by rw [k2]; decide))
  · refine Or.inl (ho ?_ (by rw [k2]; decide))
    rcases k1 with k1 | ⟨k1, _⟩
    · rw [k1]; decide
    · rw [k1]; decide
theorem q_sign (h : TK n L T l k v p a R M) (hL : L < 2 ^ 31) {s : Nat} (hs : s = 59 ∨ s = 40 ∨ s = 41 ∨ s = 60 ∨ s = 61 ∨ s = 62) : ST n L p T R M (f_X4_passSign (nI s) 940 R T) (f_X12_sign (nI s) M) := by
  obtain ⟨c, hc1, h1, h2, h3⟩ := q_isSn h hs
  unfold f_X4_passSign f_X12_sign
  rw [h1, h2]
  simp only [↓q_m1, q_lit]
  by_cases hc : c = 0
  · obtain ⟨R', M', g1, g2, g3, g4, g5⟩ := q_bad h 1 (by omega) (by omega)
    rw [hc, if_pos rfl, if_pos rfl, g1, g2]
    simp only [↓q_bo2, true_or, not_true_eq_false, ↓reduceIte]
    exact ⟨0, R', M', by omega, rfl, rfl, g4, g5, Or.inl ⟨rfl, 1, a, g3⟩⟩
  · obtain ⟨hk, hv⟩ := h3.mp (by omega)
    rw [show c = 1 by omega, if_neg (by decide), if_neg (by decide)]
    obtain ⟨R', M', l', k', v', p', a', c1, c2, c3, c4, c5, c6⟩ := TK_nx h hL (by omega)
    rw [c1, c2]
    simp only [↓q_bo]
    refine ⟨1, R', M', by omega, rfl, rfl, c6, c5, Or.inr ⟨rfl, l', k', v', p', a', c3, c4.1⟩⟩
end tk
