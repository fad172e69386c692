/-! machine-free: COMES AT; names' letters; FAINT, LOOK -/
theorem q_comesAt {P M : kD} (h : RC P M) (K : kD) (a : Int32) : ∃ v, f_X11_comesAt a K P = some v ∧ f_X12_comesAt a M = some (v, kI M 0 0 (nI 0)) := by
  obtain ⟨n, hn, h1, h2, h3, h4⟩ := h
  unfold f_X11_comesAt f_X12_comesAt
  simp only [↓q_m1, q_lit, ↓q_bd]
  have e25 : (kI M 0 0 (nI 0)).1 0 25 = M.1 0 25 := rfl
  have e24 : (kI M 0 0 (nI 0)).1 24 = M.1 24 := rfl
  rw [h1, e25, e24]
  by_cases hn0 : n = 0
  · rw [h2 hn0]
    subst hn0
    have hin : f_X12_isIn a (nI 0) (mI - nI 1) = nI 0 := by
      unfold f_X12_isIn
      simp only [↓q_m1, q_lit]
      rcases q_arg a with h9 | ⟨j, hj, rfl⟩
      · rw [if_pos h9]
      · rw [if_neg (by rw [q_lt hj (by omega)]; omega), if_pos ?_]
        rw [Int32.lt_iff_toInt_lt, nI_toInt hj]
        have : (mI - nI 1).toInt = -2 := rfl
        omega
    rw [hin, if_pos rfl]
    refine ⟨mI, ?_, rfl⟩
    rcases q_arg a with h9 | ⟨j, hj, rfl⟩
    · rw [if_pos h9]
    · rw [if_neg (by rw [q_lt hj (by omega)]; omega), if_pos (by rw [q_le (by omega) hj]; omega)]
  · rw [h3 hn0, q_sub (by omega)]
    rcases q_isIn 0 0 (n - 1) a (by omega) (by omega) with ⟨x, x1, x2, rfl, x3⟩ | ⟨x1, x3, x4⟩
    · rw [x3, if_neg n10]
      simp (disch := omega) only [q_lt, Nat.not_lt_zero, ↓reduceIte, q_le, show ¬ n ≤ x by omega, false_or, q_cl, show ¬ 48 ≤ x by omega]
      exact ⟨_, rfl, by rw [h4 x (by omega)]⟩
    · rw [x3, if_pos rfl]
      refine ⟨mI, ?_, rfl⟩
      rcases q_arg a with h9 | ⟨j, hj, rfl⟩
      · rw [if_pos h9]
      · rw [if_neg (by rw [q_lt hj (by omega)]; omega), if_pos ?_]
        rw [q_le (by omega) hj]
        by_cases h8 : n ≤ j
        · exact h8
        · exact absurd rfl (x1 j (by omega) (by omega))
theorem q_and255 (n : Nat) : nI n &&& nI 255 = nI (n % 256) := by
  rw [pk_and (nI n) (m := nI 255) 8 (by decide)]
  show nI ((n % 2 ^ 32) % 2 ^ 8) = _
  exact congrArg nI (by omega)
theorem p256 (k : Nat) : (2 : Nat) ^ (8 * k) = 256 ^ k := by rw [Nat.pow_mul]
theorem okL_d0 {l : List Nat} {i : Nat} (h : l.length ≤ i) : l.getD i 0 = 0 := by
  simp [List.getD, List.getElem?_eq_none h]
/-- the class's letter -/
theorem q_letC {l : List Nat} {a b : Int64} (h : NM l a b) {i : Nat} (hi : i ≤ 7) : f_X11_letterAt a (nI i) = nI (l.getD i 0) := by
  obtain ⟨hl, rfl, rfl⟩ := h
  have hlt := (okL_lt hl).1
  unfold f_X11_letterAt
  by_cases h7 : i = 7
  · subst h7
    simp (disch := omega) only [↓q_m1, q_lit, q_lt, Nat.not_lt_zero, ↓reduceIte, Nat.lt_irrefl]
    rw [okL_d0 hl.2.1]
  · simp (disch := omega) only [↓q_m1, q_lit, q_lt, Nat.not_lt_zero, ↓reduceIte, show i < 7 by omega, q_sub, pk_mul]
    rw [l_ushr (by omega) (by omega), lN_i, q_and255, p256, NM_dgC hl (by omega)]
/-- the reference's length -/
theorem q_longM {l : List Nat} {a b : Int64} (h : NM l a b) : f_X12_longOf b = some (nI l.length) := by
  obtain ⟨hl, rfl, rfl⟩ := h
  have hlt := (okL_lt hl).2
  have h1 := hl.1
  have h2 := hl.2.1
  unfold f_X12_longOf
  simp only [↓q_m1, q_lit]
  refine q_one (fun f k (x : Nat) => lp (fun _ _ _ => none) g_X12_longOf_4 f (lN (encR l)) (nI x) (nI (8 * k))) (fun k x => x = min k l.length) (fun r => r = some (nI l.length)) 8 ?_ ?_ 8 0 2000 0 (by omega) (by omega) (by omega)
  · intro f k x _ hk hx ih
    simp only [q_lp]
    generalize lp _ g_X12_longOf_4 f = rc at ih ⊢
    have hb : (lN (encR l) >>> ((nI (8 * k)).toInt64 &&& lN 63)) &&& lN 255 = lN (encR l / 256 ^ k % 256) := by
      have hle : encR l / 2 ^ (8 * k) ≤ encR l := Nat.div_le_self _ _
      rw [l_shr (by omega) (by omega), l_and (by omega), p256]
    have hz : (lN (encR l / 256 ^ k % 256) = lN 0) = (¬ k < l.length) := by
      have hm := Nat.mod_lt (encR l / 256 ^ k) (show 0 < 256 by omega)
      rw [propext (pk_lEQ (a := encR l / 256 ^ k % 256) (b := 0) (by omega) (by omega))]
      by_cases hkl : k < l.length
      · rw [encR_dg l (okL_c hl) k hkl]
        have := okL_nz hl (show l.length - 1 - k < l.length by omega)
        exact propext ⟨fun h9 => by omega, fun h9 => absurd hkl h9⟩
      · have : encR l / 256 ^ k = 0 := Nat.div_eq_of_lt (Nat.lt_of_lt_of_le (encR_lt l (okL_c hl)) (Nat.pow_le_pow_right (by omega) (by omega)))
        rw [this]
        exact propext ⟨fun _ => hkl, fun _ => rfl⟩
    unfold g_X12_longOf_4 g_X12_longOf_28
    simp (disch := omega) only [↓q_m1, q_lit, q_litL, ↓q_bd, q_le, show ¬ 64 ≤ 8 * k by omega, ↓reduceIte, hb, l_cmp0, hz, nI_add]
    by_cases hkl : k < l.length
    · rw [if_neg (fun h9 => h9 hkl)]
      exact ih (x + 1) (by omega)
    · rw [if_pos hkl]
      exact ih (x + 0) (by omega)
  · intro f x hx
    simp only [q_lp]
    generalize lp _ g_X12_longOf_4 f = rc
    unfold g_X12_longOf_4
    simp (disch := omega) only [↓q_m1, q_lit, q_le, Nat.reduceMul, Nat.le_refl, ↓reduceIte]
    rw [hx, Nat.min_eq_right (by omega)]
theorem q_letM {np p i : Nat} {A : Nat → Int64} {M : kD} {l : List Nat} (hp : np ≤ 8) (hpp : p < np) (h : NM l (A p) (M.2 9 (6 + p))) (hi : i < l.length) : f_X12_letterOf (nI p) (nI i) M = some (nI (l.getD i 0)) := by
  have hlg := q_longM h
  obtain ⟨hl, _, hb⟩ := h
  have hlt := (okL_lt hl).2
  have h2 := hl.2.1
  unfold f_X12_letterOf
  simp (disch := omega) only [↓q_m1, q_lit, q_litL, ↓q_bd, nI_add, q_lt, Nat.not_lt_zero, false_or, q_cl, show ¬ 28 ≤ 6 + p by omega, ↓reduceIte, hlg, ↓q_bo, q_sub, pk_mul]
  have hle : encR l / 2 ^ (8 * (l.length - 1 - i)) ≤ encR l := Nat.div_le_self _ _
  rw [hb, l_shr (by omega) (by omega), l_and (by omega), lN_i, p256, encR_dg l (okL_c hl) _ (by omega), show l.length - 1 - (l.length - 1 - i) = i by omega]
/-- a phrase fits the faint letters -/
theorem q_fits {n np p : Nat} {T : Nat → Int32} {K M : kD} {A : Nat → Int64} {l : List Nat} (hz : RZ n T M) (h1 : 1 ≤ n) (h7 : n ≤ 7) (hp : np ≤ 8) (hpp : p < np) (h : NM l (A p) (M.2 9 (6 + p))) :
    ∃ b, f_X11_fits (A p) (nI n) K T = some (q_b b) ∧ f_X12_isFaint (nI p) M = some (q_b b) ∧ (b = true → l.length = n) := by
  have hl := h.1
  have hn3 : M.1 0 3 = nI n := hz.2.1
  have hlg := q_longM h
  unfold f_X11_fits f_X12_isFaint g_X12_isFaint_24
  simp (disch := omega) only [↓q_m1, q_lit, ↓q_bd, q_sub, q_letC h, show n - 1 ≤ 7 by omega, h7, nI_add, q_lt, Nat.not_lt_zero, false_or, q_cl, show ¬ 28 ≤ 6 + p by omega, ↓reduceIte, hlg, ↓q_bo, hn3]
  have hlz : ∀ i, i < 8 → nI (l.getD i 0) = nI 0 → l.length ≤ i := by
    intro i hi h9
    by_cases h8 : i < l.length
    · have := okL_nz hl h8
      rw [q_eq (by omega) (by omega)] at h9
      omega
    · omega
  by_cases hlen : l.length = n
  · rw [if_neg (fun h9 => by have := hlz (n - 1) (by omega) h9; omega), if_pos (by rw [okL_d0 (by omega)]), if_pos (by rw [hlen])]
    have key := q_two (fun f k (_ : Unit) => lp (fun _ _ _ => none) (g_X11_fits_23 K T) f (A p) (nI n) (nI k)) (fun f k (_ : Unit) => lp (fun _ _ _ => none) (g_X12_isFaint_27 M) f (nI p) (nI 1) (nI k)) (fun _ _ _ => True) (fun r1 r2 => ∃ b, r1 = some (q_b b) ∧ r2 = some (q_b b)) n ?_ ?_ n 0 2000 2000 () () (by omega) (by omega) (by omega) trivial
    · obtain ⟨b, b1, b2⟩ := key
      exact ⟨b, b1, b2, fun _ => hlen⟩
    · intro f g k _ _ _ hg hk _ ih
      obtain ⟨t1, t2⟩ := q_tN hz (show k < 940 by omega)
      have ih := ih () () trivial
      have hzero : ∀ x, lp (fun _ _ _ => none) (g_X12_isFaint_27 M) g (nI p) (nI 0) x = some (nI 0) := by
        intro x
        obtain ⟨g, rfl⟩ : ∃ q, g = q + 1 := ⟨g - 1, by omega⟩
        simp only [q_lp]
        generalize lp _ (g_X12_isFaint_27 M) g = rd
        unfold g_X12_isFaint_27
        simp only [↓q_m1, q_lit, true_or, not_true_eq_false, ↓reduceIte, ite_self]
      simp only [q_lp]
      generalize lp _ (g_X11_fits_23 K T) f = rc at ih ⊢
      generalize lp _ (g_X12_isFaint_27 M) g = rd at ih hzero ⊢
      have hlm := q_letM (i := k) hp hpp h (by omega)
      unfold g_X11_fits_23 g_X11_fits_59 g_X12_isFaint_27 g_X12_isFaint_63 g_X12_isFaint_68
      simp (disch := omega) only [↓q_m1, q_lit, ↓q_bd, hn3, q_le, show ¬ n ≤ k by omega, ↓reduceIte, q_10, q_lt, Nat.not_lt_zero, false_or, q_cl, show ¬ 940 ≤ k by omega, q_oct hz (show k < 940 by omega), ↓q_bo, hlm, q_letC h, show k ≤ 7 by omega, nI_add, hzero]
      by_cases h63 : T k = nI 63
      · rw [if_pos h63, if_pos h63]; exact ih
      · rw [if_neg h63, if_neg h63]
        by_cases hlt : T k = nI (l.getD k 0)
        · rw [if_pos hlt, if_pos hlt]; exact ih
        · rw [if_neg hlt, if_neg hlt]; exact ⟨false, rfl, rfl⟩
    · intro f g _ _ _
      refine ⟨true, ?_, ?_⟩
      · simp only [q_lp]
        generalize lp _ (g_X11_fits_23 K T) f = rc
        unfold g_X11_fits_23
        simp (disch := omega) only [↓q_m1, q_lit, q_le, Nat.le_refl, ↓reduceIte]
        rfl
      · simp only [q_lp]
        generalize lp _ (g_X12_isFaint_27 M) g = rd
        unfold g_X12_isFaint_27
        simp (disch := omega) only [↓q_m1, q_lit, hn3, q_le, Nat.le_refl, ↓reduceIte]
        simp only [or_true, not_true_eq_false, ↓reduceIte]
        rfl
  · refine ⟨false, ?_, ?_, fun h9 => Bool.noConfusion h9⟩
    · by_cases hlt : l.length < n
      · rw [if_pos (by rw [okL_d0 (by omega)])]; rfl
      · have hnz : ¬ nI (l.getD n 0) = nI 0 := fun h9 => by
          have := hlz n (by omega) h9
          omega
        rw [if_neg hnz, ite_self]; rfl
    · rw [if_neg (by rw [q_eq (by have := hl.2.1; omega) (by omega)]; exact hlen), q_lp]
      generalize lp _ (g_X12_isFaint_27 M) 1999 = rd
      unfold g_X12_isFaint_27
      simp only [↓q_m1, q_lit, true_or, not_true_eq_false, ↓reduceIte, ite_self]
      rfl
theorem q_grt (a b : Nat) (ha : a < 2 ^ 31) (hb : b < 2 ^ 31) : f_X12_greater (nI a) (nI b) = nI (max a b) ∧ kMax (nI a) (nI b) = nI (max a b) := by
  unfold f_X12_greater kMax
  by_cases h : a ≤ b
  · rw [if_pos (by rw [q_le ha hb]; exact h), Nat.max_eq_right h]
    refine ⟨rfl, ?_⟩
    by_cases h2 : a < b
    · rw [if_pos (by rw [q_lt ha hb]; exact h2)]
    · rw [if_neg (by rw [q_lt ha hb]; exact h2), show a = b by omega]
  · rw [if_neg (by rw [q_le ha hb]; exact h), if_neg (by rw [q_lt ha hb]; omega), Nat.max_eq_left (by omega)]
    exact ⟨rfl, rfl⟩
/-- how many fitting phrases agree most at a place -/
theorem q_most {n np V i : Nat} {O S K C N M : kD} (hp : np ≤ 8) (o2 : O.1 0 2 = nI np) (e1 : M.1 6 1 = nI np) (hN : NR np 6 (O.2 7) (M.2 9)) (hV : V < 2 ^ np) (hlen : ∀ p, p < np → V.testBit p = true → ∀ l, NM l (O.2 7 p) (M.2 9 (6 + p)) → l.length = n) (hi : i < n) (hn : n ≤ 7) :
    ∃ c, c ≤ 8 ∧ f_X11_mostAlikeAt (nI i) (nI V) K C O S N = some (nI c) ∧ f_X12_leftBy (nI V) (nI i) M = some (nI c) := by
  have hV8 := q_pow hp hV
  unfold f_X11_mostAlikeAt f_X12_leftBy
  simp only [↓q_m1, q_lit]
  refine q_two (fun f p (x : Nat) => lp (fun _ _ _ _ => none) (g_X11_mostAlikeAt_14 K C O S N) f (nI i) (nI V) (nI x) (nI p)) (fun f p (x : Nat) => lp (fun _ _ _ _ => none) (g_X12_leftBy_5 M) f (nI V) (nI i) (nI x) (nI p)) (fun _ x y => x = y ∧ x ≤ 8) (fun r1 r2 => ∃ c, c ≤ 8 ∧ r1 = some (nI c) ∧ r2 = some (nI c)) np ?_ ?_ np 0 2000 2000 0 0 (by omega) (by omega) (by omega) ⟨rfl, by omega⟩
  · intro f g p x y _ _ hpp ⟨hxy, hx8⟩ ih
    subst hxy
    obtain ⟨l, hl⟩ := hN p hpp
    simp only [q_lp]
    generalize lp _ (g_X11_mostAlikeAt_14 K C O S N) f = rc at ih ⊢
    generalize lp _ (g_X12_leftBy_5 M) g = rd at ih ⊢
    have hC : g_X11_mostAlikeAt_14 K C O S N rc (nI i) (nI V) (nI x) (nI p) = lp (fun _ _ _ _ _ _ => none) (g_X11_mostAlikeAt_29 rc K C O S N) 2000 (nI i) (nI V) (nI x) (nI p) (nI 0) (nI 0) := by
      unfold g_X11_mostAlikeAt_14
      simp (disch := omega) only [↓q_m1, q_lit, o2, q_le, show ¬ np ≤ p by omega, ↓reduceIte]
    have hD : g_X12_leftBy_5 M rd (nI V) (nI i) (nI x) (nI p) = lp (fun _ _ _ _ _ _ => none) (g_X12_leftBy_22 rd M) 2000 (nI V) (nI i) (nI x) (nI p) (nI 0) (nI 0) := by
      unfold g_X12_leftBy_5
      simp (disch := omega) only [↓q_m1, q_lit, q_cl, e1, q_le, show ¬ np ≤ p by omega, ↓reduceIte]
    rw [hC, hD]
    have hend : ∀ z, z ≤ 8 → ∃ c, c ≤ 8 ∧ g_X11_mostAlikeAt_90 rc K C O S N (nI i) (nI V) (nI x) (nI p) (nI z) = some (nI c) ∧ g_X12_leftBy_84 rd M (nI V) (nI i) (nI x) (nI p) (nI z) = some (nI c) := by
      intro z hz8
      obtain ⟨m1, m2⟩ := q_grt x z (by omega) (by omega)
      have hmx : max x z ≤ 8 := Nat.max_le.mpr ⟨hx8, hz8⟩
      have := ih (max x z) (max x z) ⟨rfl, hmx⟩
      unfold g_X11_mostAlikeAt_90 g_X12_leftBy_84
      simp only [↓q_m1, q_lit, ↓q_bd, m1, m2, nI_add]
      exact this
    by_cases hb : V.testBit p = true
    · have hlp := hlen p hpp hb l hl
      refine q_two (fun f q (z : Nat) => lp (fun _ _ _ _ _ _ => none) (g_X11_mostAlikeAt_29 rc K C O S N) f (nI i) (nI V) (nI x) (nI p) (nI z) (nI q)) (fun f q (z : Nat) => lp (fun _ _ _ _ _ _ => none) (g_X12_leftBy_22 rd M) f (nI V) (nI i) (nI x) (nI p) (nI z) (nI q)) (fun q z z' => z = z' ∧ z ≤ q) (fun r1 r2 => ∃ c, c ≤ 8 ∧ r1 = some (nI c) ∧ r2 = some (nI c)) np ?_ ?_ np 0 2000 2000 0 0 (by omega) (by omega) (by omega) ⟨rfl, by omega⟩
      · intro f2 g2 q z z' _ _ hq ⟨hzz, hzq⟩ ih2
        subst hzz
        obtain ⟨l2, hl2⟩ := hN q hq
        simp only [q_lp]
        generalize lp _ (g_X11_mostAlikeAt_29 rc K C O S N) f2 = rc2 at ih2 ⊢
        generalize lp _ (g_X12_leftBy_22 rd M) g2 = rd2 at ih2 ⊢
        unfold g_X11_mostAlikeAt_29 g_X11_mostAlikeAt_84 g_X12_leftBy_22 g_X12_leftBy_74 g_X12_leftBy_75
        simp (disch := omega) only [↓q_m1, q_lit, ↓q_bd, o2, e1, q_cl, q_le, show ¬ np ≤ q by omega, ↓reduceIte, (q_bit V hV8 p (by omega)).1, (q_bit V hV8 p (by omega)).2, (q_bit V hV8 q (by omega)).1, (q_bit V hV8 q (by omega)).2, q_qb, hb, Bool.true_eq_false, nI_add, q_lt, Nat.not_lt_zero, false_or, show ¬ 8 ≤ p by omega, show ¬ 8 ≤ q by omega, q_letC hl, q_letC hl2, show i ≤ 7 by omega, q_letM (i := i) hp hpp hl (by omega), ↓q_bo]
        by_cases hbq : V.testBit q = true
        · have hlq := hlen q hq hbq l2 hl2
          rw [q_letM (i := i) hp hq hl2 (by omega)]
          simp only [hbq, Bool.true_eq_false, ↓reduceIte, ↓q_bo]
          by_cases hee : nI (l.getD i 0) = nI (l2.getD i 0)
          · rw [if_pos hee, if_pos hee]; exact ih2 (z + 1) (z + 1) ⟨rfl, by omega⟩
          · rw [if_neg hee, if_neg hee]; exact ih2 z (z + 0) ⟨rfl, by omega⟩
        · have hbq : V.testBit q = false := by simpa using hbq
          simp only [hbq, ↓reduceIte]
          exact ih2 z (z + 0) ⟨rfl, by omega⟩
      · intro f2 g2 z z' ⟨hzz, hzq⟩
        subst hzz
        simp only [q_lp]
        generalize lp _ (g_X11_mostAlikeAt_29 rc K C O S N) f2 = rc2
        generalize lp _ (g_X12_leftBy_22 rd M) g2 = rd2
        unfold g_X11_mostAlikeAt_29 g_X12_leftBy_22
        simp (disch := omega) only [↓q_m1, q_lit, o2, e1, q_cl, q_le, Nat.le_refl, ↓reduceIte]
        exact hend z (by omega)
    · have hb : V.testBit p = false := by simpa using hb
      obtain ⟨c, c1, c2, c3⟩ := hend 0 (by omega)
      refine ⟨c, c1, ?_, ?_⟩
      · rw [q_lp]
        generalize lp _ (g_X11_mostAlikeAt_29 rc K C O S N) 1999 = rc2
        unfold g_X11_mostAlikeAt_29
        simp (disch := omega) only [↓q_m1, q_lit, o2, (q_bit V hV8 p (by omega)).1, hb, q_qb, ↓reduceIte, c2, ite_self]
      · refine q_one (fun f q (_ : Unit) => lp (fun _ _ _ _ _ _ => none) (g_X12_leftBy_22 rd M) f (nI V) (nI i) (nI x) (nI p) (nI 0) (nI q)) (fun _ _ => True) (fun r => r = some (nI c)) np ?_ ?_ np 0 2000 () (by omega) (by omega) trivial
        · intro f2 q _ _ hq _ ih2
          simp only [q_lp]
          generalize lp _ (g_X12_leftBy_22 rd M) f2 = rd2 at ih2 ⊢
          unfold g_X12_leftBy_22 g_X12_leftBy_74 g_X12_leftBy_75
          simp (disch := omega) only [↓q_m1, q_lit, ↓q_bd, e1, q_cl, q_le, show ¬ np ≤ q by omega, ↓reduceIte, (q_bit V hV8 p (by omega)).2, hb, q_qb, nI_add]
          exact ih2 () trivial
        · intro f2 _ _
          simp only [q_lp]
          generalize lp _ (g_X12_leftBy_22 rd M) f2 = rd2
          unfold g_X12_leftBy_22
          simp (disch := omega) only [↓q_m1, q_lit, e1, q_cl, q_le, Nat.le_refl, ↓reduceIte]
          exact c3
  · intro f g x y ⟨hxy, hx8⟩
    subst hxy
    simp only [q_lp]
    generalize lp _ (g_X11_mostAlikeAt_14 K C O S N) f = rc
    generalize lp _ (g_X12_leftBy_5 M) g = rd
    unfold g_X11_mostAlikeAt_14 g_X12_leftBy_5
    simp (disch := omega) only [↓q_m1, q_lit, o2, e1, q_cl, q_le, Nat.le_refl, ↓reduceIte]
    exact ⟨x, hx8, rfl, rfl⟩
