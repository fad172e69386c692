/-! machine-free: IMAGE, RESTORE, FAULT, COUNT -/
theorem NR_cg {cnt base : Nat} {A A' B B' : Nat → Int64} (hA : ∀ i, i < cnt → A' i = A i) (hB : ∀ i, i < cnt → B' (base + i) = B (base + i)) (h : NR cnt base A B) : NR cnt base A' B' := by
  intro i hi
  obtain ⟨m, hm⟩ := h i hi
  refine ⟨m, ?_⟩
  rw [hA i hi, hB i hi]; exact hm
theorem RL_O {nm np : Nat} {O O' : kD} {s s' : Nat → Int32} {B B' : Nat → Int64} (hl : RLo nm np O s B) (c1 : ∀ k, k < 4 → O'.1 0 k = O.1 0 k) (c2 : ∀ m, m < 6 → O'.2 4 m = O.2 4 m ∧ O'.1 5 m = O.1 5 m ∧ O'.1 6 m = O.1 6 m) (c3 : ∀ m, m < 8 → O'.2 7 m = O.2 7 m ∧ O'.1 8 m = O.1 8 m ∧ O'.1 9 m = O.1 9 m ∧ O'.1 10 m = O.1 10 m) (hs : ∀ k, k < 39 → s' k = s k) (hB : ∀ j, j < 14 → B' j = B j) : RLo nm np O' s' B' := by
  have hl := RL_cg hs hl
  obtain ⟨⟨⟨hn, hp⟩, ⟨e0, e1, e2, e3, e4⟩, hk, hlen, hc, ha⟩, h1, h2, h3, h4, h5⟩ := hl
  refine ⟨⟨⟨hn, hp⟩, ⟨e0, e1, (c1 1 (by omega)).trans e2, (c1 2 (by omega)).trans e3, (c1 3 (by omega)).trans e4⟩, fun m hm => ?_, fun q hq => ?_, fun q hq => ?_, fun q hq => ?_⟩, fun m hm => ?_, NR_cg (fun i hi => (c2 i (by omega)).1) (fun i hi => hB _ (by omega)) h2, NR_cg (fun i hi => (c3 i (by omega)).1) (fun i hi => hB _ (by omega)) h3, h4, h5⟩
  · rw [(c2 m (by omega)).2.2]; exact hk m hm
  · rw [(c3 q (by omega)).2.1]; exact hlen q hq
  · rw [(c3 q (by omega)).2.2.1]; exact hc q hq
  · rw [(c3 q (by omega)).2.2.2]; exact ha q hq
  · rw [(c2 m (by omega)).2.1]; exact h1 m hm
theorem RSN_s2 {nm np : Nat} {N : kD} {s s' : Nat → Int32} (h : RSN nm np N s) (hs : ∀ k, 98 ≤ k → k < 279 → s' k = s k) : RSN nm np N s' := by
  obtain ⟨e, h1, h2, h3, h4, h5⟩ := h
  refine ⟨e, h1, h2, by rw [hs 98 (by omega) (by omega)]; exact h3, fun i hi => ?_, h5⟩
  rw [hs (99 + 3 * i) (by omega) (by omega), hs (99 + 3 * i + 1) (by omega) (by omega), hs (99 + 3 * i + 2) (by omega) (by omega)]
  exact h4 i hi
def IM1 (B : Nat) (O S N : kD) (s : Nat → Int32) (A : Nat → Int64) : Prop := ∃ nm np d lt w h, d ≤ 400 ∧ RLo nm np O s A ∧ RS nm np d lt w h B S s ∧ RSN nm np N s
theorem IM1_c {B : Nat} {O S N O' S' N' : kD} {s s' : Nat → Int32} {A A' : Nat → Int64} (h : IM1 B O S N s A) (c1 : ∀ k, k < 4 → O'.1 0 k = O.1 0 k) (c2 : ∀ m, m < 6 → O'.2 4 m = O.2 4 m ∧ O'.1 5 m = O.1 5 m ∧ O'.1 6 m = O.1 6 m) (c3 : ∀ m, m < 8 → O'.2 7 m = O.2 7 m ∧ O'.1 8 m = O.1 8 m ∧ O'.1 9 m = O.1 9 m ∧ O'.1 10 m = O.1 10 m) (hS : SA S' S) (hN1 : N'.1 0 1 = N.1 0 1) (hN2 : ∀ b i, b = 2 ∨ b = 3 ∨ b = 4 → i < 40 → N'.1 b i = N.1 b i) (hs : ∀ k, k < 279 → s' k = s k) (hA : ∀ j, j < 14 → A' j = A j) : IM1 B O' S' N' s' A' := by
  obtain ⟨nm, np, d, lt, w, hh, hd, h1, h2, h3⟩ := h
  exact ⟨nm, np, d, lt, w, hh, hd, RL_O h1 c1 c2 c3 (fun k hk => hs k (by omega)) hA, RS_S hS (RS_s (fun k _ _ => hs k (by omega)) h2 h1.1.1.1) h1.1.1.1, RSN_c (RSN_s2 h3 (fun k _ hk => hs k hk)) hN1 hN2⟩
/-- a scene copied -/
theorem q_copySc {B : Nat} {C O S N C2 O2 S2 N2 : kD} {s : Nat → Int32} {A : Nat → Int64} (h : IM1 B O2 S2 N2 s A) : ∃ O' S' N', f_X7_copyFrom C O S N C2 O2 S2 N2 = some (O', S', N') ∧ ∀ s' A', (∀ k, k < 279 → s' k = s k) → (∀ j, j < 14 → A' j = A j) → IM1 B O' S' N' s' A' := by
  obtain ⟨O', o1, o2, o3, o4⟩ := q_copyO O O2
  obtain ⟨S', s1, s2⟩ := q_copyS S S2
  obtain ⟨N', n1, _, n3, n4⟩ := q_copyN N N2
  refine ⟨O', S', N', ?_, fun s' A' hs hA => IM1_c h o2 o3 o4 s2 n3 n4 hs hA⟩
  unfold f_X7_copyFrom
  rw [o1, q_bo, s1, q_bo, n1, q_bo]
/-- rows laid into the images' rows -/
def atL (f g : Nat → Int64) (o k : Nat) : Nat → Int64 := fun j => if o ≤ j ∧ j < o + k then f (j - o) else g j
theorem atL_0 (f g : Nat → Int64) (o : Nat) : atL f g o 0 = g := by
  funext j; unfold atL; rw [if_neg (by omega)]
theorem atL_step (f g : Nat → Int64) (o k : Nat) : vp_updL (atL f g o k) (o + k) (f k) = atL f g o (k + 1) := by
  funext j
  unfold vp_updL atL
  by_cases h : j = o + k
  · rw [if_pos h, if_pos (by omega)]; exact congrArg f (by omega)
  · rw [if_neg h]
    by_cases h2 : o ≤ j ∧ j < o + k
    · rw [if_pos h2, if_pos (by omega)]
    · rw [if_neg h2, if_neg (by omega)]
theorem atL_in (f g : Nat → Int64) (o k j : Nat) (h : j < k) : atL f g o k (o + j) = f j := by
  unfold atL; rw [if_pos (by omega)]; exact congrArg f (by omega)
theorem atL_out (f g : Nat → Int64) (o k j : Nat) (h : j < o ∨ o + k ≤ j) : atL f g o k j = g j := by
  unfold atL; rw [if_neg (by omega)]
theorem q_SLM (M : kD) (a : Nat) : kSL M a (M.2 a) = M := by
  unfold kSL
  refine Prod.ext rfl ?_
  funext b
  show (if b = a then M.2 a else M.2 b) = M.2 b
  split
  · next h => rw [h]
  · rfl
theorem q_SLI (M : kD) (a : Nat) (f : Nat → Int64) (k : Nat) (v : Int64) : kL (kSL M a f) a k v = kSL M a (vp_updL f k v) := by
  refine Prod.ext rfl ?_
  funext b
  show (if b = a then vp_updL (if a = a then f else M.2 a) k v else if b = a then f else M.2 b) = if b = a then vp_updL f k v else M.2 b
  rw [if_pos rfl]
  by_cases h : b = a
  · rw [if_pos h, if_pos h]
  · rw [if_neg h, if_neg h, if_neg h]
theorem q_imgLoop (M : kD) (x : Nat) (hx : x < 2) : lp (fun _ _ _ => none) g_X12_image_18 2000 (nI x) (nI 0) M = some (nI 1, kI (kSL (kSI M 46 (atW (M.1 6) (M.1 46) (279 * x) 279)) 47 (atL (M.2 9) (M.2 47) (14 * x) 14)) 48 x (nI 1)) := by
  have h2 : ∀ Z : kD, Z.2 = M.2 → g_X12_image_49 (nI x) Z = some (nI 1, kI (kSL Z 47 (atL (M.2 9) (M.2 47) (14 * x) 14)) 48 x (nI 1)) := by
    intro Z hZ
    have h1 := q_one (fun f k (y : Nat → Int64) => lp (fun _ _ _ => none) g_X12_image_51 f (nI x) (nI k) (kSL Z 47 y)) (fun k y => y = atL (M.2 9) (M.2 47) (14 * x) k) (fun q => q = some (nI 1, kI (kSL Z 47 (atL (M.2 9) (M.2 47) (14 * x) 14)) 48 x (nI 1))) 14 ?_ ?_ 14 0 2000 (M.2 47) (by omega) (by omega) (by rw [atL_0])
    · rw [← hZ, q_SLM] at h1
      unfold g_X12_image_49
      rw [← hZ]
      simp only [↓q_m1, q_lit]
      exact h1
    · intro f k y _ hk hy ih
      simp only [q_lp]
      generalize lp _ g_X12_image_51 f = rc at ih ⊢
      unfold g_X12_image_51
      have e9 : (kSL Z 47 y).2 9 k = M.2 9 k := by
        show (if 9 = 47 then y else Z.2 9) k = _
        rw [if_neg (by omega), hZ]
      simp (disch := omega) only [↓q_m1, q_lit, ↓q_bd, ↓reduceIte, q_le, show ¬ 14 ≤ k by omega, nI_add, pk_mul, q_lt, Nat.not_lt_zero, false_or, q_cl, show ¬ 28 ≤ k by omega, show ¬ 28 ≤ 14 * x + k by omega, e9, q_SLI]
      exact ih _ (by rw [hy]; exact atL_step (M.2 9) _ _ _)
    · intro f y hy
      simp only [q_lp]
      generalize lp _ g_X12_image_51 f = rc
      unfold g_X12_image_51 g_X12_image_80
      simp (disch := omega) only [↓q_m1, q_lit, ↓q_bd, ↓reduceIte, q_le, Nat.le_refl, q_lt, Nat.not_lt_zero, false_or, q_cl, show ¬ 2 ≤ x by omega, hy, q_bb1]
      rfl
  have h1 := q_one (fun f k (y : Nat → Int32) => lp (fun _ _ _ => none) g_X12_image_18 f (nI x) (nI k) (kSI M 46 y)) (fun k y => y = atW (M.1 6) (M.1 46) (279 * x) k) (fun q => q = g_X12_image_49 (nI x) (kSI M 46 (atW (M.1 6) (M.1 46) (279 * x) 279))) 279 ?_ ?_ 279 0 2000 (M.1 46) (by omega) (by omega) (by rw [atW_0])
  · rw [q_SM] at h1
    rw [h1]
    exact h2 _ rfl
  · intro f k y _ hk hy ih
    simp only [q_lp]
    generalize lp _ g_X12_image_18 f = rc at ih ⊢
    unfold g_X12_image_18
    simp (disch := omega) only [↓q_m1, q_lit, ↓q_bd, ↓reduceIte, q_le, show ¬ 279 ≤ k by omega, nI_add, pk_mul, q_lt, Nat.not_lt_zero, false_or, q_cl, show ¬ 558 ≤ 279 * x + k by omega, q_kSI, Nat.reduceEqDiff, q_SI]
    exact ih _ (by rw [hy]; exact atW_step (M.1 6) _ _ _)
  · intro f y hy
    simp only [q_lp]
    generalize lp _ g_X12_image_18 f = rc
    unfold g_X12_image_18
    simp (disch := omega) only [↓q_m1, q_lit, ↓reduceIte, q_le, Nat.le_refl, hy]
theorem q_resLoop (M : kD) (x : Nat) (hx : x < 2) : lp (fun _ _ _ => none) g_X12_restore_27 2000 (nI x) (nI 0) M = some (nI 1, kI (kSL (kSI M 6 (atW (fun j => M.1 46 (279 * x + j)) (M.1 6) 0 279)) 9 (atL (fun j => M.2 47 (14 * x + j)) (M.2 9) 0 14)) 0 22 (nI 0)) := by
  have h2 : ∀ Z : kD, Z.2 = M.2 → g_X12_restore_58 (nI x) Z = some (nI 1, kI (kSL Z 9 (atL (fun j => M.2 47 (14 * x + j)) (M.2 9) 0 14)) 0 22 (nI 0)) := by
    intro Z hZ
    have h1 := q_one (fun f k (y : Nat → Int64) => lp (fun _ _ _ => none) g_X12_restore_60 f (nI x) (nI k) (kSL Z 9 y)) (fun k y => y = atL (fun j => M.2 47 (14 * x + j)) (M.2 9) 0 k) (fun q => q = some (nI 1, kI (kSL Z 9 (atL (fun j => M.2 47 (14 * x + j)) (M.2 9) 0 14)) 0 22 (nI 0))) 14 ?_ ?_ 14 0 2000 (M.2 9) (by omega) (by omega) (by rw [atL_0])
    · rw [← hZ, q_SLM] at h1
      unfold g_X12_restore_58
      rw [← hZ]
      simp only [↓q_m1, q_lit]
      exact h1
    · intro f k y _ hk hy ih
      simp only [q_lp]
      generalize lp _ g_X12_restore_60 f = rc at ih ⊢
      unfold g_X12_restore_60
      have e47 : (kSL Z 9 y).2 47 (14 * x + k) = M.2 47 (14 * x + k) := by
        show (if 47 = 9 then y else Z.2 47) _ = _
        rw [if_neg (by omega), hZ]
      simp (disch := omega) only [↓q_m1, q_lit, ↓q_bd, ↓reduceIte, q_le, show ¬ 14 ≤ k by omega, nI_add, pk_mul, q_lt, Nat.not_lt_zero, false_or, q_cl, show ¬ 28 ≤ k by omega, show ¬ 28 ≤ 14 * x + k by omega, e47, q_SLI]
      have := atL_step (fun j => M.2 47 (14 * x + j)) (M.2 9) 0 k
      rw [Nat.zero_add] at this
      exact ih _ (by rw [hy]; exact this)
    · intro f y hy
      simp only [q_lp]
      generalize lp _ g_X12_restore_60 f = rc
      unfold g_X12_restore_60
      simp (disch := omega) only [↓q_m1, q_lit, ↓q_bd, ↓reduceIte, q_le, Nat.le_refl, hy]
  have h1 := q_one (fun f k (y : Nat → Int32) => lp (fun _ _ _ => none) g_X12_restore_27 f (nI x) (nI k) (kSI M 6 y)) (fun k y => y = atW (fun j => M.1 46 (279 * x + j)) (M.1 6) 0 k) (fun q => q = g_X12_restore_58 (nI x) (kSI M 6 (atW (fun j => M.1 46 (279 * x + j)) (M.1 6) 0 279))) 279 ?_ ?_ 279 0 2000 (M.1 6) (by omega) (by omega) (by rw [atW_0])
  · rw [q_SM] at h1
    rw [h1]
    exact h2 _ rfl
  · intro f k y _ hk hy ih
    simp only [q_lp]
    generalize lp _ g_X12_restore_27 f = rc at ih ⊢
    unfold g_X12_restore_27
    simp (disch := omega) only [↓q_m1, q_lit, ↓q_bd, ↓reduceIte, q_le, show ¬ 279 ≤ k by omega, nI_add, pk_mul, q_lt, Nat.not_lt_zero, false_or, q_cl, show ¬ 558 ≤ 279 * x + k by omega, q_kSI, Nat.reduceEqDiff, q_SI]
    have := atW_step (fun j => M.1 46 (279 * x + j)) (M.1 6) 0 k
    rw [Nat.zero_add] at this
    exact ih _ (by rw [hy]; exact this)
  · intro f y hy
    simp only [q_lp]
    generalize lp _ g_X12_restore_27 f = rc
    unfold g_X12_restore_27
    simp (disch := omega) only [↓q_m1, q_lit, ↓reduceIte, q_le, Nat.le_refl, hy]
/-- the two images -/
def IM (B : Nat) (IO IS IN : Nat → kD) (IK : Nat → Int32) (M : kD) : Prop := ∀ i, i < 2 → (IK i = nI 0 ∧ M.1 48 i = nI 0) ∨ (IK i = nI 1 ∧ M.1 48 i = nI 1 ∧ IM1 B (IO i) (IS i) (IN i) (fun k => M.1 46 (279 * i + k)) (fun j => M.2 47 (14 * i + j)))
theorem IM1_B {B B' : Nat} (hB : B ≤ B') {O S N : kD} {s : Nat → Int32} {A : Nat → Int64} (h : IM1 B O S N s A) : IM1 B' O S N s A := by
  obtain ⟨nm, np, d, lt, w, hh, hd, h1, h2, h3⟩ := h
  exact ⟨nm, np, d, lt, w, hh, hd, h1, RS_B hB h2, h3⟩
theorem IM_B {B B' : Nat} (hB : B ≤ B') {IO IS IN : Nat → kD} {IK : Nat → Int32} {M : kD} (h : IM B IO IS IN IK M) : IM B' IO IS IN IK M := by
  intro i hi
  rcases h i hi with h1 | ⟨h1, h2, h3⟩
  · exact Or.inl h1
  · exact Or.inr ⟨h1, h2, IM1_B hB h3⟩
theorem IM_M {B : Nat} {IO IS IN : Nat → kD} {IK : Nat → Int32} {M M' : kD} (h46 : M'.1 46 = M.1 46) (h48 : M'.1 48 = M.1 48) (h47 : M'.2 47 = M.2 47) (h : IM B IO IS IN IK M) : IM B IO IS IN IK M' := by
  unfold IM
  rw [h46, h48, h47]; exact h
/-- an argument: 0, 1 or neither -/
theorem q_two01 (a : Int32) : (∃ x, x < 2 ∧ a = nI x) ∨ (f_X12_isIn a (nI 0) (nI 1) = nI 0 ∧ a ≠ nI 0 ∧ a ≠ nI 1 ∧ (a < nI 0 ∨ (¬ a < nI 0 ∧ nI 2 ≤ a))) := by
  rcases q_isIn 0 0 1 a (by omega) (by omega) with ⟨x, h1, h2, rfl, h3⟩ | ⟨h1, h3, h4⟩
  · exact Or.inl ⟨x, by omega, rfl⟩
  · refine Or.inr ⟨h3, h1 0 (by omega) (by omega), h1 1 (by omega) (by omega), ?_⟩
    rcases q_arg a with h5 | ⟨j, hj, rfl⟩
    · exact Or.inl h5
    · refine Or.inr ⟨by rw [q_lt hj (by omega)]; omega, ?_⟩
      rw [q_le (by omega) hj]
      have n0 := h1 0 (by omega) (by omega)
      have n1 := h1 1 (by omega) (by omega)
      rw [ne_eq, q_eq hj (by omega)] at n0 n1
      omega
theorem q_in01 {x : Nat} (hx : x < 2) : f_X12_isIn (nI x) (nI 0) (nI 1) = nI 1 := by
  have : x = 0 ∨ x = 1 := by omega
  rcases this with rfl | rfl <;> rfl
theorem q_image {B : Nat} {K C O S N M : kD} {IO IS IN : Nat → kD} {IK : Nat → Int32} (a : Int32) (h : IM1 B O S N (M.1 6) (M.2 9)) (hi : IM B IO IS IN IK M) :
    ∃ r IO' IS' IN' IK' M', f_X11_image a K C O S N IO IS IN IK = some (r, IO', IS', IN', IK') ∧ f_X12_image a M = some (r, M') ∧ IM B IO' IS' IN' IK' M' ∧ M'.1 0 = upd (M.1 0) 0 (nI 0) ∧ (∀ b, b ≠ 0 → b ≠ 46 → b ≠ 48 → M'.1 b = M.1 b) ∧ ∀ b, b ≠ 47 → M'.2 b = M.2 b := by
  unfold f_X11_image f_X12_image
  simp only [↓q_m1, q_lit, ↓q_bd]
  rcases q_two01 a with ⟨x, hx, rfl⟩ | ⟨h1, h2, h3, h4⟩
  · rw [q_in01 hx, if_neg n10, q_imgLoop _ x hx]
    simp (disch := omega) only [q_lt, Nat.not_lt_zero, ↓reduceIte, hx, false_or, q_cl, show ¬ 2 ≤ x by omega, q_bb1]
    obtain ⟨O', S', N', c1, c2⟩ := q_copySc (C := zD) (O := IO x) (S := IS x) (N := IN x) (C2 := C) h
    refine ⟨nI 1, upF IO x O', upF IS x S', upF IN x N', upd IK x (nI 1), _, ?_, rfl, ?_, rfl, fun b b0 b46 b48 => ?_, fun b b47 => ?_⟩
    · have hx01 : x = 0 ∨ x = 1 := by omega
      rcases hx01 with rfl | rfl
      · rw [if_pos rfl, c1, q_bo3]; rfl
      · rw [if_neg n10, if_pos rfl, c1, q_bo3]; rfl
    · intro i hi2
      by_cases hix : i = x
      · subst hix
        refine Or.inr ⟨up_eq, up_eq, ?_⟩
        have e1 : upF IO i O' i = O' := if_pos rfl
        have e2 : upF IS i S' i = S' := if_pos rfl
        have e3 : upF IN i N' i = N' := if_pos rfl
        rw [e1, e2, e3]
        refine c2 _ _ (fun k hk => ?_) (fun j hj => ?_)
        · exact atW_in _ _ _ _ _ hk
        · exact atL_in _ _ _ _ _ hj
      · have e1 : upF IO x O' i = IO i := if_neg hix
        have e2 : upF IS x S' i = IS i := if_neg hix
        have e3 : upF IN x N' i = IN i := if_neg hix
        rw [e1, e2, e3, up_ne hix]
        rcases hi i hi2 with ⟨g1, g2⟩ | ⟨g1, g2, g3⟩
        · refine Or.inl ⟨g1, ?_⟩
          show upd (M.1 48) x (nI 1) i = _
          rw [up_ne hix]; exact g2
        · refine Or.inr ⟨g1, ?_, ?_⟩
          · show upd (M.1 48) x (nI 1) i = _
            rw [up_ne hix]; exact g2
          · refine IM1_c g3 (fun _ _ => rfl) (fun _ _ => ⟨rfl, rfl, rfl⟩) (fun _ _ => ⟨rfl, rfl, rfl, rfl⟩) ⟨fun _ _ => rfl, fun _ _ => ⟨rfl, rfl, rfl⟩, fun _ _ => rfl⟩ rfl (fun _ _ _ _ => rfl) (fun k hk => ?_) (fun j hj => ?_)
            · exact atW_out _ _ _ _ _ (by omega)
            · exact atL_out _ _ _ _ _ (by omega)
    · show (if b = 48 then _ else if b = 46 then _ else if b = 0 then _ else M.1 b) = _
      rw [if_neg b48, if_neg b46, if_neg b0]
    · show (if b = 47 then _ else M.2 b) = _
      rw [if_neg b47]
  · rw [h1, if_pos rfl]
    refine ⟨nI 0, IO, IS, IN, IK, _, ?_, rfl, hi, rfl, fun b b0 _ _ => if_neg b0, fun _ _ => rfl⟩
    rcases h4 with h4 | ⟨h4, h5⟩
    · rw [if_pos h4]
    · rw [if_neg h4, if_neg (Int32.not_lt.mpr h5)]
theorem q_restore {nm np B : Nat} {K C O S N Hy M : kD} {IO IS IN HS : Nat → kD} {IK : Nat → Int32} (a : Int32) (hl : RLo nm np O (M.1 6) (M.2 9)) (hr : RSH nm np B S Hy HS M) (hN : RSN nm np N (M.1 6)) (hi : IM B IO IS IN IK M) :
    ∃ r O' S' N' Hy' M' nm' np', f_X11_restore a K C O S N IO IS IN IK Hy HS = some (r, O', S', N', Hy') ∧ f_X12_restore a M = some (r, M') ∧ RLo nm' np' O' (M'.1 6) (M'.2 9) ∧ RSH nm' np' B S' Hy' HS M' ∧ RSN nm' np' N' (M'.1 6) ∧ IM B IO IS IN IK M' ∧ (∀ k, k ≠ 22 → M'.1 0 k = upd (M.1 0) 0 (nI 0) k) ∧ (∀ b, b ≠ 0 → b ≠ 6 → M'.1 b = M.1 b) ∧ ∀ b, b ≠ 9 → M'.2 b = M.2 b := by
  have hnone : ∃ r O' S' N' Hy' M' nm' np', (some (nI 0, O, S, N, Hy) : Option (Int32 × kD × kD × kD × kD)) = some (r, O', S', N', Hy') ∧ (some (nI 0, kI M 0 0 (nI 0)) : Option (Int32 × kD)) = some (r, M') ∧ RLo nm' np' O' (M'.1 6) (M'.2 9) ∧ RSH nm' np' B S' Hy' HS M' ∧ RSN nm' np' N' (M'.1 6) ∧ IM B IO IS IN IK M' ∧ (∀ k, k ≠ 22 → M'.1 0 k = upd (M.1 0) 0 (nI 0) k) ∧ (∀ b, b ≠ 0 → b ≠ 6 → M'.1 b = M.1 b) ∧ ∀ b, b ≠ 9 → M'.2 b = M.2 b :=
    ⟨nI 0, O, S, N, Hy, kI M 0 0 (nI 0), nm, np, rfl, rfl, hl, hr, hN, hi, fun _ _ => rfl, fun b b0 _ => if_neg b0, fun _ _ => rfl⟩
  unfold f_X11_restore f_X12_restore
  simp only [↓q_m1, q_lit, ↓q_bd]
  rcases q_two01 a with ⟨x, hx, rfl⟩ | ⟨h1, h2, h3, h4⟩
  · rw [q_in01 hx, if_neg n10]
    simp (disch := omega) only [q_lt, Nat.not_lt_zero, ↓reduceIte, q_le, show ¬ 2 ≤ x by omega, false_or, q_cl]
    have e48 : (kI M 0 0 (nI 0)).1 48 x = M.1 48 x := rfl
    rw [e48]
    rcases hi x hx with ⟨g1, g2⟩ | ⟨g1, g2, g3⟩
    · rw [g1, g2, if_pos rfl, if_pos rfl]
      exact hnone
    · rw [g1, g2, if_neg n10, if_neg n10, q_resLoop _ x hx]
      obtain ⟨O', S', N', c1, c2⟩ := q_copySc (C := C) (O := O) (S := S) (N := N) (C2 := zD) g3
      obtain ⟨nm', np', d, lt, w, hh, hd, k1, k2, k3⟩ := c2 (atW (fun j => M.1 46 (279 * x + j)) (M.1 6) 0 279) (atL (fun j => M.2 47 (14 * x + j)) (M.2 9) 0 14) (fun k hk => by
        have := atW_in (fun j => M.1 46 (279 * x + j)) (M.1 6) 0 279 k hk
        rw [Nat.zero_add] at this
        exact this) (fun j hj => by
        have := atL_in (fun j => M.2 47 (14 * x + j)) (M.2 9) 0 14 j hj
        rw [Nat.zero_add] at this
        exact this)
      obtain ⟨_, _, _, _, u, o, _, _, ⟨hu8, ho8, hh0, hh1, _⟩, _⟩ := hr
      refine ⟨nI 1, O', S', N', kI Hy 0 0 (nI 0), _, nm', np', ?_, rfl, k1, ⟨d, lt, w, hh, 0, o, hd, k2, ⟨by omega, ho8, rfl, hh1, fun i hi => absurd hi (Nat.not_lt_zero i)⟩, rfl⟩, k3, ?_, fun j j22 => up_ne j22, fun b b0 b6 => ?_, fun b b9 => ?_⟩
      · unfold f_X2_forget
        simp only [↓q_m1, q_lit, ↓q_bd]
        have hx01 : x = 0 ∨ x = 1 := by omega
        rcases hx01 with rfl | rfl
        · rw [if_pos rfl, c1, q_bo3, q_bo]
        · rw [if_neg n10, if_pos rfl, c1, q_bo3, q_bo]
      · exact IM_M rfl rfl rfl hi
      · show (if b = 0 then _ else if b = 6 then _ else if b = 0 then _ else M.1 b) = _
        rw [if_neg b0, if_neg b6, if_neg b0]
      · show (if b = 9 then _ else M.2 b) = _
        rw [if_neg b9]
  · rw [h1, if_pos rfl]
    rcases h4 with h4 | ⟨h4, h5⟩
    · rw [if_pos h4]; exact hnone
    · rw [if_neg h4, if_pos h5]; exact hnone
theorem q_fault {K M : kD} (h : K.1 0 16 = M.1 0 15) : f_X12_fault M = some (f_X11_fault K, kI M 0 0 (nI 0)) := by
  unfold f_X12_fault f_X11_fault
  simp only [↓q_m1, q_lit, ↓q_bd]
  rw [h]; rfl
theorem q_countC {n nm np : Nat} {K C O S N M : kD} {T : Nat → Int32} (hR : RT n K T M) (ho : RO nm np O (M.1 6)) (a : Int32) : f_X12_count a M = some (f_X11_count a K C O S N, kI M 0 0 (nI 0)) := by
  obtain ⟨_, ⟨e0, e1, e2, e3, e4⟩, _⟩ := ho
  unfold f_X12_count f_X11_count
  simp only [↓q_m1, q_lit, ↓q_bd]
  by_cases h3 : a = nI 3
  · rw [h3, if_pos rfl, if_neg (by decide), if_neg (by decide), if_neg (by decide), if_pos rfl, hR.2.1]
    show some (M.1 0 2, _) = _
    rw [hR.2.2.1]
  · rw [if_neg h3]
    rcases q_isIn 0 0 2 a (by omega) (by omega) with ⟨x, h1, h2, rfl, h4⟩ | ⟨h1, h4, _⟩
    · rw [h4, if_neg n10]
      have hx : x = 0 ∨ x = 1 ∨ x = 2 := by omega
      rcases hx with rfl | rfl | rfl
      · rw [if_pos rfl, e2, ← e0]
        simp (disch := omega) only [q_lt, Nat.not_lt_zero, false_or, q_cl, Nat.reduceLeDiff, ↓reduceIte]
        rfl
      · rw [if_neg n10, if_pos rfl, e3, ← e1]
        simp (disch := omega) only [q_lt, Nat.not_lt_zero, false_or, q_cl, Nat.reduceLeDiff, ↓reduceIte]
        rfl
      · rw [if_neg (by decide), if_neg (by decide), if_pos rfl, e4]
        simp (disch := omega) only [q_lt, Nat.not_lt_zero, false_or, q_cl, Nat.reduceLeDiff, ↓reduceIte]
        rfl
    · rw [h4, if_pos rfl, if_neg (h1 0 (by omega) (by omega)), if_neg (h1 1 (by omega) (by omega)), if_neg (h1 2 (by omega) (by omega)), if_neg h3]
