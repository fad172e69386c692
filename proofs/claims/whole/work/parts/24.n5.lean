/-! machine-free: what is kept and taken back -/
def SA (S' S : kD) : Prop := (∀ k, k < 5 → S'.1 0 k = S.1 0 k) ∧ (∀ m, m < 6 → S'.1 5 m = S.1 5 m ∧ S'.1 6 m = S.1 6 m ∧ S'.1 7 m = S.1 7 m) ∧ ∀ i, i < 36 → S'.1 8 i = S.1 8 i
theorem q_cpy {α : Type} (f g : Nat → α) (n k : Nat) (h : k < n) : va_cpy f g 0 0 n k = f k := by
  unfold va_cpy
  rw [if_pos ⟨Nat.zero_le _, by omega⟩]
  exact congrArg f (by omega)
theorem q_copyS (S S2 : kD) : ∃ S', f_X9_copyFrom S S2 = some S' ∧ SA S' S2 := by
  refine ⟨_, rfl, fun k hk => ?_, fun m hm => ⟨?_, ?_, ?_⟩, fun i hi => ?_⟩
  · have : k = 0 ∨ k = 1 ∨ k = 2 ∨ k = 3 ∨ k = 4 := by omega
    rcases this with rfl | rfl | rfl | rfl | rfl <;> rfl
  · exact q_cpy _ _ 6 m hm
  · exact q_cpy _ _ 6 m hm
  · exact q_cpy _ _ 6 m hm
  · exact q_cpy _ _ 36 i hi
theorem RS_S {nm np d lt w h B : Nat} {S S' : kD} {s : Nat → Int32} (hA : SA S' S) (hs : RS nm np d lt w h B S s) (hn : nm ≤ 6) : RS nm np d lt w h B S' s := by
  obtain ⟨a0, a1, a2⟩ := hA
  obtain ⟨hd, ⟨h0, h39, h1, h40, h2, h41, h3, h42, h4⟩, hink, hwr, hle, hdb⟩ := hs
  refine ⟨hd, ⟨by rw [a0 0 (by omega)]; exact h0, h39, by rw [a0 1 (by omega)]; exact h1, h40, by rw [a0 2 (by omega)]; exact h2, h41, by rw [a0 3 (by omega)]; exact h3, h42, by rw [a0 4 (by omega)]; exact h4⟩, fun m hm => ?_, fun m hm => ?_, fun m hm => ?_, fun i hi => ?_⟩
  · rw [(a1 m (by omega)).1]; exact hink m hm
  · rw [(a1 m hm).2.1]; exact hwr m hm
  · rw [(a1 m hm).2.2]; exact hle m hm
  · rw [a2 i hi]; exact hdb i hi
theorem RS_s {nm np d lt w h B : Nat} {S : kD} {s s' : Nat → Int32} (hA : ∀ k, 39 ≤ k → k < 98 → s' k = s k) (hs : RS nm np d lt w h B S s) (hn : nm ≤ 6) : RS nm np d lt w h B S s' := by
  obtain ⟨hd, ⟨h0, h39, h1, h40, h2, h41, h3, h42, h4⟩, hink, hwr, hle, hdb⟩ := hs
  refine ⟨hd, ⟨h0, by rw [hA 39 (by omega) (by omega)]; exact h39, h1, by rw [hA 40 (by omega) (by omega)]; exact h40, h2, by rw [hA 41 (by omega) (by omega)]; exact h41, h3, by rw [hA 42 (by omega) (by omega)]; exact h42, by rw [hA 43 (by omega) (by omega)]; exact h4⟩, fun m hm => ?_, fun m hm => ?_, fun m hm => ?_, fun i hi => ?_⟩
  · rw [hA (44 + m) (by omega) (by omega)]; exact hink m hm
  · rw [hA (50 + m) (by omega) (by omega)]; exact hwr m hm
  · rw [hA (56 + m) (by omega) (by omega)]; exact hle m hm
  · rw [hA (62 + i) (by omega) (by omega)]; exact hdb i hi
theorem RS_B {nm np d lt w h B B' : Nat} {S : kD} {s : Nat → Int32} (hB : B ≤ B') (hs : RS nm np d lt w h B S s) : RS nm np d lt w h B' S s := by
  obtain ⟨hd, he, hink, hwr, hle, hdb⟩ := hs
  refine ⟨hd, he, hink, fun m hm => ?_, fun m hm => ?_, hdb⟩
  · obtain ⟨v, h1, h2⟩ := hwr m hm; exact ⟨v, by omega, h2⟩
  · obtain ⟨v, h1, h2⟩ := hle m hm; exact ⟨v, by omega, h2⟩
theorem kD_ext {M N : kD} (h1 : ∀ b, M.1 b = N.1 b) (h2 : M.2 = N.2) : M = N := Prod.ext (funext h1) h2
theorem q_SIc (M : kD) (a b k : Nat) (v : Int32) (f : Nat → Int32) (h : a ≠ b) : kSI (kI M a k v) b f = kI (kSI M b f) a k v := by
  refine kD_ext (fun c => ?_) rfl
  simp only [q_kSI, q_kI, if_neg h]
  by_cases h1 : c = b
  · subst h1; rw [if_pos rfl, if_neg (Ne.symm h), if_pos rfl]
  · by_cases h2 : c = a
    · rw [if_neg h1, if_pos h2, if_pos h2]
    · rw [if_neg h1, if_neg h2, if_neg h2, if_neg h1]
theorem q_uu (f : Nat → Int32) (k : Nat) (v w : Int32) : upd (upd f k v) k w = upd f k w := by
  funext j; unfold upd; split <;> rfl
theorem q_II (M : kD) (a k : Nat) (v w : Int32) : kI (kI M a k v) a k w = kI M a k w := by
  rw [q_kI_S, q_kI_S, q_kI_S, q_SS, q_kSI, if_pos rfl, q_uu]
/-- copying loops -/
def cpW (f g : Nat → Int32) (k : Nat) : Nat → Int32 := fun j => if j < k then f j else g j
theorem cpW_step (f g : Nat → Int32) (k : Nat) : upd (cpW f g k) k (f k) = cpW f g (k + 1) := by
  funext j
  unfold upd cpW
  by_cases h : j = k
  · subst h; rw [if_pos rfl, if_pos (by omega)]
  · rw [if_neg h]
    by_cases h2 : j < k
    · rw [if_pos h2, if_pos (by omega)]
    · rw [if_neg h2, if_neg (by omega)]
def atW (f g : Nat → Int32) (o k : Nat) : Nat → Int32 := fun j => if o ≤ j ∧ j < o + k then f (j - o) else g j
theorem atW_0 (f g : Nat → Int32) (o : Nat) : atW f g o 0 = g := by
  funext j; unfold atW; rw [if_neg (by omega)]
theorem atW_step (f g : Nat → Int32) (o k : Nat) : upd (atW f g o k) (o + k) (f k) = atW f g o (k + 1) := by
  funext j
  unfold upd atW
  by_cases h : j = o + k
  · rw [if_pos h, if_pos (by omega)]; exact congrArg f (by omega)
  · rw [if_neg h]
    by_cases h2 : o ≤ j ∧ j < o + k
    · rw [if_pos h2, if_pos (by omega)]
    · rw [if_neg h2, if_neg (by omega)]
theorem atW_in (f g : Nat → Int32) (o k j : Nat) (h : j < k) : atW f g o k (o + j) = f j := by
  unfold atW; rw [if_pos (by omega)]; exact congrArg f (by omega)
theorem atW_out (f g : Nat → Int32) (o k j : Nat) (h : j < o ∨ o + k ≤ j) : atW f g o k j = g j := by
  unfold atW; rw [if_neg (by omega)]
theorem q_keep45 (M : kD) (u : Nat) (hu : u ≤ 7) (h : M.1 0 22 = nI u) : g_X12_keep_45 M = some (kI (kSI M 20 (atW (fun j => M.1 6 (39 + j)) (M.1 20) (59 * u) 59)) 0 22 (nI (u + 1))) := by
  unfold g_X12_keep_45
  have h1 := q_one (fun f k (x : Nat → Int32) => lp (fun _ _ => none) g_X12_keep_47 f (nI k) (kSI M 20 x)) (fun k x => x = atW (fun j => M.1 6 (39 + j)) (M.1 20) (59 * u) k) (fun q => q = some (kI (kSI M 20 (atW (fun j => M.1 6 (39 + j)) (M.1 20) (59 * u) 59)) 0 22 (nI (u + 1)))) 59 ?_ ?_ 59 0 2000 (M.1 20) (by omega) (by omega) (by rw [atW_0])
  · rw [q_SM] at h1; exact h1
  · intro f k x _ hk hx ih
    show g_X12_keep_47 (lp _ _ f) (nI k) (kSI M 20 x) = _
    generalize lp _ g_X12_keep_47 f = rc at ih ⊢
    unfold g_X12_keep_47
    simp (disch := omega) only [↓q_m1, q_lit, q_le, show ¬ 59 ≤ k by omega, if_false, q_bd, nI_add, pk_mul, q_lt, Nat.not_lt_zero, false_or, q_cl, show ¬ 279 ≤ 39 + k by omega, q_kSI, h, show ¬ 472 ≤ 59 * u + k by omega, q_SI, ↓reduceIte, Nat.reduceEqDiff]
    exact ih _ (by rw [hx]; exact atW_step (fun j => M.1 6 (39 + j)) _ _ _)
  · intro f x hx
    show g_X12_keep_47 (lp _ _ f) (nI 59) (kSI M 20 x) = _
    generalize lp _ g_X12_keep_47 f = rc
    unfold g_X12_keep_47 g_X12_keep_82
    simp (disch := omega) only [↓q_m1, q_lit, q_le, Nat.le_refl, if_true, q_bd, q_kSI, h, nI_add, ↓reduceIte, Nat.reduceEqDiff, hx]
set_option maxRecDepth 4000 in
theorem q_keep8 (M : kD) : lp (fun _ _ => none) g_X12_keep_11 2000 (nI 0) M = some (kI (kSI M 20 (atW (fun j => M.1 6 (39 + j)) (cpW (fun j => M.1 20 (j + 59)) (M.1 20) 413) 413 59)) 0 22 (nI 8)) := by
  have h1 := q_one (fun f k (x : Nat → Int32) => lp (fun _ _ => none) g_X12_keep_11 f (nI k) (kSI M 20 x)) (fun k x => x = cpW (fun j => M.1 20 (j + 59)) (M.1 20) k) (fun q => q = g_X12_keep_39 (kSI M 20 (cpW (fun j => M.1 20 (j + 59)) (M.1 20) 413))) 413 ?_ ?_ 413 0 2000 (M.1 20) (by omega) (by omega) (by funext j; unfold cpW; rw [if_neg (by omega)])
  · rw [q_SM] at h1
    rw [h1]
    unfold g_X12_keep_39
    rw [q_bd, q_keep45 _ 7 (by omega) rfl, q_SIc _ _ _ _ _ _ (by omega), q_SS, q_II]
    rfl
  · intro f k x _ hk hx ih
    show g_X12_keep_11 (lp _ _ f) (nI k) (kSI M 20 x) = _
    generalize lp _ g_X12_keep_11 f = rc at ih ⊢
    unfold g_X12_keep_11
    simp (disch := omega) only [↓q_m1, q_lit, q_le, show ¬ 413 ≤ k by omega, if_false, q_bd, nI_add, q_lt, Nat.not_lt_zero, false_or, q_cl, show ¬ 472 ≤ k + 59 by omega, show ¬ 472 ≤ k by omega, q_kSI, q_SI, ↓reduceIte]
    refine ih _ ?_
    have e : x (k + 59) = M.1 20 (k + 59) := by rw [hx]; unfold cpW; rw [if_neg (by omega)]
    rw [e, hx]
    exact cpW_step (fun j => M.1 20 (j + 59)) _ _
  · intro f x hx
    show g_X12_keep_11 (lp _ _ f) (nI 413) (kSI M 20 x) = _
    generalize lp _ g_X12_keep_11 f = rc
    unfold g_X12_keep_11
    simp (disch := omega) only [↓q_m1, q_lit, q_le, Nat.le_refl, if_true, hx]
def RH (nm np B u o : Nat) (Hy : kD) (HS : Nat → kD) (un : Nat → Int32) : Prop := u ≤ 8 ∧ o < 8 ∧ Hy.1 0 0 = nI u ∧ Hy.1 0 1 = nI o ∧
  ∀ i, i < u → ∃ d lt w h, d ≤ 400 ∧ RS nm np d lt w h B (HS ((o + i) % 8)) (fun k => un (59 * i + (k - 39)))
theorem q_keepC (Hy : kD) (HS : Nat → kD) (S : kD) (u o : Nat) (h0 : Hy.1 0 0 = nI u) (h1 : Hy.1 0 1 = nI o) (hu : u ≤ 7) (ho : o < 8) :
    ∃ S', SA S' S ∧ g_X2_keep_32 S Hy HS = some (kI Hy 0 0 (nI (u + 1)), upF HS ((o + u) % 8) S') := by
  obtain ⟨S', e, hA⟩ := q_copyS (HS ((o + u) % 8)) S
  refine ⟨S', hA, ?_⟩
  have hr : (o + u) % 8 < 8 := Nat.mod_lt _ (by omega)
  unfold g_X2_keep_32
  simp (disch := omega) only [↓q_m1, q_lit, h0, h1, nI_add, q_rem, q_bd]
  generalize (o + u) % 8 = r at e hr ⊢
  have : r = 0 ∨ r = 1 ∨ r = 2 ∨ r = 3 ∨ r = 4 ∨ r = 5 ∨ r = 6 ∨ r = 7 := by omega
  rcases this with rfl | rfl | rfl | rfl | rfl | rfl | rfl | rfl <;>
    simp (disch := omega) only [q_eq, Nat.reduceEqDiff, ↓reduceIte, e, q_bo]
theorem q_keep {nm np d lt w h B u o : Nat} {S M Hy : kD} {HS : Nat → kD} (hn : nm ≤ 6) (hs : RS nm np d lt w h B S (M.1 6)) (hd : d ≤ 400) (hH : RH nm np B u o Hy HS (M.1 20)) (hu : M.1 0 22 = nI u) :
    ∃ Hy' HS' un' u' o', f_X2_keep Hy HS S = some (Hy', HS') ∧ f_X12_keep M = some (kI (kSI M 20 un') 0 22 (nI (u' + 1))) ∧ RH nm np B (u' + 1) o' Hy' HS' un' ∧ u' ≤ 7 ∧ ∀ j, j < 59 → un' (59 * u' + j) = M.1 6 (39 + j) := by
  obtain ⟨hu8, ho8, h0, h1, hr⟩ := hH
  unfold f_X2_keep f_X12_keep
  simp (disch := omega) only [↓q_m1, q_lit, h0, h1, hu, q_eq]
  by_cases h8 : u = 8
  · subst h8
    obtain ⟨S', hA, e⟩ := q_keepC (kI (kI Hy 0 1 (nI ((o + 1) % 8))) 0 0 (nI 7)) HS S 7 ((o + 1) % 8) rfl rfl (by omega) (Nat.mod_lt _ (by omega))
    have hk2 := q_keep8 M
    have e7 : (kI Hy 0 1 (nI ((o + 1) % 8))).1 0 0 - nI 1 = nI 7 := by
      rw [show (kI Hy 0 1 (nI ((o + 1) % 8))).1 0 0 = Hy.1 0 0 from rfl, h0]
      rfl
    rw [if_pos rfl, if_pos rfl, q_bd, q_bd, nI_add, q_rem (by omega) (by omega) (by omega), e7]
    refine ⟨_, _, _, 7, (o + 1) % 8, e, hk2, ⟨by omega, Nat.mod_lt _ (by omega), rfl, rfl, ?_⟩, by omega, ?_⟩
    · intro i hi
      by_cases hiu : i = 7
      · subst hiu
        refine ⟨d, lt, w, h, hd, ?_⟩
        have : upF HS (((o + 1) % 8 + 7) % 8) S' (((o + 1) % 8 + 7) % 8) = S' := if_pos rfl
        rw [this]
        refine RS_S hA (RS_s (fun k h39 h98 => ?_) hs hn) hn
        show atW _ _ _ _ _ = _
        rw [show 59 * 7 + (k - 39) = 413 + (k - 39) by omega, atW_in _ _ _ _ _ (by omega)]
        exact congrArg (M.1 6) (by omega)
      · obtain ⟨d2, lt2, w2, h2, hd2, hr2⟩ := hr (i + 1) (by omega)
        refine ⟨d2, lt2, w2, h2, hd2, ?_⟩
        have : upF HS (((o + 1) % 8 + 7) % 8) S' (((o + 1) % 8 + i) % 8) = HS ((o + (i + 1)) % 8) := by
          rw [show ((o + 1) % 8 + i) % 8 = (o + (i + 1)) % 8 by omega]
          exact if_neg (by omega)
        rw [this]
        refine RS_s (fun k h39 h98 => ?_) hr2 hn
        show atW _ _ _ _ _ = _
        rw [atW_out _ _ _ _ _ (by omega)]
        unfold cpW
        rw [if_pos (by omega)]
        exact congrArg (M.1 20) (by omega)
    · intro j hj
      rw [show 59 * 7 + j = 413 + j by omega]
      exact atW_in _ _ _ _ _ hj
  · rw [if_neg h8, if_neg h8]
    obtain ⟨S', hA, e⟩ := q_keepC Hy HS S u o h0 h1 (by omega) ho8
    refine ⟨_, _, _, u, o, e, q_keep45 M u (by omega) hu, ⟨by omega, ho8, ?_, ?_, ?_⟩, by omega, ?_⟩
    · simp only [q_kI, q_up, ↓reduceIte]
    · simp only [q_kI, q_up, ↓reduceIte, Nat.reduceEqDiff]
      exact h1
    · intro i hi
      by_cases hiu : i = u
      · subst hiu
        refine ⟨d, lt, w, h, hd, ?_⟩
        have : upF HS ((o + i) % 8) S' ((o + i) % 8) = S' := if_pos rfl
        rw [this]
        refine RS_S hA (RS_s (fun k h39 h98 => ?_) hs hn) hn
        show atW _ _ _ _ _ = _
        rw [atW_in _ _ _ _ _ (by omega)]
        exact congrArg (M.1 6) (by omega)
      · obtain ⟨d2, lt2, w2, h2, hd2, hr2⟩ := hr i (by omega)
        refine ⟨d2, lt2, w2, h2, hd2, ?_⟩
        have : upF HS ((o + u) % 8) S' ((o + i) % 8) = HS ((o + i) % 8) := if_neg (by omega)
        rw [this]
        refine RS_s (fun k h39 h98 => ?_) hr2 hn
        show atW _ _ _ _ _ = _
        rw [atW_out _ _ _ _ _ (by omega)]
    · intro j hj
      exact atW_in _ _ _ _ _ hj
