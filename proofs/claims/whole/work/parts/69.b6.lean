/-! machine-free: BOOK, the end of the call -/
def kpU (u : Nat) : Nat := if u = 8 then 7 else u
def kpG (u : Nat) (r : Nat → Int32) : Nat → Int32 := if u = 8 then cpW (fun j => r (j + 59)) r 413 else r
theorem q_keepX (M : kD) {u : Nat} (hu : M.1 0 22 = nI u) (h8 : u ≤ 8) : f_X12_keep M = some (kI (kSI M 20 (atW (fun j => M.1 6 (39 + j)) (kpG u (M.1 20)) (59 * kpU u) 59)) 0 22 (nI (kpU u + 1))) := by
  unfold f_X12_keep kpU kpG
  simp (disch := omega) only [↓q_m1, q_lit, hu, q_eq]
  by_cases h : u = 8
  · rw [if_pos h, if_pos h, if_pos h, q_keep8]
  · rw [if_neg h, if_neg h, if_neg h, q_keep45 M u (by omega) hu]
theorem atW_2 (f g r : Nat → Int32) (o n : Nat) : atW f (atW g r o n) o n = atW f r o n := by
  funext j
  unfold atW
  by_cases h : o ≤ j ∧ j < o + n
  · rw [if_pos h, if_pos h]
  · rw [if_neg h, if_neg h, if_neg h]
theorem atW_cg (f g r : Nat → Int32) (o n : Nat) (h : ∀ j, j < n → f j = g j) : atW f r o n = atW g r o n := by
  funext j
  unfold atW
  by_cases h1 : o ≤ j ∧ j < o + n
  · rw [if_pos h1, if_pos h1]; exact h _ (by omega)
  · rw [if_neg h1, if_neg h1]
/-- what was kept is overwritten by what was before the trial -/
theorem q_over (x1 x2 : Int32) (M : kD) (u : Nat) (hu : u ≤ 7) (h : M.1 0 22 = nI (u + 1)) : lp (fun _ _ _ _ => none) g_X12_book_241 2000 x1 x2 (nI 0) M = g_X12_book_275 x1 x2 (kSI M 20 (atW (M.1 21) (M.1 20) (59 * u) 59)) := by
  have h1 := q_one (fun f k (x : Nat → Int32) => lp (fun _ _ _ _ => none) g_X12_book_241 f x1 x2 (nI k) (kSI M 20 x)) (fun k x => x = atW (M.1 21) (M.1 20) (59 * u) k) (fun q => q = g_X12_book_275 x1 x2 (kSI M 20 (atW (M.1 21) (M.1 20) (59 * u) 59))) 59 ?_ ?_ 59 0 2000 (M.1 20) (by omega) (by omega) (by rw [atW_0])
  · rw [q_SM] at h1; exact h1
  · intro f k x _ hk hx ih
    simp only [q_lp]
    generalize lp _ g_X12_book_241 f = rc at ih ⊢
    unfold g_X12_book_241
    simp (disch := omega) only [↓q_m1, q_lit, ↓q_bd, ↓reduceIte, q_le, show ¬ 59 ≤ k by omega, nI_add, pk_mul, q_lt, Nat.not_lt_zero, false_or, q_cl, q_kSI, h, q_sub, Nat.add_sub_cancel, show ¬ 59 ≤ k by omega, show ¬ 472 ≤ 59 * u + k by omega, q_SI, Nat.reduceEqDiff]
    exact ih _ (by rw [hx]; exact atW_step (M.1 21) _ _ _)
  · intro f x hx
    simp only [q_lp]
    generalize lp _ g_X12_book_241 f = rc
    unfold g_X12_book_241
    simp (disch := omega) only [↓q_m1, q_lit, ↓reduceIte, q_le, Nat.le_refl, hx]
def MXB (M M' : kD) : Prop := M'.2 = M.2 ∧ (∀ b, b ≠ 0 → b ≠ 6 → b ≠ 20 → b ≠ 37 → M'.1 b = M.1 b) ∧ (∀ k, k ≠ 22 → k ≠ 38 → M'.1 0 k = M.1 0 k) ∧ (∀ k, k < 39 → M'.1 6 k = M.1 6 k) ∧ (∀ k, 98 ≤ k → M'.1 6 k = M.1 6 k)
theorem q_sumW {nm np d lt w h B : Nat} {S M : kD} (hn : nm ≤ 6) (h0 : M.1 6 0 = nI nm) (hs : RS nm np d lt w h B S (M.1 6)) : f_X11_sumOf 6 (S.1 6) = f_X12_sumOf (nI 50) M := by
  rw [q_sum 6 (S.1 6) (by omega), q_sum12 hn h0 50 (by omega), smI_cut (S.1 6) nm 6 hn (fun k h1 h2 => ?_), smI_cg (S.1 6) (fun m => M.1 6 (50 + m)) nm (fun k hk => ?_)]
  · obtain ⟨v, _, v1, v2, _⟩ := hs.2.2.2.1 k (by omega)
    rw [v1, v2]
  · obtain ⟨v, _, v1, v2, v3⟩ := hs.2.2.2.1 k (by omega)
    rw [v1, v3 h1]
theorem q_bkEnd {nm np d lt w h B x k v : Nat} {O S Hy M TR : kD} {HS : Nat → kD} {s' t : Nat → Int32} (x2 : Int32) (ho : RO nm np O (M.1 6)) (hr : RSH nm np B S Hy HS M) (hb : ∀ j, j < 59 → M.1 21 j = M.1 6 (39 + j)) (hx : x ≤ 1) (hd : d ≤ 400) (hs : RS nm np d lt w h B TR s') (hk : k ≤ 40) (l39 : ∀ k, k < 39 → s' k = M.1 6 k) (g98 : ∀ k, 98 ≤ k → s' k = M.1 6 k) (k0 : k = 0 → s' = M.1 6) (t0 : t 0 = nI v) (t1 : t 1 = nI k) :
    ∃ S' Hy' HS' M' q, ((x = 1 ∧ k ≠ 0 ∧ f_X2_keep Hy HS S = some (Hy', HS') ∧ f_X9_copyFrom S TR = some S') ∨ ((x = 0 ∨ k = 0) ∧ S' = S ∧ Hy' = Hy ∧ HS' = HS)) ∧ f_X11_sumOf 6 (TR.1 6) = some q ∧ g_X12_book_191 (nI x) x2 (kSI (kSI M 6 s') 37 t) = some (x2, M') ∧ MXB M M' ∧ RSH nm np B S' Hy' HS' M' ∧ M'.1 37 0 = nI v ∧ M'.1 37 1 = nI k ∧ M'.1 37 2 = TR.1 0 0 ∧ M'.1 37 3 = q ∧ M'.1 0 38 = nI 1 := by
  have hr0 := hr
  obtain ⟨d0, lt0, w0, h0, u, o, hd0, hs0, hH, hu⟩ := hr
  have hn : nm ≤ 6 := ho.1.1
  have e0 : s' 0 = nI nm := (l39 0 (by omega)).trans ho.2.1.1
  obtain ⟨q, hq⟩ : ∃ q, f_X12_sumOf (nI 50) (kSI (kSI (kSI M 6 s') 37 t) 37 (upd t 2 (s' 39))) = some q := ⟨_, q_sum12 (M := kSI (kSI (kSI M 6 s') 37 t) 37 (upd t 2 (s' 39))) hn e0 50 (by omega)⟩
  have hq1 := q_sumW (M := kSI (kSI (kSI M 6 s') 37 t) 37 (upd t 2 (s' 39))) hn e0 hs
  rw [hq] at hq1
  have h39 : TR.1 0 0 = s' 39 := hs.2.1.1.trans hs.2.1.2.1.symm
  have hfirst : g_X12_book_191 (nI x) x2 (kSI (kSI M 6 s') 37 t) = (if x = 1 then if k ≤ 0 then g_X12_book_275 (nI x) x2 (kI (kSI (kSI M 6 s') 37 (upd (upd t 2 (s' 39)) 3 q)) 0 38 (nI 1)) else bo (f_X12_keep (kI (kSI (kSI M 6 s') 37 (upd (upd t 2 (s' 39)) 3 q)) 0 38 (nI 1))) fun M14 => lp (fun _ _ _ _ => none) (g_X12_book_241) 2000 (nI x) x2 (nI 0) M14 else g_X12_book_275 (nI x) x2 (kI (kSI (kSI M 6 s') 37 (upd (upd t 2 (s' 39)) 3 q)) 0 38 (nI 1))) := by
    have eM : kI (kSI (kSI M 6 s') 37 t) 37 2 (s' 39) = kSI (kSI (kSI M 6 s') 37 t) 37 (upd t 2 (s' 39)) := rfl
    have eM2 : kI (kSI (kSI (kSI M 6 s') 37 t) 37 (upd t 2 (s' 39))) 37 3 q = kSI (kSI M 6 s') 37 (upd (upd t 2 (s' 39)) 3 q) := by
      rw [q_kI_S, q_SS, q_SS]; rfl
    have e37 : (kI (kSI (kSI M 6 s') 37 (upd (upd t 2 (s' 39)) 3 q)) 0 38 (nI 1)).1 37 1 = nI k := t1
    unfold g_X12_book_191
    simp (disch := omega) only [↓q_m1, q_lit, ↓q_bd, q_cl]
    rw [show (kSI (kSI M 6 s') 37 t).1 6 39 = s' 39 from rfl, eM, hq]
    simp (disch := omega) only [↓q_bo, eM2, e37, q_eq, q_le]
  rw [hfirst]
  have hZ : ∀ M' : kD, M'.1 37 = upd (upd t 2 (s' 39)) 3 q → M'.1 37 0 = nI v ∧ M'.1 37 1 = nI k ∧ M'.1 37 2 = TR.1 0 0 ∧ M'.1 37 3 = q := by
    intro M' h9
    rw [h9, h39]
    exact ⟨t0, t1, rfl, rfl⟩
  by_cases hx1 : x = 1
  · subst hx1
    rw [if_pos rfl]
    by_cases hk0 : k = 0
    · rw [if_pos (by omega)]
      unfold g_X12_book_275
      rw [show (0 : Int32) = nI 0 from rfl, if_neg (show ¬ nI 1 = nI 0 by decide)]
      refine ⟨S, Hy, HS, _, q, Or.inr ⟨Or.inr hk0, rfl, rfl, rfl⟩, hq1, rfl, ⟨rfl, fun b b0 b6 b20 b37 => ?_, fun j j22 j38 => up_ne j38, fun j hj => l39 j hj, fun j hj => g98 j hj⟩, ⟨d0, lt0, w0, h0, u, o, hd0, ?_, hH, hu⟩, (hZ _ rfl).1, (hZ _ rfl).2.1, (hZ _ rfl).2.2.1, (hZ _ rfl).2.2.2, rfl⟩
      · simp only [q_kI, q_kSI, if_neg b0, if_neg b6, if_neg b37]
      · show RS nm np d0 lt0 w0 h0 B S s'
        rw [k0 hk0]; exact hs0
    · rw [if_neg (by omega)]
      obtain ⟨Hy', HS', un', u', o', k1, k2, k3, k4, k5⟩ := q_keep hn hs0 hd0 hH hu
      have k2' := q_keepX M hu hH.1
      rw [k2] at k2'
      have k2a := Option.some.inj k2'
      have k2b : un' = atW (fun j => M.1 6 (39 + j)) (kpG u (M.1 20)) (59 * kpU u) 59 := congrArg (fun D : kD => D.1 20) k2a
      have k2c : nI (u' + 1) = nI (kpU u + 1) := congrArg (fun D : kD => D.1 0 22) k2a
      have hU : kpU u ≤ 7 := by
        have := hH.1
        unfold kpU
        split <;> omega
      rw [q_eq (by omega) (by omega)] at k2c
      have hU2 : u' = kpU u := by omega
      rw [q_keepX (kI (kSI (kSI M 6 s') 37 (upd (upd t 2 (s' 39)) 3 q)) 0 38 (nI 1)) (u := u) hu hH.1, q_bo, q_over (nI 1) x2 _ (kpU u) hU rfl]
      obtain ⟨S', c1, c2⟩ := q_copyS S TR
      unfold g_X12_book_275
      rw [show (0 : Int32) = nI 0 from rfl, if_neg (show ¬ nI 1 = nI 0 by decide)]
      refine ⟨S', Hy', HS', _, q, Or.inl ⟨rfl, hk0, k1, c1⟩, hq1, rfl, ⟨rfl, fun b b0 b6 b20 b37 => ?_, fun j j22 j38 => ?_, fun j hj => l39 j hj, fun j hj => g98 j hj⟩, ⟨d, lt, w, h, u' + 1, o', hd, RS_S c2 hs hn, ?_, ?_⟩, (hZ _ rfl).1, (hZ _ rfl).2.1, (hZ _ rfl).2.2.1, (hZ _ rfl).2.2.2, rfl⟩
      · simp only [q_kI, q_kSI, if_neg b0, if_neg b6, if_neg b37, if_neg b20]
      · show upd (upd (M.1 0) 38 (nI 1)) 22 _ j = _
        rw [up_ne j22, up_ne j38]
      · have e20 : atW (M.1 21) (atW (fun j => s' (39 + j)) (kpG u (M.1 20)) (59 * kpU u) 59) (59 * kpU u) 59 = un' := by
          rw [atW_2, k2b]
          exact atW_cg _ _ _ _ _ hb
        show RH nm np B (u' + 1) o' Hy' HS' (atW (M.1 21) (atW (fun j => s' (39 + j)) (kpG u (M.1 20)) (59 * kpU u) 59) (59 * kpU u) 59)
        rw [e20]; exact k3
      · rw [hU2]; rfl
  · have hx0 : x = 0 := by omega
    subst hx0
    rw [if_neg (by omega)]
    unfold g_X12_book_275
    rw [show (0 : Int32) = nI 0 from rfl, if_pos rfl]
    obtain ⟨F, f1, f2, f3⟩ := q_backM (kI (kSI (kSI M 6 s') 37 (upd (upd t 2 (s' 39)) 3 q)) 0 38 (nI 1))
    rw [f1, q_bo]
    refine ⟨S, Hy, HS, _, q, Or.inr ⟨Or.inl rfl, rfl, rfl, rfl⟩, hq1, rfl, ⟨rfl, fun b b0 b6 b20 b37 => ?_, fun j j22 j38 => up_ne j38, fun j hj => (f3 j (Or.inl hj)).trans (l39 j hj), fun j hj => (f3 j (Or.inr hj)).trans (g98 j hj)⟩, ⟨d0, lt0, w0, h0, u, o, hd0, RS_s (fun j j39 j98 => ?_) hs0 hn, hH, hu⟩, (hZ _ rfl).1, (hZ _ rfl).2.1, (hZ _ rfl).2.2.1, (hZ _ rfl).2.2.2, rfl⟩
    · simp only [q_kI, q_kSI, if_neg b0, if_neg b6, if_neg b37]
    · show F j = M.1 6 j
      rw [show j = 39 + (j - 39) by omega, f2 (j - 39) (by omega)]
      exact hb _ (by omega)
