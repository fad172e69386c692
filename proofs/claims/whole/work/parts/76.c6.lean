/-! machine-free: SENTENCE, the whole call -/
theorem q_rO {L nm np n0 : Nat} {T : Nat → Int32} {O : kD} (hL : L < 2 ^ 31) : ∀ n d, 10 ≤ n + d → d ≤ 9 → IT n0 L nm np d 0 T O (f_X8_rO n) := by
  intro n
  induction n with
  | zero => intro d h1 h2; omega
  | succ n ih =>
    intro d h1 h2
    exact q_readOne hL (by omega) (fun h8 => q_cond hL (by omega) (q_all hL (by omega) (ih (d + 1) (by omega) (by omega)))) (fun h8 => ih (d + 1) (by omega) (by omega))
theorem q_readC {L nm np n0 : Nat} {T : Nat → Int32} {O : kD} (hL : L < 2 ^ 31) : IT n0 L nm np 1 2 T O f_X8_readCond :=
  q_cond hL (by omega) (q_all hL (by omega) (q_rO hL 12 1 (by omega) (by omega)))
theorem q_bo3n {α β γ δ : Type} (k : α → β → γ → Option δ) : bo3 none k = none := rfl
theorem q_bo2n {α β γ : Type} (k : α → β → Option γ) : bo2 none k = none := rfl
def RSN (nm np : Nat) (N : kD) (s : Nat → Int32) : Prop := ∃ e, e ≤ 40 ∧ N.1 0 1 = nI e ∧ s 98 = nI e ∧ (∀ i, i < e → SE nm np (N.1 2 i) (N.1 3 i) (N.1 4 i) (s (99 + 3 * i)) (s (99 + 3 * i + 1)) (s (99 + 3 * i + 2))) ∧ (e ≠ 0 → dpW (N.1 2) e = 1) ∧ ∀ i, i < e → okW (N.1 2) i
theorem RSN_0 {nm np : Nat} {N : kD} {s : Nat → Int32} (h1 : N.1 0 1 = nI 0) (h2 : s 98 = nI 0) : RSN nm np N s := ⟨0, by omega, h1, h2, fun i hi => absurd hi (Nat.not_lt_zero i), fun h => absurd rfl h, fun i hi => absurd hi (Nat.not_lt_zero i)⟩
theorem RSN_s {nm np : Nat} {N : kD} {s s' : Nat → Int32} (h : RSN nm np N s) (hs : ∀ k, 98 ≤ k → s' k = s k) : RSN nm np N s' := by
  obtain ⟨e, h1, h2, h3, h4, h5⟩ := h
  refine ⟨e, h1, h2, by rw [hs 98 (by omega)]; exact h3, fun i hi => ?_, h5⟩
  rw [hs (99 + 3 * i) (by omega), hs (99 + 3 * i + 1) (by omega), hs (99 + 3 * i + 2) (by omega)]
  exact h4 i hi
/-- the class's copy of a sentence -/
theorem q_copyN (N N2 : kD) : ∃ N', f_X8_copyFrom N N2 = some N' ∧ N'.1 0 0 = N2.1 0 0 ∧ N'.1 0 1 = N2.1 0 1 ∧ ∀ b i, b = 2 ∨ b = 3 ∨ b = 4 → i < 40 → N'.1 b i = N2.1 b i := by
  unfold f_X8_copyFrom
  simp only [↓q_m1, q_lit, ↓q_bd]
  refine q_one (fun f k (x : kD) => lp (fun _ _ => none) (g_X8_copyFrom_18 N2) f (nI k) x) (fun k x => x.1 0 0 = N2.1 0 0 ∧ x.1 0 1 = N2.1 0 1 ∧ ∀ b i, b = 2 ∨ b = 3 ∨ b = 4 → i < k → x.1 b i = N2.1 b i) (fun r => ∃ N', r = some N' ∧ N'.1 0 0 = N2.1 0 0 ∧ N'.1 0 1 = N2.1 0 1 ∧ ∀ b i, b = 2 ∨ b = 3 ∨ b = 4 → i < 40 → N'.1 b i = N2.1 b i) 40 ?_ ?_ 40 0 2000 _ (by omega) (by omega) ⟨rfl, rfl, fun b i _ hi => absurd hi (Nat.not_lt_zero i)⟩
  · intro f k x _ hk ⟨h0, h1, h2⟩ ih
    simp only [q_lp]
    generalize lp _ (g_X8_copyFrom_18 N2) f = rc at ih ⊢
    unfold g_X8_copyFrom_18
    simp (disch := omega) only [↓q_m1, q_lit, ↓q_bd, q_le, show ¬ 40 ≤ k by omega, ↓reduceIte, q_lt, Nat.not_lt_zero, false_or, q_cl, nI_add]
    refine ih _ ⟨h0, h1, fun b i hb hi => ?_⟩
    by_cases hik : i = k
    · subst hik
      rcases hb with rfl | rfl | rfl
      · show upd (x.1 2) i (N2.1 2 i) i = _
        rw [up_eq]
      · show upd (x.1 3) i (N2.1 3 i) i = _
        rw [up_eq]
      · show upd (x.1 4) i (N2.1 4 i) i = _
        rw [up_eq]
    · have := h2 b i hb (by omega)
      rcases hb with rfl | rfl | rfl
      · show upd (x.1 2) k (N2.1 2 k) i = _
        rw [up_ne hik]; exact this
      · show upd (x.1 3) k (N2.1 3 k) i = _
        rw [up_ne hik]; exact this
      · show upd (x.1 4) k (N2.1 4 k) i = _
        rw [up_ne hik]; exact this
  · intro f x hx
    simp only [q_lp]
    generalize lp _ (g_X8_copyFrom_18 N2) f = rc
    unfold g_X8_copyFrom_18
    simp (disch := omega) only [↓q_m1, q_lit, q_le, Nat.le_refl, ↓reduceIte]
    exact ⟨x, rfl, hx⟩
theorem RSN_c {nm np : Nat} {N N' : kD} {s : Nat → Int32} (h : RSN nm np N s) (h1 : N'.1 0 1 = N.1 0 1) (h2 : ∀ b i, b = 2 ∨ b = 3 ∨ b = 4 → i < 40 → N'.1 b i = N.1 b i) : RSN nm np N' s := by
  obtain ⟨e, g1, g2, g3, g4, g5, g6⟩ := h
  have hcg : ∀ i, i < e → N'.1 2 i = N.1 2 i := fun i hi => h2 2 i (Or.inl rfl) (by omega)
  refine ⟨e, g1, h1.trans g2, g3, fun i hi => ?_, fun he => ?_, fun i hi => ?_⟩
  · rw [h2 2 i (Or.inl rfl) (by omega), h2 3 i (Or.inr (Or.inl rfl)) (by omega), h2 4 i (Or.inr (Or.inr rfl)) (by omega)]
    exact g4 i hi
  · rw [dpW_cg hcg]; exact g5 he
  · exact okW_cg hcg hi (g6 i hi)
/-- the reference lays the codes behind the state -/
theorem q_lay (M : kD) (e : Nat) (he : e ≤ 40) (h : M.1 0 40 = nI e) : g_X12_sentence_132 M = some (M.1 0 41, kSI M 6 (atW (M.1 8) (upd (M.1 6) 98 (nI e)) 99 (3 * e))) := by
  have h1 := q_one (fun f k (x : Nat → Int32) => lp (fun _ _ => none) g_X12_sentence_145 f (nI k) (kSI M 6 x)) (fun k x => x = atW (M.1 8) (upd (M.1 6) 98 (nI e)) 99 k) (fun q => q = some (M.1 0 41, kSI M 6 (atW (M.1 8) (upd (M.1 6) 98 (nI e)) 99 (3 * e)))) (3 * e) ?_ ?_ (3 * e) 0 2000 (upd (M.1 6) 98 (nI e)) (by omega) (by omega) (by rw [atW_0])
  · unfold g_X12_sentence_132
    simp (disch := omega) only [↓q_m1, q_lit, ↓q_bd, h, q_cl]
    exact h1
  · intro f k x _ hk hx ih
    simp only [q_lp]
    generalize lp _ g_X12_sentence_145 f = rc at ih ⊢
    unfold g_X12_sentence_145
    simp (disch := omega) only [↓q_m1, q_lit, ↓q_bd, ↓reduceIte, q_kSI, Nat.reduceEqDiff, h, pk_mul, q_le, show ¬ 3 * e ≤ k by omega, nI_add, q_lt, Nat.not_lt_zero, false_or, q_cl, show ¬ 135 ≤ k by omega, show ¬ 279 ≤ 99 + k by omega, q_SI]
    exact ih _ (by rw [hx]; exact atW_step (M.1 8) _ _ _)
  · intro f x hx
    simp only [q_lp]
    generalize lp _ g_X12_sentence_145 f = rc
    unfold g_X12_sentence_145
    simp (disch := omega) only [↓q_m1, q_lit, ↓reduceIte, q_kSI, Nat.reduceEqDiff, h, pk_mul, q_le, Nat.le_refl, hx]
def MXv (M M' : kD) : Prop := (∀ k, k ≠ 0 → k ≠ 2 → k ≠ 3 → k ≠ 4 → k ≠ 5 → k ≠ 11 → k ≠ 12 → k ≠ 13 → k ≠ 14 → k ≠ 15 → k ≠ 16 → k ≠ 18 → k ≠ 40 → k ≠ 41 → k ≠ 42 → k ≠ 43 → k ≠ 44 → M'.1 0 k = M.1 0 k) ∧ (∀ b, b ≠ 0 → b ≠ 6 → b ≠ 8 → b ≠ 39 → M'.1 b = M.1 b) ∧ (∀ k, k < 98 → M'.1 6 k = M.1 6 k) ∧ (∀ b, b ≠ 0 → M'.2 b = M.2 b) ∧ (∀ k, k ≠ 17 → M'.2 0 k = M.2 0 k)
theorem q_sentence {n nm np : Nat} {T : Nat → Int32} {K R C O S N RN M : kD} (hR : RT n K T M) (hW : WT M) (hl : RLo nm np O (M.1 6) (M.2 9)) (hN : RSN nm np N (M.1 6)) :
    ∃ r K' R' N' RN' M', f_X11_sentence K T R C O S N RN = some (r, K', R', N', RN') ∧ f_X12_sentence M = some (r, M') ∧ RT 0 K' T M' ∧ RSN nm np N' (M'.1 6) ∧ K'.1 0 16 = M'.1 0 15 ∧ M'.1 0 0 = nI 0 ∧ KX K K' ∧ K'.1 0 15 = K.1 0 15 ∧ MXv M M' := by
  obtain ⟨M31, t1, t2, t3, t4, t5, t6⟩ := q_take hR (nI 200)
  obtain ⟨M31', u1, u2, u3, u4, u5, u6, u7, u8⟩ := q_taken (kI M 0 0 (nI 0)) n (nI 200) hR.2.2.1
  have hn := hR.1
  have e31 : M31' = M31 := by
    rw [t1] at u1
    exact (Option.some.inj u1).symm
  rw [e31] at u8
  have h00 : M31.1 0 0 = nI 0 := (u8 0 (by omega) (by omega) (by omega) (by omega)).trans rfl
  generalize hQ : kI (kI (kI (kI (kI (kI M31 0 15 (nI 0)) 0 40 (nI 0)) 0 41 (nI 0)) 0 42 (nI 0)) 0 43 (nI 1)) 0 44 (nI 0) = Q
  have Q0 : Q.1 0 = upd (upd (upd (upd (upd (upd (M31.1 0) 15 (nI 0)) 40 (nI 0)) 41 (nI 0)) 42 (nI 0)) 43 (nI 1)) 44 (nI 0) := by rw [← hQ]; rfl
  have Qlo : ∀ j, j < 40 → j ≠ 15 → Q.1 0 j = M31.1 0 j := by
    intro j j1 j2
    rw [Q0, up_ne (by omega), up_ne (by omega), up_ne (by omega), up_ne (by omega), up_ne (by omega), up_ne (by omega)]
  have q3 : ∀ b, b ≠ 0 → Q.1 b = M31.1 b := fun b hb => by rw [← hQ, q_kI, if_neg hb, q_kI, if_neg hb, q_kI, if_neg hb, q_kI, if_neg hb, q_kI, if_neg hb, q_kI, if_neg hb]
  have q4 : Q.2 = M31.2 := by rw [← hQ]; rfl
  have hzQ : RZ n T Q := RZ_f t2 (Qlo 3 (by omega) (by omega)) (q3 1 (by omega))
  obtain ⟨R0, r1, r2, r3, r4, r5, r6, r7⟩ := q_openR (T := T) (L := 200) (R := R) hn
  obtain ⟨R1, M1, l, k, v, p, a, n1, n2, n3, n4, n5, n6⟩ := q_next hzQ (L := 200) (by omega) r2 r3 r4 ((Qlo 5 (by omega) (by omega)).trans t5) r5 ((Qlo 4 (by omega) (by omega)).trans t4) (Nat.zero_le n)
  have fQ : ∀ j, j ≠ 4 → j ≠ 11 → j ≠ 12 → j ≠ 13 → j ≠ 14 → M1.1 0 j = Q.1 0 j := n5.1
  have m15 : M1.1 0 15 = nI 0 := by
    rw [fQ 15 (by omega) (by omega) (by omega) (by omega) (by omega), Q0]; rfl
  have m40 : M1.1 0 40 = nI 0 := by
    rw [fQ 40 (by omega) (by omega) (by omega) (by omega) (by omega), Q0]; rfl
  have m41 : M1.1 0 41 = nI 0 := by
    rw [fQ 41 (by omega) (by omega) (by omega) (by omega) (by omega), Q0]; rfl
  have m42 : M1.1 0 42 = nI 0 := by
    rw [fQ 42 (by omega) (by omega) (by omega) (by omega) (by omega), Q0]; rfl
  have m43 : M1.1 0 43 = nI 1 := by
    rw [fQ 43 (by omega) (by omega) (by omega) (by omega) (by omega), Q0]; rfl
  have m44 : M1.1 0 44 = nI 0 := by
    rw [fQ 44 (by omega) (by omega) (by omega) (by omega) (by omega), Q0]; rfl
  have fr0 : ∀ j, j ≠ 0 → j ≠ 2 → j ≠ 3 → j ≠ 4 → j ≠ 5 → j ≠ 11 → j ≠ 12 → j ≠ 13 → j ≠ 14 → j ≠ 15 → j ≠ 40 → j ≠ 41 → j ≠ 42 → j ≠ 43 → j ≠ 44 → M1.1 0 j = M.1 0 j := by
    intro j j0 j2 j3 j4 j5 j11 j12 j13 j14 j15 j40 j41 j42 j43 j44
    rw [fQ j j4 j11 j12 j13 j14, Q0, up_ne j44, up_ne j43, up_ne j42, up_ne j41, up_ne j40, up_ne j15]
    exact t3.2.2.1 j j0 j2 j3 j4 j5
  have fr1 : ∀ b, b ≠ 0 → M1.1 b = M.1 b := by
    intro b b0
    rw [n5.2.1 b b0, q3 b b0]
    exact t3.2.1 b b0
  have fr2 : ∀ b, b ≠ 0 → M1.2 b = M.2 b := by
    intro b b0
    rw [n5.2.2.1 b b0, q4, t3.1]
  have fr3 : ∀ j, j ≠ 17 → M1.2 0 j = M.2 0 j := by
    intro j j17
    rw [n5.2.2.2 j j17, q4, t3.1]
  have hS1 : SH nm np O M1 := by
    refine ⟨?_, ?_⟩
    · rw [fr1 6 (by omega), fr2 9 (by omega)]; exact hl
    · unfold WT
      rw [fr2 10 (by omega)]; exact hW
  have m10 : M1.1 0 0 = nI 0 := by
    rw [fQ 0 (by omega) (by omega) (by omega) (by omega) (by omega), Qlo 0 (by omega) (by omega)]; exact h00
  have m12 : M1.1 0 2 = nI 0 := by
    rw [fQ 2 (by omega) (by omega) (by omega) (by omega) (by omega), Qlo 2 (by omega) (by omega)]; exact t3.2.2.2
  have hz : SZ nm np 0 0 1 0 0 [] (kI (kI RN 0 0 (nI 0)) 0 1 (nI 0)) M1 := ⟨⟨rfl, m41, rfl⟩, ⟨by omega, by omega, Nat.le_refl _, by omega⟩, ⟨0, rfl, m40, fun i hi => absurd hi (Nat.not_lt_zero i), trivial⟩, ⟨m42, m43⟩, rfl, fun i hi => absurd hi (Nat.not_lt_zero i)⟩
  have hit := q_readC (n0 := n) (L := 200) (nm := nm) (np := np) (T := T) (O := O) (by omega) 2000 0 0 0 0 l k v p a _ R1 M1 n3 hS1 hz m44 (by omega) (Or.inr (Or.inl rfl))
  have hC : f_X11_sentence K T R C O S N RN = (bo3 (f_X8_readCond (nI 1) 940 (kI (kI RN 0 0 (nI 0)) 0 1 (nI 0)) R1 O T) fun v4 Nv5 Rv6 => if v4 = nI 0 then some (mI - (Rv6.1 0 10), kI (kI K 0 1 (nI 0)) 0 16 (Rv6.1 0 9), Rv6, N, Nv5) else bo2 (f_X4_needsEnd 940 Rv6 T) fun v8 Rv9 => if v8 = nI 0 then some (mI - (Rv9.1 0 10), kI (kI K 0 1 (nI 0)) 0 16 (Rv9.1 0 9), Rv9, N, Nv5) else bo (f_X8_copyFrom N Nv5) fun Nv12 => some (Nv5.1 0 0, kI (kI K 0 1 (nI 0)) 0 16 (Rv9.1 0 9), Rv9, Nv12, Nv5)) := by
    unfold f_X11_sentence f_X8_read f_X8_forget
    rw [q_takeT hR.2.1]
    simp (disch := omega) only [↓q_m1, q_lit, ↓q_bo2, r1, n1, ↓q_bo, ↓q_bd]
    cases hx : f_X8_readCond (nI 1) 940 (kI (kI RN 0 0 (nI 0)) 0 1 (nI 0)) R1 O T with
    | none => rw [q_bo3n, q_bo3n, q_bo3n]
    | some x =>
      obtain ⟨x1, x2, x3⟩ := x
      rw [q_bo3, q_bo3]
      by_cases h1 : x1 = nI 0
      · rw [if_pos h1, if_pos h1, q_bo3, if_pos rfl]
      · rw [if_neg h1, if_neg h1]
        cases hy : f_X4_needsEnd 940 x3 T with
        | none => rw [q_bo2n, q_bo2n, q_bo3n]
        | some y =>
          obtain ⟨y1, y2⟩ := y
          rw [q_bo2, q_bo2]
          by_cases h2 : y1 = nI 0
          · rw [if_pos h2, if_pos h2, q_bo3, if_pos rfl]
          · rw [if_neg h2, if_neg h2, q_bo3, if_neg n10]
  have hD : f_X12_sentence M = lpS 2000 (nI 1) M1 := by
    unfold f_X12_sentence
    simp only [↓q_m1, q_lit, ↓q_bd]
    rw [t1, q_bo, hQ, n2, q_bo]
    rfl
  rw [hC, hD]
  -- a refusal
  have hfail : ∀ (N' R' M' : kD) (ee a' : Nat), BD ee a' R' M' → MRr R1 R' → MXs M1 M' → ∃ r K' R'' N'' RN' M'', some (mI - (R'.1 0 10), kI (kI K 0 1 (nI 0)) 0 16 (R'.1 0 9), R', N, N') = some (r, K', R'', N'', RN') ∧ (some (mI - nI a', M') : Option (Int32 × kD)) = some (r, M'') ∧ RT 0 K' T M'' ∧ RSN nm np N'' (M''.1 6) ∧ K'.1 0 16 = M''.1 0 15 ∧ M''.1 0 0 = nI 0 ∧ KX K K' ∧ K'.1 0 15 = K.1 0 15 ∧ MXv M M'' := by
    intro N' R' M' ee a' h3 h4 h5
    refine ⟨mI - nI a', kI (kI K 0 1 (nI 0)) 0 16 (R'.1 0 9), R', N, N', M', ?_, rfl, ⟨Nat.zero_le _, rfl, ?_, fun i hi => ?_⟩, ?_, ?_, ?_, fun j j1 j15 j16 => ?_, rfl, fun j j0 j2 j3 j4 j5 j11 j12 j13 j14 j15 j16 j18 j40 j41 j42 j43 j44 => ?_, fun b b0 b6 b8 b39 => ?_, fun j hj => ?_, fun b b0 => ?_, fun j j17 => ?_⟩
    · rw [h3.2.2.2.2.1]
    · rw [h5.1 2 (by omega) (by omega) (by omega) (by omega) (by omega) (by omega) (by omega) (by omega) (by omega) (by omega) (by omega) (by omega) (by omega)]; exact m12
    · rw [h5.2.1 1 (by omega) (by omega) (by omega), fr1 1 (by omega)]; exact hR.2.2.2 i hi
    · rw [h5.2.1 6 (by omega) (by omega) (by omega), fr1 6 (by omega)]; exact hN
    · show R'.1 0 9 = _
      rw [h3.2.2.2.1, h3.2.2.2.2.2.1]
    · rw [h5.1 0 (by omega) (by omega) (by omega) (by omega) (by omega) (by omega) (by omega) (by omega) (by omega) (by omega) (by omega) (by omega) (by omega)]; exact m10
    · show upd (upd (K.1 0) 1 (nI 0)) 16 _ j = _
      rw [up_ne j16, up_ne j1]
    · rw [h5.1 j j4 j11 j12 j13 j14 j15 j16 j18 j40 j41 j42 j43 j44]; exact fr0 j j0 j2 j3 j4 j5 j11 j12 j13 j14 j15 j40 j41 j42 j43 j44
    · rw [h5.2.1 b b0 b8 b39]; exact fr1 b b0
    · rw [h5.2.1 6 (by omega) (by omega) (by omega), fr1 6 (by omega)]
    · rw [h5.2.2.1 b b0]; exact fr2 b b0
    · rw [h5.2.2.2 j j17]; exact fr3 j j17
  rcases hit with ⟨N', R', M', ee, a', h1, h2, h3, h4, h5⟩ | ⟨N', R', M', f', c', e', Q', l', k', v', p', a', h1, h2, hte, g1, g2, g3, hz', hQ', h44, hT', gR, gM, gb, g9, g15⟩
  · rw [h1, h2, q_bo3, if_pos rfl]
    exact hfail N' R' M' ee a' h3 h4 h5
  · have hc' := hz'.2.1.1
    obtain ⟨f', rfl⟩ : ∃ q, f' = q + 1 := ⟨f' - 1, by omega⟩
    rw [h1, h2, q_bo3, if_neg n10]
    have hBT : BT 2 0 M' := Or.inr (Or.inl rfl)
    unfold f_X4_needsEnd
    simp only [↓q_m1, q_lit]
    rcases q_isEnd hT' with ⟨k0, e1, e2⟩ | ⟨k0, e1, e2⟩
    · -- the end of the text
      rw [e1, if_neg n10, q_bo2, if_neg n10]
      obtain ⟨Ma, M5, a1, a2, a3, b2, a5⟩ := q_flush (t := 2) (Or.inr rfl) hz' hQ' hBT
      have m542 : M5.1 0 42 = nI 0 := a5.2.2.2.1.1
      obtain ⟨⟨z0, z41, z1⟩, ⟨zb1, zb2, zb3, zb4⟩, ⟨er, her, z40, hse, _⟩, _, ⟨hd1, hd2⟩⟩ := a5
      have her : er = e' := her
      subst her
      obtain ⟨f', rfl⟩ : ∃ q, f' = q + 1 := ⟨f' - 1, by omega⟩
      have hD6 : lpS (f' + 1 + 1) (nI 1) M' = some (nI c', kSI M5 6 (atW (M5.1 8) (upd (M5.1 6) 98 (nI er)) 99 (3 * er))) := by
        show g_X12_sentence_48 (lpS (f' + 1)) (nI 1) M' = _
        have hlast : lpS (f' + 1) (nI 0) M5 = some (nI c', kSI M5 6 (atW (M5.1 8) (upd (M5.1 6) 98 (nI er)) 99 (3 * er))) := by
          show g_X12_sentence_48 (lpS f') (nI 0) M5 = _
          generalize lpS f' = rd
          unfold g_X12_sentence_48
          simp only [↓q_m1, q_lit]
          rw [if_pos trivial, q_lay M5 er (by omega) z40, z41]
        generalize lpS (f' + 1) = rd at hlast ⊢
        unfold g_X12_sentence_48
        simp only [↓q_m1, q_lit]
        rw [if_neg n10, h44, if_neg n10, if_pos e2, a1, q_bo, show (nI 22 : Int32) = nI (20 + 2) from rfl, a2, q_bo, m542, if_pos (Int32.le_refl _)]
        exact hlast
      rw [hD6]
      obtain ⟨N6, d1, d2, d3, d4⟩ := q_copyN N N'
      rw [d1, q_bo, z0]
      have fM5 : MXs M1 M5 := MXs_t gM (MXs_p b2)
      have e15 : M5.1 0 15 = nI 0 := (b2.1 15 (by omega) (by omega) (by omega)).trans (g15.trans m15)
      have e9 : R'.1 0 9 = nI 0 := by
        rw [g9, n6 9 (by omega) (by omega) (by omega) (by omega) (by omega)]; exact r6
      refine ⟨nI c', _, R', N6, N', _, rfl, rfl, ⟨Nat.zero_le _, rfl, ?_, fun i hi => ?_⟩, ?_, ?_, ?_, fun j j1 j15 j16 => ?_, rfl, fun j j0 j2 j3 j4 j5 j11 j12 j13 j14 j15 j16 j18 j40 j41 j42 j43 j44 => ?_, fun b b0 b6 b8 b39 => ?_, fun j hj => ?_, fun b b0 => ?_, fun j j17 => ?_⟩
      · show M5.1 0 2 = _
        rw [fM5.1 2 (by omega) (by omega) (by omega) (by omega) (by omega) (by omega) (by omega) (by omega) (by omega) (by omega) (by omega) (by omega) (by omega)]; exact m12
      · show ∃ t, t < 256 ∧ T i = nI t ∧ M5.1 1 i &&& nI 255 = nI t
        rw [fM5.2.1 1 (by omega) (by omega) (by omega), fr1 1 (by omega)]; exact hR.2.2.2 i hi
      · have hrs : RSN nm np N' (atW (M5.1 8) (upd (M5.1 6) 98 (nI er)) 99 (3 * er)) := by
          refine ⟨er, by omega, z1, ?_, fun i hi => ?_, fun _ => hd1, hd2⟩
          · rw [atW_out _ _ _ _ _ (by omega), up_eq]
          · rw [show 99 + 3 * i + 1 = 99 + (3 * i + 1) by omega, show 99 + 3 * i + 2 = 99 + (3 * i + 2) by omega, atW_in _ _ _ _ _ (by omega), atW_in _ _ _ _ _ (by omega), atW_in _ _ _ _ _ (by omega)]
            exact hse i hi
        exact RSN_c hrs d3 d4
      · show R'.1 0 9 = M5.1 0 15
        rw [e9, e15]
      · show M5.1 0 0 = _
        rw [fM5.1 0 (by omega) (by omega) (by omega) (by omega) (by omega) (by omega) (by omega) (by omega) (by omega) (by omega) (by omega) (by omega) (by omega)]; exact m10
      · show upd (upd (K.1 0) 1 (nI 0)) 16 _ j = _
        rw [up_ne j16, up_ne j1]
      · show M5.1 0 j = _
        rw [fM5.1 j j4 j11 j12 j13 j14 j15 j16 j18 j40 j41 j42 j43 j44]; exact fr0 j j0 j2 j3 j4 j5 j11 j12 j13 j14 j15 j40 j41 j42 j43 j44
      · show (if b = 6 then _ else M5.1 b) = _
        rw [if_neg b6, fM5.2.1 b b0 b8 b39]; exact fr1 b b0
      · show atW (M5.1 8) (upd (M5.1 6) 98 (nI er)) 99 (3 * er) j = _
        rw [atW_out _ _ _ _ _ (by omega), up_ne (by omega), fM5.2.1 6 (by omega) (by omega) (by omega), fr1 6 (by omega)]
      · show M5.2 b = _
        rw [fM5.2.2.1 b b0]; exact fr2 b b0
      · show M5.2 0 j = _
        rw [fM5.2.2.2 j j17]; exact fr3 j j17
    · -- more text than a condition
      rw [e1, if_pos rfl]
      obtain ⟨M5, b1, b2, b3⟩ := q_behE hT' hz' hQ' hBT (hte.1 (by omega)) (hte.2 (by omega))
      obtain ⟨R6, M6, w1, w2, w3, w4, w5⟩ := q_bad (TK_p hT' b2) 1 (by omega) (by omega)
      have hb1 : f_X12_behind M' = some (nI 0, M6) := by
        rw [b1]
        unfold g_X12_behind_114
        simp only [↓q_m1, q_lit]
        rw [if_pos trivial, ite_self, w2, q_bo2, if_neg (by decide)]
      have hD6 : lpS (f' + 1) (nI 1) M' = some (mI - nI a', M6) := by
        show g_X12_sentence_48 (lpS f') (nI 1) M' = _
        rw [q_48b h44 e2, hb1, q_bo2, if_pos rfl, w3.2.2.2.2.2.2]
      rw [hD6, w1, q_bo2, if_pos rfl, q_bo2, if_pos rfl]
      exact hfail N' R6 M6 1 a' w3 (MRr_t gR w4) (MXs_t gM (MXs_t (MXs_p b2) (MXs_r' w5)))
