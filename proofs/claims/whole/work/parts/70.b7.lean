/-! machine-free: BOOK, the whole call -/
def TD (K : kD) (BT : Nat → Int32) (M : kD) : Prop := (K.1 0 15 = nI 0 ∧ M.1 0 38 = nI 0) ∨ (K.1 0 15 = nI 1 ∧ M.1 0 38 = nI 1 ∧ ∀ i, i < 4 → BT i = M.1 37 i)
def KX (K K' : kD) : Prop := ∀ k, k ≠ 1 → k ≠ 15 → k ≠ 16 → K'.1 0 k = K.1 0 k
def MXw (M M' : kD) : Prop := (∀ k, k ≠ 0 → k ≠ 2 → k ≠ 3 → k ≠ 4 → k ≠ 5 → k ≠ 11 → k ≠ 12 → k ≠ 13 → k ≠ 14 → k ≠ 15 → k ≠ 16 → k ≠ 18 → k ≠ 22 → k ≠ 36 → k ≠ 38 → M'.1 0 k = M.1 0 k) ∧ (∀ b, b ≠ 0 → b ≠ 6 → b ≠ 8 → b ≠ 20 → b ≠ 21 → b ≠ 37 → M'.1 b = M.1 b) ∧ (∀ k, k < 39 → M'.1 6 k = M.1 6 k) ∧ (∀ k, 98 ≤ k → M'.1 6 k = M.1 6 k) ∧ (∀ b, b ≠ 0 → M'.2 b = M.2 b) ∧ (∀ k, k ≠ 17 → M'.2 0 k = M.2 0 k)
theorem RL_cg {nm np : Nat} {O : kD} {s s' : Nat → Int32} {B : Nat → Int64} (h : ∀ k, k < 39 → s' k = s k) (hl : RLo nm np O s B) : RLo nm np O s' B := by
  obtain ⟨ho, h1, h2, h3, h4, h5⟩ := hl
  have hn := ho.1.1
  have hp := ho.1.2
  refine ⟨RO_cg h ho, fun m hm => ?_, h2, h3, fun m hm h6 => ?_, fun q hq h8 => ?_⟩
  · rw [h (3 + m) (by omega)]; exact h1 m hm
  · rw [h (3 + m) (by omega), h (9 + m) (by omega)]; exact h4 m hm h6
  · rw [h (15 + q) (by omega), h (23 + q) (by omega), h (31 + q) (by omega)]; exact h5 q hq h8
theorem q_zero4 (M : kD) (x1 : Int32) : ∃ t, lp (fun _ _ _ => none) g_X12_book_89 2000 x1 (nI 0) M = g_X12_book_107 x1 (kSI M 37 t) ∧ t 0 = nI 0 ∧ t 1 = nI 0 := by
  refine ⟨fun j => if j < 4 then nI 0 else M.1 37 j, ?_, rfl, rfl⟩
  have h1 := q_one (fun f k (x : Nat → Int32) => lp (fun _ _ _ => none) g_X12_book_89 f x1 (nI k) (kSI M 37 x)) (fun k x => x = fun j => if j < k then nI 0 else M.1 37 j) (fun q => q = g_X12_book_107 x1 (kSI M 37 (fun j => if j < 4 then nI 0 else M.1 37 j))) 4 ?_ ?_ 4 0 2000 (M.1 37) (by omega) (by omega) (by funext j; rw [if_neg (by omega)])
  · rw [q_SM] at h1; exact h1
  · intro f k x _ hk hx ih
    simp only [q_lp]
    generalize lp _ g_X12_book_89 f = rc at ih ⊢
    unfold g_X12_book_89
    simp (disch := omega) only [↓q_m1, q_lit, ↓q_bd, ↓reduceIte, q_le, show ¬ 4 ≤ k by omega, nI_add, q_lt, Nat.not_lt_zero, false_or, q_cl, q_SI]
    refine ih (upd x k (nI 0)) ?_
    rw [hx]
    funext j
    unfold upd
    by_cases h : j = k
    · subst h; rw [if_pos rfl, if_pos (by omega)]
    · rw [if_neg h]
      show (if j < k then nI 0 else M.1 37 j) = _
      by_cases h2 : j < k
      · rw [if_pos h2, if_pos (by omega)]
      · rw [if_neg h2, if_neg (by omega)]
  · intro f x hx
    simp only [q_lp]
    generalize lp _ g_X12_book_89 f = rc
    unfold g_X12_book_89
    simp (disch := omega) only [↓q_m1, q_lit, ↓reduceIte, q_le, Nat.le_refl, hx]
def QB (nm np n B : Nat) (T : Nat → Int32) (K O M : kD) (C : Option (Int32 × kD × kD × kD × kD × (Nat → kD) × kD × kD × (Nat → Int32))) (D : Option (Int32 × kD)) : Prop :=
  ∃ r n' K' R' S' Hy' HS' RB' TR' BT' M', C = some (r, K', R', S', Hy', HS', RB', TR', BT') ∧ D = some (r, M') ∧ n' ≤ n ∧ RT n' K' T M' ∧ WT M' ∧ RLo nm np O (M'.1 6) (M'.2 9) ∧ RSH nm np B S' Hy' HS' M' ∧ TD K' BT' M' ∧ K'.1 0 16 = M'.1 0 15 ∧ M'.1 0 0 = nI 0 ∧ KX K K' ∧ MXw M M'
theorem q_book1 {n nm np B x : Nat} {T BT : Nat → Int32} {K R C O S N Hy RB TR M : kD} {HS : Nat → kD} (hx : x ≤ 1) (hR : RT n K T M) (hW : WT M) (hl : RLo nm np O (M.1 6) (M.2 9)) (hr : RSH nm np B S Hy HS M) (hB : B ≤ 800000000) (ht : TD K BT M) :
    QB nm np n (B + 96000) T K O M (g_X11_book_13 T C O N (nI x) K R S Hy HS RB TR BT) (bo (f_X12_taken (nI 400) (kI M 0 0 (nI 0))) fun M50 => bo (f_X12_next (kI (kI M50 0 15 (nI 0)) 0 36 (nI 0))) fun M54 => lp (fun _ _ => none) (g_X12_book_39) 2000 (nI x) M54) := by
  have hn01 : ¬ nI 1 = nI 0 := by decide
  obtain ⟨M31, t1, t2, t3, t4, t5, t6⟩ := q_take hR (nI 400)
  obtain ⟨M31', u1, u2, u3, u4, u5, u6, u7, u8⟩ := q_taken (kI M 0 0 (nI 0)) n (nI 400) hR.2.2.1
  have hn := hR.1
  have e31 : M31' = M31 := by
    rw [t1] at u1
    exact (Option.some.inj u1).symm
  rw [e31] at u8
  have h00 : M31.1 0 0 = nI 0 := (u8 0 (by omega) (by omega) (by omega) (by omega)).trans rfl
  generalize hQ : kI (kI M31 0 15 (nI 0)) 0 36 (nI 0) = Q
  have Q0 : Q.1 0 = upd (upd (M31.1 0) 15 (nI 0)) 36 (nI 0) := by rw [← hQ]; rfl
  have q3 : ∀ b, b ≠ 0 → Q.1 b = M31.1 b := fun b hb => by rw [← hQ, q_kI, if_neg hb, q_kI, if_neg hb]
  have q4 : Q.2 = M31.2 := by rw [← hQ]; rfl
  have hzQ : RZ n T Q := RZ_f t2 (by rw [Q0, up_ne (by omega), up_ne (by omega)]) (q3 1 (by omega))
  obtain ⟨R0, r1, r2, r3, r4, r5, r6, r7⟩ := q_openR (T := T) (L := 400) (R := R) hn
  obtain ⟨R1, M1, l, k, v, p, a, n1, n2, n3, n4, n5, n6⟩ := q_next hzQ (L := 400) (by omega) r2 r3 r4 (by rw [Q0, up_ne (by omega), up_ne (by omega)]; exact t5) r5 (by rw [Q0, up_ne (by omega), up_ne (by omega)]; exact t4) (Nat.zero_le n)
  rw [t1, q_bo, hQ, n2, q_bo]
  have m136 : M1.1 0 36 = nI 0 := by
    rw [n5.1 36 (by omega) (by omega) (by omega) (by omega) (by omega), Q0, up_eq]
  have m115 : M1.1 0 15 = nI 0 := by
    rw [n5.1 15 (by omega) (by omega) (by omega) (by omega) (by omega), Q0, up_ne (by omega), up_eq]
  -- what stays from M to M1
  have fr0 : ∀ j, j ≠ 0 → j ≠ 2 → j ≠ 3 → j ≠ 4 → j ≠ 5 → j ≠ 11 → j ≠ 12 → j ≠ 13 → j ≠ 14 → j ≠ 15 → j ≠ 36 → M1.1 0 j = M.1 0 j := by
    intro j j0 j2 j3 j4 j5 j11 j12 j13 j14 j15 j36
    rw [n5.1 j j4 j11 j12 j13 j14, Q0, up_ne j36, up_ne j15]
    exact t3.2.2.1 j j0 j2 j3 j4 j5
  have fr1 : ∀ b, b ≠ 0 → M1.1 b = M.1 b := by
    intro b b0
    rw [n5.2.1 b b0, q3 b b0]
    exact t3.2.1 b b0
  have fr2 : ∀ b, b ≠ 0 → M1.2 b = M.2 b := by
    intro b b0
    rw [n5.2.2.1 b b0, q4, t3.1]
  have fr3 : ∀ j, j ≠ 17 → M1.2 0 j = M.2 0 j := by
    intro j j17
    rw [n5.2.2.2 j j17, q4, t3.1]
  have hW1 : WT M1 := by
    unfold WT
    rw [fr2 10 (by omega)]; exact hW
  have m10 : M1.1 0 0 = nI 0 := by
    rw [n5.1 0 (by omega) (by omega) (by omega) (by omega) (by omega), Q0, up_ne (by omega), up_ne (by omega)]; exact h00
  have m12 : M1.1 0 2 = nI 0 := by
    rw [n5.1 2 (by omega) (by omega) (by omega) (by omega) (by omega), Q0, up_ne (by omega), up_ne (by omega)]; exact t3.2.2.2
  have hLB := q_bkLines (n := n) (L := 400) (T := T) (O := O) (nm := nm) (np := np) (nI x) (by omega) 2000 0 l k v p a (kI RB 0 0 (nI 0)) R1 M1 n3 hW1 (by rw [fr1 6 (by omega), fr2 9 (by omega)]; exact hl) ⟨rfl, by omega, fun i hi => absurd hi (Nat.not_lt_zero i)⟩ m136 (by omega)
  have hC : g_X11_book_13 T C O N (nI x) K R S Hy HS RB TR BT = (bo3 (lp (fun _ _ _ => none) (g_X0_read_7 940 O T) 2000 (nI 0) (kI RB 0 0 (nI 0)) R1) fun v8 RBv9 Rv10 => if v8 = nI 0 then some ((-nI 2) - (Rv10.1 0 10), kI (kI K 0 1 (nI 0)) 0 16 (Rv10.1 0 9), Rv10, S, Hy, HS, RBv9, TR, BT) else bo (f_X9_copyFrom TR S) fun TRv13 => bo2 (f_X0_live RBv9 O TRv13) fun RBv15 TRv16 => bo (f_X11_sumOf 6 (TRv16.1 6)) fun v22 => if nI x = nI 1 then if (RBv15.1 0 1) ≤ nI 0 then g_X11_book_211 T C O N (kI (kI (kI K 0 1 (nI 0)) 0 16 (Rv10.1 0 9)) 0 15 (nI 1)) Rv10 S Hy HS RBv15 TRv16 (upd (upd (upd (upd BT 0 (RBv15.1 0 2)) 1 (RBv15.1 0 1)) 2 (TRv16.1 0 0)) 3 v22) else bo2 (f_X2_keep Hy HS S) fun Hyv25 HSv26 => bo (f_X9_copyFrom S TRv16) fun Sv28 => g_X11_book_211 T C O N (kI (kI (kI K 0 1 (nI 0)) 0 16 (Rv10.1 0 9)) 0 15 (nI 1)) Rv10 Sv28 Hyv25 HSv26 RBv15 TRv16 (upd (upd (upd (upd BT 0 (RBv15.1 0 2)) 1 (RBv15.1 0 1)) 2 (TRv16.1 0 0)) 3 v22) else g_X11_book_211 T C O N (kI (kI (kI K 0 1 (nI 0)) 0 16 (Rv10.1 0 9)) 0 15 (nI 1)) Rv10 S Hy HS RBv15 TRv16 (upd (upd (upd (upd BT 0 (RBv15.1 0 2)) 1 (RBv15.1 0 1)) 2 (TRv16.1 0 0)) 3 v22)) := by
    unfold g_X11_book_13 f_X0_read
    rw [q_takeT hR.2.1]
    simp (disch := omega) only [↓q_m1, q_lit, ↓q_bo2, r1, n1, ↓q_bo, ↓q_bd, q_cl]
  rw [hC]
  rcases hLB with ⟨K', R', M', e, a2, h1, h2, h3, h4, h5⟩ | ⟨K', R', M', c, l', v', p', a', h1, h2, h3, h4, h5, h6, h7, h8, h10⟩
  · rw [h1, h2, q_bo3, if_pos rfl]
    have g0 : ∀ j, j ≠ 4 → j ≠ 11 → j ≠ 12 → j ≠ 13 → j ≠ 14 → j ≠ 15 → j ≠ 16 → j ≠ 18 → j ≠ 36 → M'.1 0 j = M1.1 0 j := by
      intro j j1 j2 j3 j4 j5 j6 j7 j8 j9
      rw [h5.1 j j1 j2 j3 j4 j5 j6 j7 j8, q_kI, if_pos rfl, up_ne j9]
    have g1 : ∀ b, b ≠ 0 → b ≠ 8 → M'.1 b = M1.1 b := by
      intro b b0 b8
      rw [h5.2.1 b b0 b8, q_kI, if_neg b0]
    have e6 : M'.1 6 = M.1 6 := (g1 6 (by omega) (by omega)).trans (fr1 6 (by omega))
    have e15 : R'.1 0 9 = M'.1 0 15 := by rw [h3.2.2.2.1, h3.2.2.2.2.2.1]
    refine ⟨-nI 2 - nI a2, 0, kI (kI K 0 1 (nI 0)) 0 16 (R'.1 0 9), R', S, Hy, HS, K', TR, BT, M', ?_, rfl, Nat.zero_le _, ⟨Nat.zero_le _, rfl, ?_, fun i hi => ?_⟩, ?_, ?_, ?_, ?_, ?_, ?_, ?_, fun j j0 j2 j3 j4 j5 j11 j12 j13 j14 j15 j16 j18 j22 j36 j38 => ?_, fun b b0 b6 b8 b20 b21 b37 => ?_, fun j _ => by rw [e6], fun j _ => by rw [e6], fun b b0 => ?_, fun j j17 => ?_⟩
    · rw [h3.2.2.2.2.1]
    · rw [g0 2 (by omega) (by omega) (by omega) (by omega) (by omega) (by omega) (by omega) (by omega) (by omega)]; exact m12
    · rw [g1 1 (by omega) (by omega), fr1 1 (by omega)]; exact hR.2.2.2 i hi
    · unfold WT
      rw [h5.2.2.1 10 (by omega)]
      exact hW1
    · rw [e6, h5.2.2.1 9 (by omega)]
      show RLo nm np O (M.1 6) (M1.2 9)
      rw [fr2 9 (by omega)]; exact hl
    · refine RSH_B (by omega) (RSH_s hl.1.1.1 hr (fun j _ _ => by rw [e6]) ((g1 20 (by omega) (by omega)).trans (fr1 20 (by omega))) ?_)
      rw [g0 22 (by omega) (by omega) (by omega) (by omega) (by omega) (by omega) (by omega) (by omega) (by omega)]
      exact fr0 22 (by omega) (by omega) (by omega) (by omega) (by omega) (by omega) (by omega) (by omega) (by omega) (by omega) (by omega)
    · have e38 : M'.1 0 38 = M.1 0 38 := by
        rw [g0 38 (by omega) (by omega) (by omega) (by omega) (by omega) (by omega) (by omega) (by omega) (by omega)]
        exact fr0 38 (by omega) (by omega) (by omega) (by omega) (by omega) (by omega) (by omega) (by omega) (by omega) (by omega) (by omega)
      have e37 : M'.1 37 = M.1 37 := (g1 37 (by omega) (by omega)).trans (fr1 37 (by omega))
      unfold TD
      rw [e38, e37]
      exact ht
    · exact e15
    · rw [g0 0 (by omega) (by omega) (by omega) (by omega) (by omega) (by omega) (by omega) (by omega) (by omega)]; exact m10
    · intro j j1 j15 j16
      show upd (upd (K.1 0) 1 (nI 0)) 16 _ j = _
      rw [up_ne j16, up_ne j1]
    · rw [g0 j j4 j11 j12 j13 j14 j15 j16 j18 j36]; exact fr0 j j0 j2 j3 j4 j5 j11 j12 j13 j14 j15 j36
    · rw [g1 b b0 b8]; exact fr1 b b0
    · rw [h5.2.2.1 b b0]; exact fr2 b b0
    · rw [h5.2.2.2 j j17]; exact fr3 j j17
  · rw [h1, h2, q_bo3, if_neg hn01]
    have g0 : ∀ j, j ≠ 4 → j ≠ 11 → j ≠ 12 → j ≠ 13 → j ≠ 14 → j ≠ 15 → j ≠ 16 → j ≠ 18 → j ≠ 36 → M'.1 0 j = M1.1 0 j := by
      intro j j1 j2 j3 j4 j5 j6 j7 j8 j9
      rw [h7.1 j j1 j2 j3 j4 j5 j6 j7 j8, q_kI, if_pos rfl, up_ne j9]
    have g1 : ∀ b, b ≠ 0 → b ≠ 8 → M'.1 b = M1.1 b := by
      intro b b0 b8
      rw [h7.2.1 b b0 b8, q_kI, if_neg b0]
    have e6 : M'.1 6 = M.1 6 := (g1 6 (by omega) (by omega)).trans (fr1 6 (by omega))
    have e20 : M'.1 20 = M.1 20 := (g1 20 (by omega) (by omega)).trans (fr1 20 (by omega))
    have e22 : M'.1 0 22 = M.1 0 22 := by
      rw [g0 22 (by omega) (by omega) (by omega) (by omega) (by omega) (by omega) (by omega) (by omega) (by omega)]
      exact fr0 22 (by omega) (by omega) (by omega) (by omega) (by omega) (by omega) (by omega) (by omega) (by omega) (by omega) (by omega)
    have e115 : M'.1 0 15 = nI 0 := h10.trans m115
    have e9 : R'.1 0 9 = nI 0 := by
      rw [h8, n6 9 (by omega) (by omega) (by omega) (by omega) (by omega)]; exact r6
    obtain ⟨bb, b1, b2⟩ := q_tries M'
    obtain ⟨t, z1, z2, z3⟩ := q_zero4 (kSI M' 21 bb) (nI x)
    obtain ⟨TR1, c1, c2⟩ := q_copyS TR S
    obtain ⟨d, lt, w, h, u, o, hd, hs, hH, hu⟩ := hr
    have hs1 : RS nm np d lt w h B TR1 ((kSI (kSI M' 21 bb) 37 t).1 6) := by
      show RS nm np d lt w h B TR1 (M'.1 6)
      rw [e6]; exact RS_S c2 hs hl.1.1.1
    have ho1 : RO nm np O ((kSI (kSI M' 21 bb) 37 t).1 6) := by
      show RO nm np O (M'.1 6)
      rw [e6]; exact hl.1
    have hlive := q_live (K := K') (nI x) ho1 hd hs1 hB (c := c) h3 h4 z2 z3
    obtain ⟨R2, S2, s', t', k2, v2, d2, lt2, w2, h2', f1, f2, f3, f4, f5, f6, f7, f8, f9, f10, f11, f12, f13, f14⟩ := hlive
    have hr2 : RSH nm np (B + 96000) S Hy HS (kSI (kSI M' 21 bb) 37 t) := by
      refine RSH_B (show B ≤ B + 96000 by omega) (RSH_s hl.1.1.1 ⟨d, lt, w, h, u, o, hd, hs, hH, hu⟩ (fun j _ _ => ?_) e20 e22)
      show M'.1 6 j = _
      rw [e6]
    obtain ⟨S3, Hy3, HS3, M3, q, y1, y2, y3, y4, y5, y6, y7, y8, y9, y10⟩ := q_bkEnd (if v2 = 0 then mI else nI k2) ho1 hr2 (fun j hj => b2 j hj) hx f10 f11 (Nat.le_trans f3 h3.2.1) f12 f13 f14 f8 f9
    have hDfin : g_X12_book_83 (nI x) M' = some (if v2 = 0 then mI else nI k2, M3) := by
      unfold g_X12_book_83
      simp only [↓q_m1, q_lit, b1, ↓q_bo, z1]
      unfold g_X12_book_107
      simp only [↓q_m1, q_lit, f2]
      exact y3
    rw [hDfin, c1, q_bo, f1, q_bo2, y2, q_bo]
    simp only [q_kSI, ↓reduceIte, f5, f6]
    have h211 : ∀ Kx Rx Sx Hyx HSx BTx, g_X11_book_211 T C O N Kx Rx Sx Hyx HSx (kSI K' 0 R2) S2 BTx = some (if v2 = 0 then mI else nI k2, Kx, Rx, Sx, Hyx, HSx, kSI K' 0 R2, S2, BTx) := by
      intro Kx Rx Sx Hyx HSx BTx
      unfold g_X11_book_211
      simp (disch := omega) only [↓q_m1, q_lit, q_kSI, ↓reduceIte, f5, f6, q_eq]
      by_cases h9 : v2 = 0
      · rw [if_pos h9, if_pos h9]
      · rw [if_neg h9, if_neg h9]
    have hCfin : (if nI x = nI 1 then if nI k2 ≤ nI 0 then g_X11_book_211 T C O N (kI (kI (kI K 0 1 (nI 0)) 0 16 (R'.1 0 9)) 0 15 (nI 1)) R' S Hy HS (kSI K' 0 R2) S2 (upd (upd (upd (upd BT 0 (nI v2)) 1 (nI k2)) 2 (S2.1 0 0)) 3 q) else bo2 (f_X2_keep Hy HS S) fun Hyv25 HSv26 => bo (f_X9_copyFrom S S2) fun Sv28 => g_X11_book_211 T C O N (kI (kI (kI K 0 1 (nI 0)) 0 16 (R'.1 0 9)) 0 15 (nI 1)) R' Sv28 Hyv25 HSv26 (kSI K' 0 R2) S2 (upd (upd (upd (upd BT 0 (nI v2)) 1 (nI k2)) 2 (S2.1 0 0)) 3 q) else g_X11_book_211 T C O N (kI (kI (kI K 0 1 (nI 0)) 0 16 (R'.1 0 9)) 0 15 (nI 1)) R' S Hy HS (kSI K' 0 R2) S2 (upd (upd (upd (upd BT 0 (nI v2)) 1 (nI k2)) 2 (S2.1 0 0)) 3 q)) = some (if v2 = 0 then mI else nI k2, (kI (kI (kI K 0 1 (nI 0)) 0 16 (R'.1 0 9)) 0 15 (nI 1)), R', S3, Hy3, HS3, kSI K' 0 R2, S2, (upd (upd (upd (upd BT 0 (nI v2)) 1 (nI k2)) 2 (S2.1 0 0)) 3 q)) := by
      have hk2 : k2 ≤ 40 := Nat.le_trans f3 h3.2.1
      rcases y1 with ⟨rfl, yk, y11, y12⟩ | ⟨yx, rfl, rfl, rfl⟩
      · rw [if_pos rfl, if_neg (by rw [q_le (by omega) (by omega)]; omega), y11, q_bo2, y12, q_bo, h211]
      · rcases yx with rfl | yk
        · rw [if_neg (by decide), h211]
        · rw [if_pos (show nI k2 ≤ nI 0 by rw [q_le (by omega) (by omega)]; omega), ite_self, h211] <;> exact 0
    rw [hCfin]
    obtain ⟨w1, w2', w3, w4, w5⟩ := y4
    refine ⟨_, 0, kI (kI (kI K 0 1 (nI 0)) 0 16 (R'.1 0 9)) 0 15 (nI 1), R', S3, Hy3, HS3, kSI K' 0 R2, S2, upd (upd (upd (upd BT 0 (nI v2)) 1 (nI k2)) 2 (S2.1 0 0)) 3 q, M3, rfl, rfl, Nat.zero_le _, ⟨Nat.zero_le _, rfl, ?_, fun i hi => ?_⟩, ?_, ?_, y5, ?_, ?_, ?_, ?_, fun j j0 j2 j3 j4 j5 j11 j12 j13 j14 j15 j16 j18 j22 j36 j38 => ?_, fun b b0 b6 b8 b20 b21 b37 => ?_, fun j hj => ?_, fun j hj => ?_, fun b b0 => ?_, fun j j17 => ?_⟩
    · rw [w3 2 (by omega) (by omega)]
      show M'.1 0 2 = _
      rw [g0 2 (by omega) (by omega) (by omega) (by omega) (by omega) (by omega) (by omega) (by omega) (by omega)]; exact m12
    · rw [w2' 1 (by omega) (by omega) (by omega) (by omega)]
      show ∃ t, t < 256 ∧ T i = nI t ∧ M'.1 1 i &&& nI 255 = nI t
      rw [g1 1 (by omega) (by omega), fr1 1 (by omega)]; exact hR.2.2.2 i hi
    · unfold WT
      rw [w1]
      show (∀ i, i < 21 → ∃ w, 1 ≤ w ∧ w < 22 ∧ M'.2 10 i = _) ∧ ∀ w, 1 ≤ w → w < 22 → ∃ i, i < 21 ∧ M'.2 10 i = _
      rw [h7.2.2.1 10 (by omega)]
      exact hW1
    · rw [w1]
      refine RL_cg (s := M.1 6) (fun j hj => ?_) ?_
      · rw [w4 j hj]
        show M'.1 6 j = _
        rw [e6]
      · show RLo nm np O (M.1 6) (M'.2 9)
        rw [h7.2.2.1 9 (by omega)]
        show RLo nm np O (M.1 6) (M1.2 9)
        rw [fr2 9 (by omega)]; exact hl
    · refine Or.inr ⟨rfl, y10, fun i hi => ?_⟩
      have : i = 0 ∨ i = 1 ∨ i = 2 ∨ i = 3 := by omega
      rcases this with rfl | rfl | rfl | rfl
      · exact y6.symm
      · exact y7.symm
      · exact y8.symm
      · exact y9.symm
    · rw [w3 15 (by omega) (by omega)]
      show R'.1 0 9 = M'.1 0 15
      rw [e9, e115]
    · rw [w3 0 (by omega) (by omega)]
      show M'.1 0 0 = _
      rw [g0 0 (by omega) (by omega) (by omega) (by omega) (by omega) (by omega) (by omega) (by omega) (by omega)]; exact m10
    · intro j j1 j15 j16
      show upd (upd (upd (K.1 0) 1 (nI 0)) 16 _) 15 _ j = _
      rw [up_ne j15, up_ne j16, up_ne j1]
    · rw [w3 j j22 j38]
      show M'.1 0 j = _
      rw [g0 j j4 j11 j12 j13 j14 j15 j16 j18 j36]; exact fr0 j j0 j2 j3 j4 j5 j11 j12 j13 j14 j15 j36
    · rw [w2' b b0 b6 b20 b37]
      simp only [q_kSI, if_neg b21, if_neg b37]
      rw [g1 b b0 b8]; exact fr1 b b0
    · rw [w4 j hj]
      show M'.1 6 j = _
      rw [e6]
    · rw [w5 j hj]
      show M'.1 6 j = _
      rw [e6]
    · rw [w1]
      show M'.2 b = _
      rw [h7.2.2.1 b b0]; exact fr2 b b0
    · rw [w1]
      show M'.2 0 j = _
      rw [h7.2.2.2 j j17]; exact fr3 j j17
theorem q_book {n nm np B : Nat} {T BT : Nat → Int32} {K R C O S N Hy RB TR M : kD} {HS : Nat → kD} (a0 : Int32) (hR : RT n K T M) (hW : WT M) (hl : RLo nm np O (M.1 6) (M.2 9)) (hr : RSH nm np B S Hy HS M) (hB : B ≤ 800000000) (ht : TD K BT M) (hf : K.1 0 16 = M.1 0 15) :
    QB nm np n (B + 96000) T K O M (f_X11_book a0 K T R C O S N Hy HS RB TR BT) (f_X12_book a0 M) := by
  unfold f_X11_book f_X12_book
  simp only [↓q_m1, q_lit, ↓q_bd]
  rcases q_isIn 0 0 1 a0 (by omega) (by omega) with ⟨x, h1, h2, rfl, h3⟩ | ⟨h1, h3, h4⟩
  · rw [h3, if_neg (show ¬ nI 1 = nI 0 by decide)]
    have := q_book1 (R := R) (C := C) (N := N) (RB := RB) (TR := TR) h2 hR hW hl hr hB ht
    have hx : x = 0 ∨ x = 1 := by omega
    rcases hx with rfl | rfl
    · rw [if_pos rfl]; exact this
    · rw [if_neg (show ¬ nI 1 = nI 0 by decide), if_pos rfl]; exact this
  · rw [h3, if_pos rfl, if_neg (h1 0 (by omega) (by omega)), if_neg (h1 1 (by omega) (by omega))]
    exact ⟨_, n, K, R, S, Hy, HS, RB, TR, BT, kI M 0 0 (nI 0), rfl, rfl, Nat.le_refl _, hR, hW, hl, RSH_B (by omega) hr, ht, hf, rfl, fun j _ _ _ => rfl, fun j j0 _ _ _ _ _ _ _ _ _ _ _ _ _ _ => up_ne j0, fun b b0 _ _ _ _ _ => if_neg b0, fun _ _ => rfl, fun _ _ => rfl, fun _ _ => rfl, fun _ _ => rfl⟩
theorem q_told {K M : kD} {BT : Nat → Int32} (ht : TD K BT M) (a0 : Int32) : ∃ v, f_X11_told a0 K BT = some v ∧ f_X12_told a0 M = some (v, kI M 0 0 (nI 0)) := by
  unfold f_X11_told f_X12_told
  simp only [↓q_m1, q_lit, ↓q_bd]
  rcases ht with ⟨h1, h2⟩ | ⟨h1, h2, h3⟩
  · have h2' : (kI M 0 0 (nI 0)).1 0 38 = nI 0 := h2
    rw [h1, h2', if_pos rfl, if_pos rfl]
    exact ⟨_, rfl, rfl⟩
  · have h2' : (kI M 0 0 (nI 0)).1 0 38 = nI 1 := h2
    rw [h1, h2', if_neg (show ¬ nI 1 = nI 0 by decide), if_neg (show ¬ nI 1 = nI 0 by decide)]
    rcases q_isIn 0 0 3 a0 (by omega) (by omega) with ⟨x, i1, i2, rfl, i3⟩ | ⟨-, i3, i4⟩
    · rw [i3, if_neg (show ¬ nI 1 = nI 0 by decide)]
      simp (disch := omega) only [q_lt, Nat.not_lt_zero, ↓reduceIte, q_le, show ¬ 4 ≤ x by omega, false_or, q_cl]
      exact ⟨_, rfl, congrArg (fun v => some (v, kI M 0 0 (nI 0))) (h3 x (by omega)).symm⟩
    · rw [i3, if_pos rfl]
      rcases i4 with i4 | i4
      · rw [if_pos i4]
        exact ⟨_, rfl, rfl⟩
      · have i5 : nI 4 ≤ a0 := by
          rcases q_arg a0 with h9 | ⟨j, hj, rfl⟩
          · have := Int32.lt_trans i4 h9
            rw [q_lt (by omega) (by omega)] at this
            omega
          · rw [q_lt (by omega) hj] at i4
            rw [q_le (by omega) hj]; omega
        have i6 : ¬ a0 < nI 0 := by
          intro h9
          have := Int32.lt_trans i4 h9
          rw [q_lt (by omega) (by omega)] at this
          omega
        rw [if_neg i6, if_pos i5]
        exact ⟨_, rfl, rfl⟩
