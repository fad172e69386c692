/-! machine-free: OFFICE, the whole call -/
def MXq (M M' : kD) : Prop := (∀ k, k ≠ 0 → k ≠ 2 → k ≠ 3 → k ≠ 4 → k ≠ 5 → k ≠ 11 → k ≠ 12 → k ≠ 13 → k ≠ 14 → k ≠ 15 → k ≠ 16 → k ≠ 18 → k ≠ 19 → k ≠ 22 → M'.1 0 k = M.1 0 k) ∧ (∀ b, b ≠ 0 → b ≠ 6 → b ≠ 7 → M'.1 b = M.1 b) ∧ (∀ b, b ≠ 0 → b ≠ 9 → M'.2 b = M.2 b) ∧ (∀ k, k ≠ 17 → M'.2 0 k = M.2 0 k)
theorem q_openR {T : Nat → Int32} {n L : Nat} {R : kD} (hn : n ≤ 940) : ∃ R0, f_X4_open (nI n) (nI L) 940 R T = (bo (f_X4_advance 940 R0 T) fun x => some x) ∧ R0.1 0 0 = nI 1 ∧ R0.1 0 1 = nI n ∧ R0.1 0 2 = nI L ∧ R0.1 0 3 = nI 0 ∧ R0.1 0 9 = nI 0 ∧ R0.1 0 10 = nI 0 := by
  refine ⟨kI (kI (kI (kI (kI (kI R 0 0 (nI 1)) 0 1 (nI n)) 0 2 (nI L)) 0 3 (nI 0)) 0 9 (nI 0)) 0 10 (nI 0), ?_, rfl, rfl, rfl, rfl, rfl, rfl⟩
  have hk : kMin (nI n) (nI 940) = nI n := by
    unfold kMin
    rw [if_neg (show ¬ nI 940 < nI n by rw [nI_ltI (by omega) (by omega)]; omega)]
  unfold f_X4_open
  simp only [↓q_m1, q_lit, ↓q_bd, q_of, hk]
theorem q_office {n : Nat} {T : Nat → Int32} {K R C O S N Hy RO' M : kD} {HS : Nat → kD} (hR : RT n K T M) (hW : WT M) :
    ∃ r R' RO'' M', MXq M M' ∧ RT 0 (kI (kI K 0 1 (nI 0)) 0 16 (M'.1 0 15)) T M' ∧ M'.1 0 0 = nI 0 ∧ f_X12_office M = some (r, M') ∧
      ((f_X11_office K T R C O S N Hy HS RO' = some (r, kI (kI K 0 1 (nI 0)) 0 16 (M'.1 0 15), R', O, S, N, Hy, RO'') ∧ M'.1 6 = M.1 6 ∧ (∀ i, i < 14 → M'.2 9 i = M.2 9 i) ∧ M'.1 0 22 = M.1 0 22) ∨
       (∃ O' S' N' nm np, f_X11_office K T R C O S N Hy HS RO' = some (r, kI (kI K 0 1 (nI 0)) 0 16 (M'.1 0 15), R', O', S', N', kI Hy 0 0 (nI 0), RO'') ∧ RLo nm np O' (M'.1 6) (M'.2 9) ∧ RS nm np 0 0 0 0 0 S' (M'.1 6) ∧ N'.1 0 0 = nI 0 ∧ N'.1 0 1 = nI 0 ∧ M'.1 0 22 = nI 0 ∧ ∀ k, 98 ≤ k → k < 279 → M'.1 6 k = nI 0)) := by
  obtain ⟨M31, t1, t2, t3, t4, t5, t6⟩ := q_take hR (nI 900)
  obtain ⟨M31', u1, u2, u3, u4, u5, u6, u7, u8⟩ := q_taken (kI M 0 0 (nI 0)) n (nI 900) hR.2.2.1
  have hn := hR.1
  have e31 : M31' = M31 := by
    rw [t1] at u1
    exact (Option.some.inj u1).symm
  rw [e31] at u8
  have h00 : M31.1 0 0 = nI 0 := (u8 0 (by omega) (by omega) (by omega) (by omega)).trans rfl
  obtain ⟨Q, q1, q2, q3, q4⟩ := q_clears (kI (kI M31 0 15 (nI 0)) 0 19 (nI 0))
  have Q0 : Q.1 0 = upd (upd (M31.1 0) 15 (nI 0)) 19 (nI 0) := q3 0 (by omega)
  have hzQ : RZ n T Q := RZ_f t2 (by rw [Q0, up_ne (by omega), up_ne (by omega)]) (q3 1 (by omega))
  obtain ⟨R0, r1, r2, r3, r4, r5, r6, r7⟩ := q_openR (T := T) (L := 900) (R := R) hn
  obtain ⟨R1, M1, l, k, v, p, a, n1, n2, n3, n4, n5, n6⟩ := q_next hzQ (L := 900) (by omega) r2 r3 r4 (by rw [Q0, up_ne (by omega), up_ne (by omega)]; exact t5) r5 (by rw [Q0, up_ne (by omega), up_ne (by omega)]; exact t4) (Nat.zero_le n)
  have m17 : M1.1 7 = Q.1 7 := n5.2.1 7 (by omega)
  have m119 : M1.1 0 19 = nI 0 := by
    rw [n5.1 19 (by omega) (by omega) (by omega) (by omega) (by omega), Q0, up_eq]
  have m115 : M1.1 0 15 = nI 0 := by
    rw [n5.1 15 (by omega) (by omega) (by omega) (by omega) (by omega), Q0, up_ne (by omega), up_eq]
  have hW1 : WT M1 := by
    unfold WT
    rw [n5.2.2.1 10 (by omega), q4]
    show (∀ i, i < 21 → ∃ w, 1 ≤ w ∧ w < 22 ∧ M31.2 10 i = _) ∧ ∀ w, 1 ≤ w → w < 22 → ∃ i, i < 21 ∧ M31.2 10 i = _
    rw [t3.1]; exact hW
  -- what stays from M to M1
  have fr0 : ∀ j, j ≠ 0 → j ≠ 2 → j ≠ 3 → j ≠ 4 → j ≠ 5 → j ≠ 11 → j ≠ 12 → j ≠ 13 → j ≠ 14 → j ≠ 15 → j ≠ 19 → M1.1 0 j = M.1 0 j := by
    intro j j0 j2 j3 j4 j5 j11 j12 j13 j14 j15 j19
    rw [n5.1 j j4 j11 j12 j13 j14, Q0, up_ne j19, up_ne j15]
    exact t3.2.2.1 j j0 j2 j3 j4 j5
  have fr1 : ∀ b, b ≠ 0 → b ≠ 7 → M1.1 b = M.1 b := by
    intro b b0 b7
    rw [n5.2.1 b b0, q3 b b7, q_kI, if_neg b0, q_kI, if_neg b0]
    exact t3.2.1 b b0
  have fr2 : ∀ b, b ≠ 0 → M1.2 b = M.2 b := by
    intro b b0
    rw [n5.2.2.1 b b0, q4]
    show M31.2 b = _
    rw [t3.1]
  have fr3 : ∀ j, j ≠ 17 → M1.2 0 j = M.2 0 j := by
    intro j j17
    rw [n5.2.2.2 j j17, q4]
    show M31.2 0 j = _
    rw [t3.1]
  have m10 : M1.1 0 0 = nI 0 := by
    rw [n5.1 0 (by omega) (by omega) (by omega) (by omega) (by omega), Q0, up_ne (by omega), up_ne (by omega)]; exact h00
  have m12 : M1.1 0 2 = nI 0 := by
    rw [n5.1 2 (by omega) (by omega) (by omega) (by omega) (by omega), Q0, up_ne (by omega), up_ne (by omega)]; exact t3.2.2.2
  have hLO := q_lines (n := n) (L := 900) (T := T) (by omega) 2000 0 l k v p a 0 0 (kI (kI (kI (kI RO' 0 0 (nI 0)) 0 1 (nI 0)) 0 2 (nI 0)) 0 3 (nI 0)) R1 M1 n3 hW1 (by
    rw [m17]
    refine ⟨⟨⟨by omega, by omega⟩, ⟨q2 0 (by omega), q2 1 (by omega), rfl, rfl, (q2 2 (by omega)).symm⟩, fun m hm => absurd hm (Nat.not_lt_zero m), fun m hm => absurd hm (Nat.not_lt_zero m), fun m hm => absurd hm (Nat.not_lt_zero m), fun m hm => absurd hm (Nat.not_lt_zero m)⟩, fun m hm => absurd hm (Nat.not_lt_zero m), fun m hm => absurd hm (Nat.not_lt_zero m), fun m hm => absurd hm (Nat.not_lt_zero m), fun m _ hm => ⟨q2 (3 + m) (by omega), q2 (9 + m) (by omega)⟩, fun q _ hq => ⟨q2 (15 + q) (by omega), q2 (23 + q) (by omega), q2 (31 + q) (by omega)⟩⟩) rfl m119 (by omega) (by omega) (fun _ => ⟨by omega, by omega⟩)
  have hC : f_X11_office K T R C O S N Hy HS RO' = (bo3 (lp (fun _ _ => none) (g_X3_read_20 940 T) 2000 (kI (kI (kI (kI RO' 0 0 (nI 0)) 0 1 (nI 0)) 0 2 (nI 0)) 0 3 (nI 0)) R1) fun v7 ROv8 Rv9 => if v7 = nI 0 then some ((mI - (Rv9.1 0 10)), kI (kI K 0 1 (nI 0)) 0 16 (Rv9.1 0 9), Rv9, O, S, N, Hy, ROv8) else bo3 (f_X7_begin C O S N ROv8) fun Ov12 Sv13 Nv14 => some ((ROv8.1 0 0), kI (kI K 0 1 (nI 0)) 0 16 (Rv9.1 0 9), Rv9, Ov12, Sv13, Nv14, kI Hy 0 0 (nI 0), ROv8)) := by
    unfold f_X11_office f_X3_read f_X2_forget
    rw [q_takeT hR.2.1]
    simp only [↓q_m1, q_lit, ↓q_bo2, r1, n1, ↓q_bo, ↓q_bd]
  have hD : f_X12_office M = lp (fun _ => none) g_X12_office_30 2000 M1 := by
    unfold f_X12_office
    simp only [↓q_m1, q_lit, ↓q_bd, t1, ↓q_bo, q1, n2]
  rw [hC, hD]
  rcases hLO with ⟨O', R', M', e, a, h1, h2, h3, h4, h5⟩ | ⟨O', R', M', nm, np, c, l', v', p', a', h1, h2, h3, h4, h5, h6, h7, h8, h10, h11, h12⟩
  · rw [h1, h2, q_bo3, if_pos rfl]
    have g0 : ∀ j, j ≠ 4 → j ≠ 11 → j ≠ 12 → j ≠ 13 → j ≠ 14 → j ≠ 15 → j ≠ 16 → j ≠ 18 → j ≠ 19 → M'.1 0 j = M1.1 0 j := by
      intro j j1 j2 j3 j4 j5 j6 j7 j8 j9
      rw [h5.1 j j1 j2 j3 j4 j5 j6 j7 j8, q_kI, if_pos rfl, up_ne j9]
    have g1 : ∀ b, b ≠ 0 → b ≠ 7 → M'.1 b = M1.1 b := by
      intro b b0 b7
      rw [h5.2.1 b b0 b7, q_kI, if_neg b0]
    refine ⟨mI - nI a, R', O', M', ⟨fun j j0 j2 j3 j4 j5 j11 j12 j13 j14 j15 j16 j18 j19 j22 => ?_, fun b b0 b6 b7 => ?_, fun b b0 b9 => ?_, fun j j17 => ?_⟩, ?_, ?_, rfl, Or.inl ⟨?_, ?_, fun i hi => ?_, ?_⟩⟩
    · rw [g0 j j4 j11 j12 j13 j14 j15 j16 j18 j19]; exact fr0 j j0 j2 j3 j4 j5 j11 j12 j13 j14 j15 j19
    · rw [g1 b b0 b7]; exact fr1 b b0 b7
    · rw [h5.2.2.1 b b0 b9]; exact fr2 b b0
    · rw [h5.2.2.2.2 j j17]; exact fr3 j j17
    · refine ⟨Nat.zero_le _, rfl, ?_, fun i hi => ?_⟩
      · rw [g0 2 (by omega) (by omega) (by omega) (by omega) (by omega) (by omega) (by omega) (by omega) (by omega)]; exact m12
      · rw [g1 1 (by omega) (by omega), fr1 1 (by omega) (by omega)]; exact hR.2.2.2 i hi
    · rw [g0 0 (by omega) (by omega) (by omega) (by omega) (by omega) (by omega) (by omega) (by omega) (by omega)]; exact m10
    · rw [h3.2.2.2.1, h3.2.2.2.2.1, h3.2.2.2.2.2.1]
    · rw [g1 6 (by omega) (by omega), fr1 6 (by omega) (by omega)]
    · rw [h5.2.2.2.1 i hi]
      exact congrFun (fr2 9 (by omega)) i
    · rw [g0 22 (by omega) (by omega) (by omega) (by omega) (by omega) (by omega) (by omega) (by omega) (by omega)]
      exact fr0 22 (by omega) (by omega) (by omega) (by omega) (by omega) (by omega) (by omega) (by omega) (by omega) (by omega) (by omega)
  · obtain ⟨O2, S2, N2, M2, b1, b2, b3, b4, b5, b6, b7, b8, b9, b10⟩ := q_begin (C := C) (O := O) (S := S) (N := N) h3
    have hn01 : ¬ nI 1 = nI 0 := by decide
    rw [h1, h2, b2, q_bo3, if_neg hn01, b1, q_bo3]
    have g0 : ∀ j, j ≠ 4 → j ≠ 11 → j ≠ 12 → j ≠ 13 → j ≠ 14 → j ≠ 15 → j ≠ 16 → j ≠ 18 → j ≠ 19 → j ≠ 22 → M2.1 0 j = M1.1 0 j := by
      intro j j1 j2 j3 j4 j5 j6 j7 j8 j9 j22
      rw [b8.1 j j22, h10.1 j j1 j2 j3 j4 j5 j6 j7 j8, q_kI, if_pos rfl, up_ne j9]
    have g1 : ∀ b, b ≠ 0 → b ≠ 6 → b ≠ 7 → M2.1 b = M1.1 b := by
      intro b b0 b6 b7
      rw [b8.2.1 b b0 b6, h10.2.1 b b0 b7, q_kI, if_neg b0]
    have e15 : M2.1 0 15 = nI 0 := by
      rw [b8.1 15 (by omega), h12]; exact m115
    have e9 : R'.1 0 9 = nI 0 := by
      rw [h11, n6 9 (by omega) (by omega) (by omega) (by omega) (by omega)]; exact r6
    refine ⟨M'.1 0 19, R', O', M2, ⟨fun j j0 j2 j3 j4 j5 j11 j12 j13 j14 j15 j16 j18 j19 j22 => ?_, fun b b0 b6 b7 => ?_, fun b b0 b9 => ?_, fun j j17 => ?_⟩, ?_, ?_, rfl, Or.inr ⟨O2, S2, N2, nm, np, ?_, b3, b4, b6, b7, b9, b10⟩⟩
    · rw [g0 j j4 j11 j12 j13 j14 j15 j16 j18 j19 j22]; exact fr0 j j0 j2 j3 j4 j5 j11 j12 j13 j14 j15 j19
    · rw [g1 b b0 b6 b7]; exact fr1 b b0 b7
    · rw [b8.2.2 b b9, h10.2.2.1 b b0 b9]; exact fr2 b b0
    · rw [b8.2.2 0 (by omega), h10.2.2.2.2 j j17]; exact fr3 j j17
    · refine ⟨Nat.zero_le _, rfl, ?_, fun i hi => ?_⟩
      · rw [g0 2 (by omega) (by omega) (by omega) (by omega) (by omega) (by omega) (by omega) (by omega) (by omega) (by omega)]; exact m12
      · rw [g1 1 (by omega) (by omega) (by omega), fr1 1 (by omega) (by omega)]; exact hR.2.2.2 i hi
    · rw [g0 0 (by omega) (by omega) (by omega) (by omega) (by omega) (by omega) (by omega) (by omega) (by omega) (by omega)]; exact m10
    · rw [h4, h5, e15, e9]
