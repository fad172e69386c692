/-! machine-free: the tape -/
def RT (n : Nat) (K : kD) (T : Nat → Int32) (M : kD) : Prop := n ≤ 940 ∧ K.1 0 1 = nI n ∧ M.1 0 2 = nI n ∧ ∀ i, i < 940 → ∃ t, t < 256 ∧ T i = nI t ∧ M.1 1 i &&& nI 255 = nI t
theorem q_t8 (y : Int32) : (y.toBitVec.toNat : Int) % 256 = y.toInt % 256 := by
  show _ = y.toBitVec.toInt % 256
  rw [BitVec.toInt_eq_toNat_cond]
  split <;> omega
theorem q_i8 (y : Int32) : y.toInt8.toInt32.toInt % 256 = y.toInt % 256 := by
  have : y.toInt8.toInt32.toInt = y.toInt.bmod (2 ^ 8) := by
    rw [Int8.toInt_toInt32, Int32.toInt_toInt8]
  rw [this]
  unfold Int.bmod
  simp only
  split <;> omega
theorem q_byte (x : Int32) : ∀ s, s = 0 ∨ s = 8 ∨ s = 16 ∨ s = 24 → ∃ t, t < 256 ∧ kUshr x (nI s) &&& nI 255 = nI t ∧ vp_nar .byte (kI2b (x >>> (nI s &&& nI 31))) &&& nI 255 = nI t := by
  intro s hs
  have h1 := pk_and (kUshr x (nI s)) (m := nI 255) 8 (by decide)
  have h2 := pk_and (vp_nar .byte (kI2b (x >>> (nI s &&& nI 31)))) (m := nI 255) 8 (by decide)
  refine ⟨(kUshr x (nI s)).toBitVec.toNat % 2 ^ 8, Nat.mod_lt _ (by omega), h1, ?_⟩
  rw [h2]
  refine congrArg nI ?_
  have hu : (kUshr x (nI s)).toBitVec.toNat = x.toBitVec.toNat / 2 ^ s := by
    rcases hs with rfl | rfl | rfl | rfl <;> exact pk_ushr x _ _ (by decide)
  have hr : (x >>> (nI s &&& nI 31)).toInt = x.toInt >>> s := by
    rcases hs with rfl | rfl | rfl | rfl <;> exact pk_shr x _ _ (by decide)
  have e1 := q_t8 (vp_nar .byte (kI2b (x >>> (nI s &&& nI 31))))
  rw [vp_nar_byte, q_i8] at e1
  have e2 := q_i8 (x >>> (nI s &&& nI 31))
  have e3 : (kI2b (x >>> (nI s &&& nI 31))).toInt % 256 = (x >>> (nI s &&& nI 31)).toInt % 256 := e2
  rw [e3, hr, Int.shiftRight_eq_div_pow] at e1
  have e4 := q_t8 x
  have e5 : x.toInt = (x.toBitVec.toNat : Int) ∨ x.toInt = (x.toBitVec.toNat : Int) - 4294967296 := by
    have : x.toInt = x.toBitVec.toInt := rfl
    rw [this, BitVec.toInt_eq_toNat_cond]
    split <;> omega
  have hlt := x.toBitVec.isLt
  rw [vp_nar_byte, hu]
  rcases hs with rfl | rfl | rfl | rfl <;> rcases e5 with e5 | e5 <;> rw [e5] at e1 <;> simp only [Nat.reducePow] at e1 ⊢ <;> omega
theorem q_fours {n : Nat} {K M : kD} {T : Nat → Int32} (hR : RT n K T M) (hn : n + 4 ≤ 940) (x : Int32) :
    ∃ K' T' M', f_X11_appendBytes x K T = some (K', T') ∧ f_X12_four x M = some M' ∧ RT (n + 4) K' T' M' ∧ (∀ k, k ≠ 1 → K'.1 0 k = K.1 0 k) ∧ M'.2 = M.2 ∧ (∀ b, b ≠ 0 → b ≠ 1 → M'.1 b = M.1 b) ∧ (∀ k, k ≠ 2 → M'.1 0 k = M.1 0 k) := by
  have step : ∀ (m : Nat) (K M : kD) (T : Nat → Int32) (s : Nat) (rc : Int32 → Int32 → kD → (Nat → Int32) → Option (kD × (Nat → Int32))) (rd : Int32 → Int32 → kD → Option kD), RT m K T M → m < 940 → (s = 0 ∨ s = 8 ∨ s = 16 ∨ s = 24) →
      ∃ K' T' M', g_X11_appendBytes_3 rc x (nI s) K T = rc x (nI s + (-8)) K' T' ∧ g_X12_four_3 rd x (nI s) M = rd x (nI s + (-8)) M' ∧ RT (m + 1) K' T' M' ∧ (∀ k, k ≠ 1 → K'.1 0 k = K.1 0 k) ∧ M'.2 = M.2 ∧ (∀ b, b ≠ 0 → b ≠ 1 → M'.1 b = M.1 b) ∧ (∀ k, k ≠ 2 → M'.1 0 k = M.1 0 k) := by
    intro m K M T s rc rd ⟨r1, r2, r3, r4⟩ hm hs
    obtain ⟨t, t1, t2, t3⟩ := q_byte x s hs
    have hs31 : s < 2 ^ 31 := by omega
    refine ⟨kI K 0 1 (nI (m + 1)), upd T m (kUshr x (nI s) &&& nI 255), kI (kI M 1 m (vp_nar .byte (kI2b (x >>> (nI s &&& nI 31))))) 0 2 (nI (m + 1)), ?_, ?_, ⟨by omega, rfl, rfl, fun i hi => ?_⟩, fun k hk => ?_, rfl, fun b h0 h1 => ?_, fun k hk => ?_⟩
    · unfold g_X11_appendBytes_3
      simp (disch := omega) only [show (0 : Int32) = nI 0 from rfl, show (940 : Int32) = nI 940 from rfl, show (255 : Int32) = nI 255 from rfl, show (1 : Int32) = nI 1 from rfl, ↓q_bd, ↓reduceIte, q_lt, Nat.not_lt_zero, r2, q_le, show ¬ 940 ≤ m by omega, false_or, q_cl, nI_add]
    · have e3 : (kI M 1 m (vp_nar .byte (kI2b (x >>> (nI s &&& nI 31))))).1 0 2 = nI m := r3
      unfold g_X12_four_3
      simp (disch := omega) only [show (0 : Int32) = nI 0 from rfl, show (31 : Int32) = nI 31 from rfl, show (1 : Int32) = nI 1 from rfl, ↓q_bd, ↓reduceIte, q_lt, Nat.not_lt_zero, r3, e3, show ¬ 940 ≤ m by omega, false_or, q_cl, nI_add]
    · by_cases him : i = m
      · subst him
        exact ⟨t, t1, by rw [pk_us]; exact t2, by
          show upd (M.1 1) i _ i &&& nI 255 = _
          rw [pk_us]; exact t3⟩
      · obtain ⟨t', h1, h2, h3⟩ := r4 i hi
        exact ⟨t', h1, by rw [pk_un him]; exact h2, by
          show upd (M.1 1) m _ i &&& nI 255 = _
          rw [pk_un him]; exact h3⟩
    · exact pk_un hk
    · show (if b = 0 then _ else if b = 1 then _ else M.1 b) = _
      rw [if_neg h0, if_neg h1]
    · exact pk_un hk
  unfold f_X11_appendBytes f_X12_four
  rw [q_lp _ g_X11_appendBytes_3 1999, q_lp _ g_X12_four_3 1999, show (24 : Int32) = nI 24 from rfl]
  obtain ⟨K1, T1, M1, a1, a2, a3, a4, a5, a6, a7⟩ := step n K M T 24 (lp (fun _ _ _ _ => none) g_X11_appendBytes_3 1999) (lp (fun _ _ _ => none) g_X12_four_3 1999) hR (by omega) (by omega)
  rw [a1, a2, q_lp _ g_X11_appendBytes_3 1998, q_lp _ g_X12_four_3 1998, show nI 24 + (-8) = nI 16 from by decide]
  obtain ⟨K2, T2, M2, b1, b2, b3, b4, b5, b6, b7⟩ := step (n + 1) K1 M1 T1 16 (lp (fun _ _ _ _ => none) g_X11_appendBytes_3 1998) (lp (fun _ _ _ => none) g_X12_four_3 1998) a3 (by omega) (by omega)
  rw [b1, b2, q_lp _ g_X11_appendBytes_3 1997, q_lp _ g_X12_four_3 1997, show nI 16 + (-8) = nI 8 from by decide]
  obtain ⟨K3, T3, M3, c1, c2, c3, c4, c5, c6, c7⟩ := step (n + 2) K2 M2 T2 8 (lp (fun _ _ _ _ => none) g_X11_appendBytes_3 1997) (lp (fun _ _ _ => none) g_X12_four_3 1997) b3 (by omega) (by omega)
  rw [c1, c2, q_lp _ g_X11_appendBytes_3 1996, q_lp _ g_X12_four_3 1996, show nI 8 + (-8) = nI 0 from by decide]
  obtain ⟨K4, T4, M4, d1, d2, d3, d4, d5, d6, d7⟩ := step (n + 3) K3 M3 T3 0 (lp (fun _ _ _ _ => none) g_X11_appendBytes_3 1996) (lp (fun _ _ _ => none) g_X12_four_3 1996) c3 (by omega) (by omega)
  rw [d1, d2, q_lp _ g_X11_appendBytes_3 1995, q_lp _ g_X12_four_3 1995]
  have hneg : (nI 0 + (-8) < 0) = True := eq_true (by decide)
  refine ⟨K4, T4, M4, ?_, ?_, d3, fun k hk => by rw [d4 k hk, c4 k hk, b4 k hk, a4 k hk], by rw [d5, c5, b5, a5], fun b h0 h1 => by rw [d6 b h0 h1, c6 b h0 h1, b6 b h0 h1, a6 b h0 h1], fun k hk => by rw [d7 k hk, c7 k hk, b7 k hk, a7 k hk]⟩
  · generalize lp _ g_X11_appendBytes_3 1995 = rc
    unfold g_X11_appendBytes_3
    simp only [hneg, ↓reduceIte]
  · generalize lp _ g_X12_four_3 1995 = rc
    unfold g_X12_four_3
    simp only [hneg, ↓reduceIte]
/-- the tape and its length alone have changed -/
def MXt (M M' : kD) : Prop := M'.2 = M.2 ∧ (∀ b, b ≠ 0 → b ≠ 1 → M'.1 b = M.1 b) ∧ (∀ k, k ≠ 0 → k ≠ 2 → M'.1 0 k = M.1 0 k)
theorem q_feed {n : Nat} {K M : kD} {T : Nat → Int32} (hR : RT n K T M) (a b c d e : Int32) :
    ∃ v n' K' T' M', f_X11_feed a b c d e K T = some (v, K', T') ∧ f_X12_feed a b c d e M = some (v, M') ∧ RT n' K' T' M' ∧ (∀ k, k ≠ 1 → K'.1 0 k = K.1 0 k) ∧ MXt M M' := by
  have hR0 : RT n K T (kI M 0 0 (nI 0)) := hR
  obtain ⟨r1, r2, r3, r4⟩ := hR0
  unfold f_X11_feed f_X12_feed
  simp only [↓q_m1, q_lit, ↓q_bd, r2, r3, nI_add]
  by_cases hn : n + 20 ≤ 940
  · obtain ⟨K1, T1, M1, a1, a2, a3, a4, a5, a6, a7⟩ := q_fours (M := kI M 0 0 (nI 0)) hR (by omega) a
    obtain ⟨K2, T2, M2, b1, b2, b3, b4, b5, b6, b7⟩ := q_fours a3 (by omega) b
    obtain ⟨K3, T3, M3, c1, c2, c3, c4, c5, c6, c7⟩ := q_fours b3 (by omega) c
    obtain ⟨K4, T4, M4, d1, d2, d3, d4, d5, d6, d7⟩ := q_fours c3 (by omega) d
    obtain ⟨K5, T5, M5, e1, e2, e3, e4, e5, e6, e7⟩ := q_fours d3 (by omega) e
    simp (disch := omega) only [q_le, hn, ↓reduceIte, a1, a2, b1, b2, c1, c2, d1, d2, e1, e2, q_bo2, q_bo, e3.2.1, e3.2.2.1]
    refine ⟨_, _, K5, T5, M5, rfl, rfl, e3, fun k hk => by rw [e4 k hk, d4 k hk, c4 k hk, b4 k hk, a4 k hk], by rw [e5, d5, c5, b5, a5]; rfl, fun z h0 h1 => ?_, fun k h0 h2 => ?_⟩
    · rw [e6 z h0 h1, d6 z h0 h1, c6 z h0 h1, b6 z h0 h1, a6 z h0 h1]
      exact if_neg h0
    · rw [e7 k h2, d7 k h2, c7 k h2, b7 k h2, a7 k h2]
      exact pk_un h0
  · simp (disch := omega) only [q_le, hn, ↓reduceIte]
    exact ⟨_, n, _, _, _, rfl, rfl, hR, fun _ _ => rfl, rfl, fun z h0 _ => if_neg h0, fun k h0 _ => pk_un h0⟩
theorem q_end {n : Nat} {K M : kD} {T : Nat → Int32} (hR : RT n K T M) (a : Int32) :
    ∃ v n' K' M', f_X11_end a K = some (v, K') ∧ f_X12_end a M = some (v, M') ∧ RT n' K' T M' ∧ (∀ k, k ≠ 1 → K'.1 0 k = K.1 0 k) ∧ MXt M M' := by
  obtain ⟨r1, r2, r3, r4⟩ := hR
  have r3' : (kI M 0 0 (nI 0)).1 0 2 = nI n := r3
  have hM0 : MXt M (kI M 0 0 (nI 0)) := ⟨rfl, fun z h0 _ => if_neg h0, fun k h0 _ => pk_un h0⟩
  unfold f_X11_end f_X12_end
  simp only [↓q_m1, q_lit, ↓q_bd, r2, r3']
  rcases q_arg a with h | ⟨j, hj, rfl⟩
  · rw [if_pos h, if_pos h]
    exact ⟨_, n, _, _, rfl, rfl, ⟨r1, r2, r3, r4⟩, fun _ _ => rfl, hM0⟩
  · simp (disch := omega) only [q_lt, q_le, Nat.not_lt_zero, ↓reduceIte]
    by_cases hjn : j ≤ n
    · rw [if_pos hjn, if_pos hjn]
      refine ⟨_, j, _, _, rfl, rfl, ⟨by omega, rfl, rfl, r4⟩, fun k hk => pk_un hk, rfl, fun z h0 _ => ?_, fun k h0 h2 => ?_⟩
      · show (if z = 0 then _ else if z = 0 then _ else M.1 z) = _
        rw [if_neg h0, if_neg h0]
      · show upd (upd (M.1 0) 0 _) 2 _ k = _
        rw [pk_un h2, pk_un h0]
    · rw [if_neg hjn, if_neg hjn]
      exact ⟨_, n, _, _, rfl, rfl, ⟨r1, r2, r3, r4⟩, fun _ _ => rfl, hM0⟩
