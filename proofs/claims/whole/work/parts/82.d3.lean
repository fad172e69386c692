/-! machine-free: FAINT and LOOK, the calls -/
def LK (K M : kD) : Prop := (K.1 0 17 = mI ∧ M.1 0 32 = nI 0) ∨ (M.1 0 32 = nI 1 ∧ K.1 0 17 = M.1 0 31)
theorem q_look {K M : kD} (h : LK K M) : f_X12_look M = some (f_X11_look K, kI M 0 0 (nI 0)) := by
  unfold f_X12_look f_X11_look
  simp only [↓q_m1, q_lit, ↓q_bd]
  have e32 : (kI M 0 0 (nI 0)).1 0 32 = M.1 0 32 := rfl
  have e31 : (kI M 0 0 (nI 0)).1 0 31 = M.1 0 31 := rfl
  rw [e32, e31]
  rcases h with ⟨h1, h2⟩ | ⟨h1, h2⟩
  · rw [h2, if_pos rfl, h1]
  · rw [h1, if_neg n10, h2]
theorem stO_tb {p : Nat → Bool} {n k : Nat} (hk : k < n) : (stO p n).testBit k = p k := by
  rw [stO_bit, show decide (k < n) = true from decide_eq_true hk, Bool.true_and]
/-- the place to look at -/
theorem q_place {n np V : Nat} {T : Nat → Int32} {O S K C N M : kD} (hz : RZ n T M) (h1 : 1 ≤ n) (h7 : n ≤ 7) (hp : np ≤ 8) (o2 : O.1 0 2 = nI np) (e1 : M.1 6 1 = nI np) (hN : NR np 6 (O.2 7) (M.2 9)) (hV : V < 2 ^ np) (hlen : ∀ p, p < np → V.testBit p = true → ∀ l, NM l (O.2 7 p) (M.2 9 (6 + p)) → l.length = n) :
    ∃ b, f_X11_placeToLook (nI V) (nI n) K C O S N = some (nI b) ∧ lp (fun _ _ _ => none) g_X12_faint_126 2000 (nI V) (nI 1) (kI (kI M 0 32 (nI 1)) 0 31 (nI 0)) = some (nI V, kI (kI M 0 32 (nI 1)) 0 31 (nI b)) := by
  have hm : ∀ i, i < n → ∃ c, c ≤ 8 ∧ f_X11_mostAlikeAt (nI i) (nI V) K C O S N = some (nI c) ∧ ∀ x, f_X12_leftBy (nI V) (nI i) (kI (kI M 0 32 (nI 1)) 0 31 x) = some (nI c) := by
    intro i hi
    obtain ⟨c, c1, c2, c3⟩ := q_most (M := M) (S := S) (K := K) (C := C) (N := N) hp o2 e1 hN hV hlen hi h7
    refine ⟨c, c1, c2, fun x => ?_⟩
    obtain ⟨c', d1, d2, d3⟩ := q_most (M := kI (kI M 0 32 (nI 1)) 0 31 x) (S := S) (K := K) (C := C) (N := N) hp o2 e1 hN hV hlen hi h7
    rw [c2] at d2
    rw [d3]
    exact d2.symm
  obtain ⟨c0, c01, c02, c03⟩ := hm 0 (by omega)
  have hn3 : ∀ x, (kI (kI M 0 32 (nI 1)) 0 31 x).1 0 3 = nI n := fun x => hz.2.1
  have h31 : ∀ x, (kI (kI M 0 32 (nI 1)) 0 31 x).1 0 31 = x := fun x => rfl
  have key := q_two (fun f k (x : Nat × Nat) => lp (fun _ _ _ _ _ => none) (g_X11_placeToLook_9 K C O S N) f (nI V) (nI n) (nI x.1) (nI x.2) (nI (1 + k))) (fun f k (b : Nat) => lp (fun _ _ _ => none) g_X12_faint_126 f (nI V) (nI (1 + k)) (kI (kI M 0 32 (nI 1)) 0 31 (nI b))) (fun k x b => x.1 = b ∧ b < n ∧ x.2 ≤ 8 ∧ ∀ z, f_X12_leftBy (nI V) (nI b) (kI (kI M 0 32 (nI 1)) 0 31 z) = some (nI x.2)) (fun r1 r2 => ∃ b, r1 = some (nI b) ∧ r2 = some (nI V, kI (kI M 0 32 (nI 1)) 0 31 (nI b))) (n - 1) ?_ ?_ (n - 1) 0 1999 2000 (0, c0) 0 (by omega) (by omega) (by omega) ⟨rfl, by omega, c01, c03⟩
  · obtain ⟨b, b1, b2⟩ := key
    refine ⟨b, ?_, b2⟩
    unfold f_X11_placeToLook
    simp only [↓q_m1, q_lit]
    rw [← b1, q_lp]
    generalize lp _ (g_X11_placeToLook_9 K C O S N) 1999 = rc
    unfold g_X11_placeToLook_9 g_X11_placeToLook_38
    simp (disch := omega) only [↓q_m1, q_lit, ↓q_bd, q_le, show ¬ n ≤ 0 by omega, ↓reduceIte, c02, ↓q_bo, show ¬ 9 ≤ c0 by omega, nI_add, Nat.zero_add, Nat.add_zero]
  · rintro f g k ⟨x, c⟩ b _ _ hk ⟨hxb, hbn, hc8, hcb⟩ ih
    have hxb : x = b := hxb
    subst hxb
    have hc8 : c ≤ 8 := hc8
    obtain ⟨c', d1, d2, d3⟩ := hm (1 + k) (by omega)
    simp only [q_lp]
    generalize lp _ (g_X11_placeToLook_9 K C O S N) f = rc at ih ⊢
    generalize lp _ g_X12_faint_126 g = rd at ih ⊢
    have hcb : ∀ z, f_X12_leftBy (nI V) (nI x) (kI (kI M 0 32 (nI 1)) 0 31 z) = some (nI c) := hcb
    unfold g_X11_placeToLook_9 g_X11_placeToLook_38 g_X12_faint_126 g_X12_faint_157
    simp (disch := omega) only [↓q_m1, q_lit, ↓q_bd, q_le, show ¬ n ≤ 1 + k by omega, ↓reduceIte, d2, d3, ↓q_bo, hn3, h31, hcb, nI_add, show 1 + k + 1 = 1 + (k + 1) by omega]
    by_cases hcc : c ≤ c'
    · rw [if_pos hcc, if_pos hcc]
      exact ih (x, c) x ⟨rfl, hbn, hc8, hcb⟩
    · rw [if_neg hcc, if_neg hcc]
      have e31 : kI (kI (kI M 0 32 (nI 1)) 0 31 (nI x)) 0 31 (nI (1 + k)) = kI (kI M 0 32 (nI 1)) 0 31 (nI (1 + k)) := q_II (kI M 0 32 (nI 1)) 0 31 (nI x) (nI (1 + k))
      rw [e31]
      exact ih (1 + k, c') (1 + k) ⟨rfl, by omega, d1, d3⟩
  · rintro f g ⟨x, c⟩ b ⟨hxb, hbn, hc8, hcb⟩
    have hxb : x = b := hxb
    subst hxb
    refine ⟨x, ?_, ?_⟩
    · simp only [q_lp]
      generalize lp _ (g_X11_placeToLook_9 K C O S N) f = rc
      unfold g_X11_placeToLook_9
      simp (disch := omega) only [q_le, show n ≤ 1 + (n - 1) by omega, ↓reduceIte]
    · simp only [q_lp]
      generalize lp _ g_X12_faint_126 g = rd
      unfold g_X12_faint_126
      simp (disch := omega) only [hn3, q_le, show n ≤ 1 + (n - 1) by omega, ↓reduceIte]
theorem isLetC (t : Nat) (ht : t < 256) : f_X11_isLetter (nI t) = f_X12_isIn (nI t) (nI 97) (nI 122) := by
  unfold f_X11_isLetter f_X12_isIn
  simp only [↓q_m1, q_lit]
def MXf (M M' : kD) : Prop := M'.2 = M.2 ∧ (∀ b, b ≠ 0 → M'.1 b = M.1 b) ∧ (∀ k, k ≠ 0 → k ≠ 2 → k ≠ 3 → k ≠ 4 → k ≠ 5 → k ≠ 31 → k ≠ 32 → M'.1 0 k = M.1 0 k) ∧ M'.1 0 2 = nI 0 ∧ M'.1 0 0 = nI 0
theorem q_faint {n nm np : Nat} {T : Nat → Int32} {K C O S N M : kD} (hR : RT n K T M) (hl : RLo nm np O (M.1 6) (M.2 9)) (hk : LK K M) :
    ∃ r K' M', f_X11_faint K T C O S N = some (r, K') ∧ f_X12_faint M = some (r, M') ∧ RT 0 K' T M' ∧ LK K' M' ∧ (∀ j, j ≠ 1 → j ≠ 17 → K'.1 0 j = K.1 0 j) ∧ MXf M M' := by
  obtain ⟨M31, t1, t2, t3, t4, t5, t6⟩ := q_take hR (nI 940)
  obtain ⟨M31', u1, u2, u3, u4, u5, u6, u7, u8⟩ := q_taken (kI M 0 0 (nI 0)) n (nI 940) hR.2.2.1
  have e31 : M31' = M31 := by
    rw [t1] at u1
    exact (Option.some.inj u1).symm
  rw [e31] at u8
  have h00 : M31.1 0 0 = nI 0 := (u8 0 (by omega) (by omega) (by omega) (by omega)).trans rfl
  have hn := hR.1
  have h3 : M31.1 0 3 = nI n := t2.2.1
  have hp : np ≤ 8 := hl.1.1.2
  have e1 : M31.1 6 1 = nI np := by rw [t3.2.1 6 (by omega)]; exact hl.1.2.1.2.1
  have o2 : O.1 0 2 = nI np := hl.1.2.1.2.2.2.1
  have hN : NR np 6 (O.2 7) (M31.2 9) := by rw [t3.1]; exact hl.2.2.2.1
  have hkk : LK (kI K 0 1 (nI 0)) M31 := by
    unfold LK
    rw [t3.2.2.1 32 (by omega) (by omega) (by omega) (by omega) (by omega), t3.2.2.1 31 (by omega) (by omega) (by omega) (by omega) (by omega)]
    exact hk
  have hX : MXf M M31 := ⟨t3.1, t3.2.1, fun k k0 k2 k3 k4 k5 _ _ => t3.2.2.1 k k0 k2 k3 k4 k5, t3.2.2.2, h00⟩
  have hsame : ∃ r K' M', (some (mI, kI K 0 1 (nI 0)) : Option (Int32 × kD)) = some (r, K') ∧ (some (mI, M31) : Option (Int32 × kD)) = some (r, M') ∧ RT 0 K' T M' ∧ LK K' M' ∧ (∀ j, j ≠ 1 → j ≠ 17 → K'.1 0 j = K.1 0 j) ∧ MXf M M' :=
    ⟨mI, _, M31, rfl, rfl, t6, hkk, fun j j1 _ => up_ne j1, hX⟩
  unfold f_X11_faint f_X12_faint f_X11_tellsFaintLetters
  rw [q_takeT hR.2.1]
  simp only [↓q_m1, q_lit, ↓q_bd, ↓q_bo2]
  rw [t1, q_bo, h3]
  rcases q_isIn 0 1 7 (nI n) (by omega) (by omega) with ⟨x, h1, h2, hx, h4⟩ | ⟨h1, h4, _⟩
  · rw [q_eq (by omega) (by omega)] at hx
    have h1n : 1 ≤ n := by omega
    have h7n : n ≤ 7 := by omega
    rw [h4, if_neg n10, if_neg (show ¬ nI n < nI 1 by rw [q_lt (by omega) (by omega)]; omega), if_pos (show nI n ≤ nI 7 by rw [q_le (by omega) (by omega)]; omega)]
    -- the letters told
    have key := q_two (fun f k (_ : Unit) => lp (fun _ _ => none) (g_X11_tellsFaintLetters_15 (kI K 0 1 (nI 0)) T) f (nI n) (nI k)) (fun f k (_ : Unit) => lp (fun _ _ => none) g_X12_faint_29 f (nI k) M31) (fun _ _ _ => True) (fun r1 r2 => (r1 = some (nI 0) ∧ r2 = some (mI, M31)) ∨ (r1 = some (nI 1) ∧ r2 = g_X12_faint_70 M31)) n ?_ ?_ n 0 2000 2000 () () (by omega) (by omega) (by omega) trivial
    · rcases key with ⟨k1, k2⟩ | ⟨k1, k2⟩
      · rw [k1, k2, q_bo, if_pos rfl]
        exact hsame
      · rw [k1, k2, q_bo, if_neg n10]
        unfold g_X12_faint_70
        simp only [↓q_m1, q_lit]
        have hfit : ∃ p : Nat → Bool, ∀ q, q < np → f_X11_fits (O.2 7 q) (nI n) (kI K 0 1 (nI 0)) T = some (q_b (p q)) ∧ f_X12_isFaint (nI q) M31 = some (q_b (p q)) ∧ (p q = true → ∀ l, NM l (O.2 7 q) (M31.2 9 (6 + q)) → l.length = n) := by
          refine ⟨fun q => decide (f_X12_isFaint (nI q) M31 = some (nI 1)), fun q hq => ?_⟩
          obtain ⟨l, hlq⟩ := hN q hq
          obtain ⟨b, b1, b2, b3⟩ := q_fits (K := kI K 0 1 (nI 0)) t2 h1n h7n hp hq hlq
          have hb : decide (f_X12_isFaint (nI q) M31 = some (nI 1)) = b := by
            rw [b2]
            cases b with
            | false => exact decide_eq_false (by decide)
            | true => exact decide_eq_true rfl
          show f_X11_fits (O.2 7 q) (nI n) (kI K 0 1 (nI 0)) T = some (q_b (decide (f_X12_isFaint (nI q) M31 = some (nI 1)))) ∧ f_X12_isFaint (nI q) M31 = some (q_b (decide (f_X12_isFaint (nI q) M31 = some (nI 1)))) ∧ (decide (f_X12_isFaint (nI q) M31 = some (nI 1)) = true → _)
          rw [hb]
          refine ⟨b1, b2, fun hbt l' hl' => ?_⟩
          have := b3 hbt
          have h99 : l = l' := by
            have := NM_eqC hlq hl'
            exact this.mp rfl
          rw [← h99]; exact this
        obtain ⟨p, hpf⟩ := hfit
        have hC := q_set (fun f k x => lp (fun _ _ _ _ => none) (g_X11_faint_28 T C O S N) f (nI n) (nI x) (nI k) (kI K 0 1 (nI 0))) p np (fun x => g_X11_faint_65 T C O S N (nI n) (nI x) (kI K 0 1 (nI 0))) (fun f k x hk hx => by
          simp only [q_lp]
          generalize lp _ (g_X11_faint_28 T C O S N) f = rc
          unfold g_X11_faint_28 g_X11_faint_59
          simp (disch := omega) only [↓q_m1, q_lit, ↓q_bd, o2, q_le, show ¬ np ≤ k by omega, ↓reduceIte, q_lt, Nat.not_lt_zero, false_or, q_cl, show ¬ 8 ≤ k by omega, (hpf k hk).1, ↓q_bo, q_qb, nI_add]
          cases p k with
          | false => simp only [↓reduceIte, Bool.false_eq_true]
          | true => simp only [Bool.true_eq_false, ↓reduceIte]; rw [q_or x (q_pow (show k ≤ 8 by omega) hx) k (by omega)]) (fun f x => by
          simp only [q_lp]
          generalize lp _ (g_X11_faint_28 T C O S N) f = rc
          unfold g_X11_faint_28
          simp (disch := omega) only [↓q_m1, q_lit, o2, q_le, Nat.le_refl, ↓reduceIte]) 2000 (by omega)
        have hD := q_set (fun f k x => lp (fun _ _ _ => none) g_X12_faint_74 f (nI x) (nI k) M31) p np (fun x => g_X12_faint_108 (nI x) M31) (fun f k x hk hx => by
          simp only [q_lp]
          generalize lp _ g_X12_faint_74 f = rc
          unfold g_X12_faint_74 g_X12_faint_100
          simp (disch := omega) only [↓q_m1, q_lit, ↓q_bd, e1, q_cl, q_le, show ¬ np ≤ k by omega, ↓reduceIte, (hpf k hk).2.1, ↓q_bo, q_qb, nI_add]
          cases p k with
          | false => simp only [↓reduceIte, Bool.false_eq_true]; rw [q_or0 x (q_pow (show k ≤ 8 by omega) hx)]
          | true => simp only [Bool.true_eq_false, ↓reduceIte]; rw [q_or x (q_pow (show k ≤ 8 by omega) hx) k (by omega)]) (fun f x => by
          simp only [q_lp]
          generalize lp _ g_X12_faint_74 f = rc
          unfold g_X12_faint_74
          simp (disch := omega) only [↓q_m1, q_lit, e1, q_cl, q_le, Nat.le_refl, ↓reduceIte]) 2000 (by omega)
        rw [hC, hD]
        have hV := stO_lt p np
        have hV8 := q_pow hp hV
        have hlen : ∀ q, q < np → (stO p np).testBit q = true → ∀ l, NM l (O.2 7 q) (M31.2 9 (6 + q)) → l.length = n := fun q hq hb => (hpf q hq).2.2 ((stO_tb hq).symm.trans hb)
        generalize stO p np = V at hV hV8 hlen ⊢
        unfold g_X11_faint_65 g_X12_faint_108
        simp (disch := omega) only [↓q_m1, q_lit, ↓q_bd, q_le, q_eq]
        by_cases hV0 : V = 0
        · rw [if_pos (show V ≤ 0 by omega), if_pos hV0, hV0]
          exact ⟨nI 0, _, M31, rfl, rfl, t6, hkk, fun j j1 _ => up_ne j1, hX⟩
        · obtain ⟨b, b1, b2⟩ := q_place (S := S) (K := kI K 0 1 (nI 0)) (C := C) (N := N) t2 h1n h7n hp o2 e1 hN hV hlen
          rw [if_neg (show ¬ V ≤ 0 by omega), if_neg hV0, b1, q_bo, b2]
          refine ⟨nI V, _, _, rfl, rfl, ?_, Or.inr ⟨rfl, rfl⟩, fun j j1 j17 => ?_, ⟨t3.1, fun b b0 => ?_, fun j j0 j2 j3 j4 j5 j31 j32 => ?_, ?_, ?_⟩⟩
          · exact t6
          · show upd (upd (K.1 0) 1 (nI 0)) 17 _ j = _
            rw [up_ne j17, up_ne j1]
          · show (if b = 0 then _ else if b = 0 then _ else M31.1 b) = _
            rw [if_neg b0, if_neg b0]; exact t3.2.1 b b0
          · show upd (upd (M31.1 0) 32 _) 31 _ j = _
            rw [up_ne j31, up_ne j32]; exact t3.2.2.1 j j0 j2 j3 j4 j5
          · exact t3.2.2.2
          · exact h00
    · intro f g k _ _ _ _ hk _ ih
      obtain ⟨s1, s2⟩ := q_tN t2 (show k < 940 by omega)
      have ih := ih () () trivial
      simp only [q_lp]
      generalize lp _ (g_X11_tellsFaintLetters_15 (kI K 0 1 (nI 0)) T) f = rc at ih ⊢
      generalize lp _ g_X12_faint_29 g = rd at ih ⊢
      unfold g_X11_tellsFaintLetters_15 g_X11_tellsFaintLetters_45 g_X12_faint_29 g_X12_faint_64
      simp (disch := omega) only [↓q_m1, q_lit, ↓q_bd, h3, q_le, show ¬ n ≤ k by omega, ↓reduceIte, q_lt, Nat.not_lt_zero, false_or, q_cl, show ¬ 940 ≤ k by omega, q_oct t2 (show k < 940 by omega), ↓q_bo, nI_add]
      by_cases h63 : T k = nI 63
      · rw [if_pos h63, if_pos h63]; exact ih
      · rw [if_neg h63, if_neg h63, s1, isLetC _ s2]
        by_cases hin : f_X12_isIn (nI (tN T k)) (nI 97) (nI 122) = nI 0
        · rw [if_pos hin, if_pos hin]; exact Or.inl ⟨rfl, rfl⟩
        · rw [if_neg hin, if_neg hin]; exact ih
    · intro f g _ _ _
      refine Or.inr ⟨?_, ?_⟩
      · simp only [q_lp]
        generalize lp _ (g_X11_tellsFaintLetters_15 (kI K 0 1 (nI 0)) T) f = rc
        unfold g_X11_tellsFaintLetters_15
        simp (disch := omega) only [↓q_m1, q_lit, q_le, Nat.le_refl, ↓reduceIte]
      · simp only [q_lp]
        generalize lp _ g_X12_faint_29 g = rd
        unfold g_X12_faint_29
        simp (disch := omega) only [↓q_m1, q_lit, h3, q_le, Nat.le_refl, ↓reduceIte]
  · have hno : n < 1 ∨ 7 < n := by
      by_cases h9 : 1 ≤ n ∧ n ≤ 7
      · exact absurd rfl (h1 n h9.1 h9.2)
      · omega
    have hbo : (if nI n < nI 1 then some (nI 0) else if nI n ≤ nI 7 then lp (fun _ _ => none) (g_X11_tellsFaintLetters_15 (kI K 0 1 (nI 0)) T) 2000 (nI n) (nI 0) else some (nI 0)) = some (nI 0) := by
      by_cases hb : n < 1
      · rw [if_pos (by rw [q_lt (by omega) (by omega)]; exact hb)]
      · rw [if_neg (by rw [q_lt (by omega) (by omega)]; exact hb), if_neg (by rw [q_le (by omega) (by omega)]; omega)]
    rw [h4, if_pos rfl, hbo, q_bo, if_pos rfl]
    exact hsame
