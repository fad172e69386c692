/-! machine-free: BOOK read: a line -/
theorem BR_M {n L p0 p1 nm np c : Nat} {T : Nat → Int32} {R M R1 M1 : kD} {C : Option (Int32 × kD × kD)} {D : Option (Int32 × kD)} (h : BR n L p1 nm np c T R1 M1 C D) (hR : MRr R R1) (hM : MXk M M1) (hp : p0 ≤ p1) (h9 : R1.1 0 9 = R.1 0 9) (h15 : M1.1 0 15 = M.1 0 15) : BR n L p0 nm np c T R M C D := by
  obtain ⟨d, K', R', M', hd, h1, h2, h3, h4, h5⟩ := h
  refine ⟨d, K', R', M', hd, h1, h2, MRr_t hR h3, MXk_t hM h4, ?_⟩
  rcases h5 with h5 | ⟨e0, e1, ⟨l, k, v, p, a, e2, e3⟩, e4, e5⟩
  · exact Or.inl h5
  · exact Or.inr ⟨e0, e1, ⟨l, k, v, p, a, e2, fun h => by have := e3 h; omega⟩, e4.trans h9, e5.trans h15⟩
section tk
variable {n L : Nat} {T : Nat → Int32} {l : List Nat} {k v p a : Nat} {R M : kD}
theorem q_bkL (h : TK n L T l k v p a R M) (hL : L < 2 ^ 31) (hW : WT M) {nm np c : Nat} {O K : kD} (hr : RLo nm np O (M.1 6) (M.2 9)) (hk : RK nm np c K (M.1 8)) (h36 : M.1 0 36 = nI c) :
    BR n L 0 nm np c T R M (f_X0_readLine 940 K R O T) (f_X12_bookLine M) := by
  have hn01 : ¬ nI 1 = nI 0 := by decide
  have hc40 := hk.2.1
  obtain ⟨⟨⟨c1, c2⟩, ⟨s0, s1, p1, p2, _⟩, _⟩, _, hN1, hN2, _⟩ := id hr
  obtain ⟨x9, y9, a9, b9, d9⟩ := q_isW h (w := 9) (N := 427020345714) (by omega) (by omega) (by decide +kernel)
  obtain ⟨x10, y10, a10, b10, d10⟩ := q_isW h (w := 10) (N := 6578553) (by omega) (by omega) (by decide +kernel)
  -- the new line's place on the class's side
  have hK0 : ∀ x4 : Int32, (kI (kI (kI K 4 c x4) 5 c (nI 0)) 0 0 (nI (c + 1))).1 0 0 = nI (c + 1) := fun _ => rfl
  have hK4 : ∀ x4 : Int32, ∀ i, i < c → (kI (kI (kI K 4 c x4) 5 c (nI 0)) 0 0 (nI (c + 1))).1 4 i = K.1 4 i := by
    intro x4 i hi
    show upd (K.1 4) c x4 i = _
    rw [up_ne (by omega)]
  have hK5 : ∀ x4 : Int32, ∀ i, i < c → (kI (kI (kI K 4 c x4) 5 c (nI 0)) 0 0 (nI (c + 1))).1 5 i = K.1 5 i := by
    intro x4 i hi
    show upd (K.1 5) c (nI 0) i = _
    rw [up_ne (by omega)]
  -- full
  have hfull : ∀ (x3 x4 d1 d2 : Nat) (y : Int32) (M1 : kD), c = 40 → TK n L T l k v p a R M1 → MXr M M1 → M1.1 0 36 = nI c → BR n L 0 nm np c T R M (g_X0_readLine_60 940 O T (nI x3) y K R) (g_X12_bookLine_47 (nI (3 * c)) (nI d1) (nI d2) M1) := by
    intro x3 x4 d1 d2 y M1 hc h1 hM h36
    obtain ⟨R', M', h1, h2, h3, h4, h5⟩ := q_bad h1 4 (by omega) (by omega)
    unfold g_X0_readLine_60 g_X12_bookLine_47
    simp (disch := omega) only [↓q_m1, q_lit, hk.1, h36, q_lt, show ¬ c < 40 by omega, q_eq, hc, ↓reduceIte, h1, h2, ↓q_bo2, true_or, not_true_eq_false, Nat.lt_irrefl]
    exact ⟨0, K, R', M', by omega, rfl, rfl, h4, MXk_r (MXr_t hM h5), Or.inl ⟨rfl, 4, a, h3⟩⟩
  have hcls : ∀ (x3 : Nat) (y : Int32), c < 40 → g_X0_readLine_60 940 O T (nI x3) y K R = (if nI x3 = nI 0 then bo (f_X4_seesWord (nI 9) 940 R T) fun v7 => if v7 = nI 0 then bo3 (f_X0_passAct (nI 50) 940 (kI (kI (kI K 4 c y) 5 c (nI 0)) 0 0 (nI (c + 1))) R T) fun v9 Bkv10 Rv11 => if v9 = nI 0 then some (nI 0, Bkv10, Rv11) else bo3 (f_X0_passNumber (nI 60) 940 Bkv10 Rv11 T) fun v13 Bkv14 Rv15 => if v13 = nI 0 then some (nI 0, Bkv14, Rv15) else some (nI 1, Bkv14, Rv15) else bo3 (f_X0_passAct (nI 40) 940 (kI (kI (kI K 4 c y) 5 c (nI 0)) 0 0 (nI (c + 1))) R T) fun v O1 R1 => if ¬ (v = nI 0 ∨ v = nI 1) then none else some (v, O1, R1) else bo (f_X4_advance 940 R T) fun Rv25 => bo3 (f_X0_readMachineAct 940 (kI (kI (kI K 4 c y) 5 c (nI 0)) 0 0 (nI (c + 1))) Rv25 O T) fun v O1 R1 => if ¬ (v = nI 0 ∨ v = nI 1) then none else some (v, O1, R1)) := by
    intro x3 y hc
    unfold g_X0_readLine_60
    simp (disch := omega) only [↓q_m1, q_lit, hk.1, q_lt, hc, ↓reduceIte, Nat.not_lt_zero, false_or, q_cl, show ¬ 40 ≤ c by omega, ↓q_bd, show (kI K 4 c y).1 0 0 = nI c from hk.1, show (kI (kI K 4 c y) 5 c (nI 0)).1 0 0 = nI c from hk.1, nI_add]
  have href : ∀ (d1 d2 : Nat) (M1 : kD), c < 40 → M1.1 0 36 = nI c → g_X12_bookLine_47 (nI (3 * c)) (nI d1) (nI d2) M1 = bo (f_X12_next M1) fun M39 => if nI d1 = nI 0 then g_X12_bookLine_86 (nI (3 * c)) (nI d1) (nI d2) (M1.1 0 18) (nI (3 * c)) (nI 4) M39 else g_X12_bookLine_86 (nI (3 * c)) (nI d1) (nI d2) (M1.1 0 18) (nI (3 * c)) (nI 5) M39 := by
    intro d1 d2 M1 hc h36
    unfold g_X12_bookLine_47
    simp (disch := omega) only [↓q_m1, q_lit, h36, q_eq, show ¬ c = 40 by omega, ↓reduceIte, ↓q_bd]
  unfold f_X0_readLine f_X12_bookLine g_X0_readLine_24 g_X0_readLine_25 g_X0_readLine_46
  simp (disch := omega) only [↓q_m1, q_lit, q_litL, ↓q_bd, h36, pk_mul, a9, a10, b9, b10, ↓q_bo, ↓reduceIte, p1, s0, q_cl, hn01]
  by_cases hx9 : x9 = 0
  · rw [hx9]
    by_cases hx10 : x10 = 0
    · -- a machine's line
      rw [hx10]
      simp only [↓reduceIte]
      rcases q_needed h hW (nA := 6) c1 (by omega) (base := 0) (by omega) hN1 with ⟨e, R2, M2, f1, f2, f3, f4, f5⟩ | ⟨hk1, m, hm, f1, f2⟩
      · rw [f1, f2]
        simp only [↓q_bo2, ↓reduceIte]
        exact ⟨0, K, R2, M2, by omega, rfl, rfl, f4, MXk_r f5, Or.inl ⟨rfl, e, _, f3⟩⟩
      · rw [f1, f2]
        simp (disch := omega) only [↓q_bo2, hn01, ↓reduceIte, q_neg]
        by_cases hc : c < 40
        · obtain ⟨R1, M1, l1, k1, v1, q1, a1, g1, g2, g3, g4, g5, g6⟩ := TK_nn (TK_18 h (nI m)) hL (by omega)
          rw [hcls 1 (nI m) hc, href 0 0 (kI M 0 18 (nI m)) hc h36, if_neg hn01, g1, g2]
          simp only [↓q_bo, ↓reduceIte]
          unfold g_X12_bookLine_86
          simp (disch := omega) only [↓q_m1, q_lit, q_litL, ↓q_bd, q_lt, Nat.not_lt_zero, false_or, q_cl, show ¬ 135 ≤ 3 * c by omega, ↓reduceIte, show (kI M 0 18 (nI m)).1 0 18 = nI m from rfl]
          have hfr : MXr M M1 := MXr_t (MXr_18 M _) (MXr_of g5)
          have hact := q_act (M := kI M1 8 (3 * c) (nI 4)) (TK_g g3 rfl rfl rfl) hL (show WT M1 from WT_f hW hfr) (K0 := K) (K := kI (kI (kI K 4 c (nI m)) 5 c (nI 0)) 0 0 (nI (c + 1))) (O := O) c1 c2 p2 (show M1.1 6 1 = nI np by rw [hfr.2.1 6 (by omega)]; exact s1) (show NR np 6 (O.2 7) (M1.2 9) by rw [hfr.2.2.1 9 (by omega)]; exact hN2) hc hm (h8 := M.1 8) hk (fun j hj => by
            show upd (M1.1 8) (3 * c) (nI 4) j = _
            rw [up_ne (by omega), hfr.2.1 8 (by omega)]) rfl (fun i hi => rfl) (hK4 (nI m)) (hK5 (nI m)) up_eq
          exact BR_M (BR_g hact) (MRr_of g6) (MXk_t (MXk_r hfr) (MXk_8 _ _ _)) (Nat.zero_le _) (g6 9 (by omega) (by omega) (by omega) (by omega) (by omega)) ((g5.1 15 (by omega) (by omega) (by omega) (by omega) (by omega)).trans rfl)
        · exact hfull 1 0 0 0 (nI m) _ (by omega) (TK_18 h (nI m)) (MXr_18 M _) h36
    · -- day
      have e10 : x10 = 1 := by omega
      rw [e10]
      simp only [hn01, ↓reduceIte]
      by_cases hc : c < 40
      · obtain ⟨R1, M1, l1, k1, v1, q1, a1, g1, g2, g3, g4, g5, g6⟩ := TK_nn h hL (by have := (d10.mp e10).1; omega)
        have hpa := q_passAct (c := c) (a := 50) (K := kI (kI (kI K 4 c mI) 5 c (nI 0)) 0 0 (nI (c + 1))) (R := R) (T := T) hc rfl
        rw [hcls 0 mI hc, href 1 0 M hc h36, if_pos rfl, a9, hx9]
        simp only [hpa, g1, g2, ↓q_bo, ↓q_bo3, ↓reduceIte, hn01]
        unfold g_X12_bookLine_86 f_X0_passNumber
        simp (disch := omega) only [↓q_m1, q_lit, q_litL, ↓q_bd, q_lt, Nat.not_lt_zero, false_or, q_cl, show ¬ 135 ≤ 3 * c by omega, ↓reduceIte, hn01, hn01]
        have g3b : TK n L T l1 k1 v1 q1 a1 R1 (kI M1 8 (3 * c) (nI 5)) := TK_g g3 rfl rfl rfl
        have fr : MXk M (kI M1 8 (3 * c) (nI 5)) := MXk_t (MXk_r (MXr_of g5)) (MXk_8 _ _ _)
        rcases q_number g3b (lo := 1) (hi := 60) (by omega) (by omega) with ⟨e, R2, M2, f1, f2, f3, f4, f5⟩ | ⟨hk2, f1, f2, f3, f4, f5⟩
        · rw [f1, f2]
          simp only [↓q_bo2, ↓q_bo3, ↓reduceIte]
          exact ⟨0, _, R2, M2, by omega, rfl, rfl, MRr_t (MRr_of g6) f4, MXk_t fr (MXk_r f5), Or.inl ⟨rfl, e, _, f3⟩⟩
        · obtain ⟨R2, M2, l2, k2, v2, p2', a2, i1, i2, i3, i4, i5, i6⟩ := TK_nn (TK_18 g3b (nI v1)) hL (by omega)
          have e18 : M2.1 0 18 = nI v1 := (i5.1 18 (by omega) (by omega) (by omega) (by omega) (by omega)).trans rfl
          have e82 : M2.1 8 = upd (M.1 8) (3 * c) (nI 5) := by
            rw [i5.2.1 8 (by omega)]
            show upd (M1.1 8) (3 * c) (nI 5) = _
            rw [g5.2.1 8 (by omega)]
          have hkp : f_X0_keepNumber (nI v1) (kI (kI (kI (kI K 4 c mI) 5 c (nI 0)) 0 0 (nI (c + 1))) 3 c (nI 50)) = some (kI (kI (kI (kI (kI K 4 c mI) 5 c (nI 0)) 0 0 (nI (c + 1))) 3 c (nI 50)) 5 c (nI v1)) := q_keepN hc rfl
          rw [f4, f5, i2]
          simp (disch := omega) only [↓q_bo2, ↓q_bo3, hn01, ↓reduceIte, f3, hkp, ↓q_bo, i1, e18, nI_add, q_lt, Nat.not_lt_zero, false_or, q_cl, show ¬ 135 ≤ 3 * c + 1 by omega, ↓q_bd]
          refine ⟨1, _, R2, _, by omega, rfl, rfl, MRr_t (MRr_of g6) (MRr_of i6), MXk_t fr (MXk_t (MXk_r (MXr_t (MXr_18 _ _) (MXr_of i5))) (MXk_8 _ _ _)), Or.inr ⟨rfl, RK_s hk hc rfl (fun i hi => ?_) (hK4 mI) (fun i hi => ?_) (fun j hj => ?_) ?_, ⟨l2, k2, v2, p2', a2, TK_g i3 rfl rfl rfl, fun _ => Nat.zero_le _⟩, (i6 9 (by omega) (by omega) (by omega) (by omega) (by omega)).trans (g6 9 (by omega) (by omega) (by omega) (by omega) (by omega)), ?_⟩⟩
          · show upd (K.1 3) c (nI 50) i = _
            rw [up_ne (by omega)]
          · show upd (upd (K.1 5) c (nI 0)) c (nI v1) i = _
            rw [up_ne (by omega), up_ne (by omega)]
          · show upd (M2.1 8) (3 * c + 1) (nI v1) j = _
            rw [up_ne (by omega), e82, up_ne (by omega)]
          · show LN nm np (upd (K.1 3) c (nI 50) c) _ (upd (upd (K.1 5) c (nI 0)) c (nI v1) c) (upd (M2.1 8) (3 * c + 1) (nI v1) (3 * c)) (upd (M2.1 8) (3 * c + 1) (nI v1) (3 * c + 1)) _
            rw [e82, up_eq, up_eq, up_ne (show ¬ 3 * c = 3 * c + 1 by omega), up_eq, up_eq]
            exact Or.inr (Or.inr (Or.inr (Or.inr (Or.inr ⟨v1, f1, f2, rfl, rfl, rfl, rfl⟩))))
          · show M2.1 0 15 = _
            exact ((i5.1 15 (by omega) (by omega) (by omega) (by omega) (by omega)).trans rfl).trans (g5.1 15 (by omega) (by omega) (by omega) (by omega) (by omega))
      · exact hfull 0 0 1 0 mI M (by omega) h (MXr_r M) h36
  · -- clear
    have e9 : x9 = 1 := by omega
    have e10 : x10 = 0 := by
      refine Classical.byContradiction fun h9 => ?_
      have u := (d9.mp e9).2
      have w := (d10.mp (by omega)).2
      rw [u] at w
      exact absurd w (by decide +kernel)
    rw [e9, e10]
    simp only [hn01, ↓reduceIte]
    by_cases hc : c < 40
    · obtain ⟨R1, M1, l1, k1, v1, q1, a1, g1, g2, g3, g4, g5, g6⟩ := TK_nn h hL (by have := (d9.mp e9).1; omega)
      have hpa := q_passAct (c := c) (a := 40) (K := kI (kI (kI K 4 c mI) 5 c (nI 0)) 0 0 (nI (c + 1))) (R := R) (T := T) hc rfl
      rw [hcls 0 mI hc, href 0 1 M hc h36, if_pos rfl, a9, e9, hpa, g1, g2]
      simp only [↓q_bo, ↓q_bo3, ↓reduceIte, hn01, or_true, not_true_eq_false]
      unfold g_X12_bookLine_86
      simp (disch := omega) only [↓q_m1, q_lit, q_litL, ↓q_bd, q_lt, Nat.not_lt_zero, false_or, q_cl, show ¬ 135 ≤ 3 * c by omega, ↓reduceIte, hn01]
      refine ⟨1, _, R1, _, by omega, rfl, rfl, MRr_of g6, MXk_t (MXk_r (MXr_of g5)) (MXk_8 _ _ _), Or.inr ⟨rfl, RK_s hk hc rfl (fun i hi => ?_) (hK4 mI) (hK5 mI) (fun j hj => ?_) ?_, ⟨l1, k1, v1, q1, a1, TK_g g3 rfl rfl rfl, fun _ => Nat.zero_le _⟩, g6 9 (by omega) (by omega) (by omega) (by omega) (by omega), g5.1 15 (by omega) (by omega) (by omega) (by omega) (by omega)⟩⟩
      · show upd (K.1 3) c (nI 40) i = _
        rw [up_ne (by omega)]
      · show upd (M1.1 8) (3 * c) (nI 4) j = _
        rw [up_ne (by omega), g5.2.1 8 (by omega)]
      · show LN nm np (upd (K.1 3) c (nI 40) c) _ _ (upd (M1.1 8) (3 * c) (nI 4) (3 * c)) _ _
        rw [up_eq, up_eq]
        exact Or.inr (Or.inr (Or.inr (Or.inr (Or.inl ⟨rfl, rfl⟩))))
    · exact hfull 0 0 0 1 mI M (by omega) h (MXr_r M) h36
end tk
