/-! machine-free: BOOK read: lines -/
def MXk (M M' : kD) : Prop := (∀ k, k ≠ 4 → k ≠ 11 → k ≠ 12 → k ≠ 13 → k ≠ 14 → k ≠ 15 → k ≠ 16 → k ≠ 18 → M'.1 0 k = M.1 0 k) ∧ (∀ b, b ≠ 0 → b ≠ 8 → M'.1 b = M.1 b) ∧ (∀ b, b ≠ 0 → M'.2 b = M.2 b) ∧ (∀ k, k ≠ 17 → M'.2 0 k = M.2 0 k)
theorem MXk_r {M M' : kD} (h : MXr M M') : MXk M M' := ⟨h.1, fun b h1 _ => h.2.1 b h1, h.2.2.1, h.2.2.2⟩
theorem MXk_t {A B C : kD} (h : MXk A B) (g : MXk B C) : MXk A C := ⟨fun k k1 k2 k3 k4 k5 k6 k7 k8 => (g.1 k k1 k2 k3 k4 k5 k6 k7 k8).trans (h.1 k k1 k2 k3 k4 k5 k6 k7 k8), fun b h1 h2 => (g.2.1 b h1 h2).trans (h.2.1 b h1 h2), fun b h1 => (g.2.2.1 b h1).trans (h.2.2.1 b h1), fun k hk => (g.2.2.2 k hk).trans (h.2.2.2 k hk)⟩
theorem MXk_8 (M : kD) (i : Nat) (v : Int32) : MXk M (kI M 8 i v) := by
  refine ⟨fun k k1 k2 k3 k4 k5 k6 k7 k8 => rfl, fun b h1 h2 => ?_, fun _ _ => rfl, fun _ _ => rfl⟩
  rw [q_kI, if_neg h2]
def LN (nm np : Nat) (A Q V x y z : Int32) : Prop := (∃ m q, m < nm ∧ q < np ∧ A = nI 0 ∧ Q = nI m ∧ V = nI q ∧ x = nI 0 ∧ y = nI m ∧ z = nI q) ∨ (∃ m, m < nm ∧ A = nI 10 ∧ Q = nI m ∧ x = nI 1 ∧ y = nI m) ∨ (∃ m, m < nm ∧ A = nI 20 ∧ Q = nI m ∧ x = nI 2 ∧ y = nI m) ∨ (∃ m v, m < nm ∧ 1 ≤ v ∧ v ≤ 999 ∧ A = nI 30 ∧ Q = nI m ∧ V = nI v ∧ x = nI 3 ∧ y = nI m ∧ z = nI v) ∨ (A = nI 40 ∧ x = nI 4) ∨ (∃ v, 1 ≤ v ∧ v ≤ 60 ∧ A = nI 50 ∧ V = nI v ∧ x = nI 5 ∧ y = nI v)
def RK (nm np c : Nat) (K : kD) (h : Nat → Int32) : Prop := K.1 0 0 = nI c ∧ c ≤ 40 ∧ ∀ i, i < c → LN nm np (K.1 3 i) (K.1 4 i) (K.1 5 i) (h (3 * i)) (h (3 * i + 1)) (h (3 * i + 2))
theorem RK_s {nm np c : Nat} {K K' : kD} {h h' : Nat → Int32} (hk : RK nm np c K h) (hc : c < 40) (k0 : K'.1 0 0 = nI (c + 1)) (k3 : ∀ i, i < c → K'.1 3 i = K.1 3 i) (k4 : ∀ i, i < c → K'.1 4 i = K.1 4 i) (k5 : ∀ i, i < c → K'.1 5 i = K.1 5 i) (hh : ∀ j, j < 3 * c → h' j = h j) (hl : LN nm np (K'.1 3 c) (K'.1 4 c) (K'.1 5 c) (h' (3 * c)) (h' (3 * c + 1)) (h' (3 * c + 2))) : RK nm np (c + 1) K' h' := by
  refine ⟨k0, by omega, fun i hi => ?_⟩
  by_cases e : i = c
  · subst e; exact hl
  · rw [k3 i (by omega), k4 i (by omega), k5 i (by omega), hh (3 * i) (by omega), hh (3 * i + 1) (by omega), hh (3 * i + 2) (by omega)]
    exact hk.2.2 i (by omega)
theorem q_passAct {c a : Nat} {K R : kD} {T : Nat → Int32} (hc : c < 40) (h : K.1 0 0 = nI (c + 1)) : f_X0_passAct (nI a) 940 K R T = bo (f_X4_advance 940 R T) fun R' => some (nI 1, kI K 3 c (nI a), R') := by
  unfold f_X0_passAct g_X0_passAct_29
  simp (disch := omega) only [↓q_m1, q_lit, ↓q_bd, h, q_lt, show ¬ c + 1 < 1 by omega, show ¬ 40 < c + 1 by omega, ↓reduceIte, q_sub, Nat.not_lt_zero, false_or, q_cl, show ¬ 40 ≤ c by omega, Nat.add_sub_cancel]
theorem q_keepN {c : Nat} {K : kD} {v : Int32} (hc : c < 40) (h : K.1 0 0 = nI (c + 1)) : f_X0_keepNumber v K = some (kI K 5 c v) := by
  unfold f_X0_keepNumber
  simp (disch := omega) only [↓q_m1, q_lit, ↓q_bd, h, q_lt, show ¬ c + 1 < 1 by omega, show ¬ 40 < c + 1 by omega, ↓reduceIte, q_sub, Nat.not_lt_zero, false_or, q_cl, show ¬ 40 ≤ c by omega, Nat.add_sub_cancel]
/-- the end of a line: both sides' answers -/
def BR (n L p0 nm np c : Nat) (T : Nat → Int32) (R M : kD) (C : Option (Int32 × kD × kD)) (D : Option (Int32 × kD)) : Prop := ∃ d K' R' M', d ≤ 1 ∧ C = some (nI d, K', R') ∧ D = some (nI d, M') ∧ MRr R R' ∧ MXk M M' ∧ ((d = 0 ∧ ∃ e a, BD e a R' M') ∨ (d = 1 ∧ RK nm np (c + 1) K' (M'.1 8) ∧ (∃ l k v p a, TK n L T l k v p a R' M' ∧ (k ≤ 3 → p0 ≤ p)) ∧ R'.1 0 9 = R.1 0 9 ∧ M'.1 0 15 = M.1 0 15))
theorem BR_g {n L p0 nm np c : Nat} {T : Nat → Int32} {R M : kD} {C : Option (Int32 × kD × kD)} {D : Option (Int32 × kD)} (h : BR n L p0 nm np c T R M C D) : BR n L p0 nm np c T R M (bo3 C fun v O1 R1 => if ¬ (v = nI 0 ∨ v = nI 1) then none else some (v, O1, R1)) D := by
  obtain ⟨d, K', R', M', hd, h1, h2, h3⟩ := h
  refine ⟨d, K', R', M', hd, ?_, h2, h3⟩
  rw [h1, q_bo3, if_neg (gd_b hd)]
section tk
variable {n L : Nat} {T : Nat → Int32} {l : List Nat} {k v p a : Nat} {R M : kD}
/-- what follows the machine: writes, sits, leaves, ribbon -/
theorem q_act (h : TK n L T l k v p a R M) (hL : L < 2 ^ 31) (hW : WT M) {nm np c m : Nat} {O K K0 : kD} (c1 : nm ≤ 6) (c2 : np ≤ 8) (p2 : O.1 0 2 = nI np) (z1 : M.1 6 1 = nI np) (hN : NR np 6 (O.2 7) (M.2 9)) (hc : c < 40) (hm : m < nm) {h8 : Nat → Int32} (hk : RK nm np c K0 h8) (hh : ∀ j, j < 3 * c → M.1 8 j = h8 j) (k0 : K.1 0 0 = nI (c + 1)) (k3 : ∀ i, i < c → K.1 3 i = K0.1 3 i) (k4 : ∀ i, i < c → K.1 4 i = K0.1 4 i) (k5 : ∀ i, i < c → K.1 5 i = K0.1 5 i) (k4c : K.1 4 c = nI m) :
    BR n L p nm np c T R M (f_X0_readMachineAct 940 K R O T) (if f_X12_isWord (lN 131333279212915) M = nI 0 then if f_X12_isWord (lN 1936290931) M = nI 0 then if f_X12_isWord (lN 119182682645875) M = nI 0 then if f_X12_isWord (lN 125796947750766) M = nI 0 then g_X12_bookLine_180 (nI (3 * c)) (nI m) mI M else g_X12_bookLine_180 (nI (3 * c)) (nI m) (nI 3) M else g_X12_bookLine_180 (nI (3 * c)) (nI m) (nI 2) M else g_X12_bookLine_180 (nI (3 * c)) (nI m) (nI 1) M else g_X12_bookLine_180 (nI (3 * c)) (nI m) (nI 0) M) := by
  have hn01 : ¬ nI 1 = nI 0 := by decide
  obtain ⟨x1, y1, a1, b1, d1⟩ := q_isW h (w := 5) (N := 131333279212915) (by omega) (by omega) (by decide +kernel)
  obtain ⟨x2, y2, a2, b2, d2⟩ := q_isW h (w := 6) (N := 1936290931) (by omega) (by omega) (by decide +kernel)
  obtain ⟨x3, y3, a3, b3, d3⟩ := q_isW h (w := 7) (N := 119182682645875) (by omega) (by omega) (by decide +kernel)
  obtain ⟨x4, y4, a4, b4, d4⟩ := q_isW h (w := 8) (N := 125796947750766) (by omega) (by omega) (by decide +kernel)
  -- the class and the reference after the word
  have hgo : k = 1 → ∃ R1 M1 l1 k1 v1 p1 a1, f_X4_advance 940 R T = some R1 ∧ f_X12_next M = some M1 ∧ (∀ t : Nat, TK n L T l1 k1 v1 p1 a1 R1 (kI (kI M1 8 (3 * c) (nI t)) 8 (3 * c + 1) (nI m))) ∧ (k1 ≤ 3 → p ≤ p1) ∧ MXn M M1 ∧ MRn R R1 := by
    intro hk1
    obtain ⟨R1, M1, l1, k1, v1, p1, a1, g1, g2, g3, g4, g5, g6⟩ := TK_nn h hL (by omega)
    exact ⟨R1, M1, l1, k1, v1, p1, a1, g1, g2, fun t => TK_g g3 rfl rfl rfl, g4.1, g5, g6⟩
  have h180 : ∀ (M1 : kD) (t : Nat), t ≤ 3 → f_X12_next M = some M1 → g_X12_bookLine_180 (nI (3 * c)) (nI m) (nI t) M = (if t = 1 then some (nI 1, kI (kI M1 8 (3 * c) (nI t)) 8 (3 * c + 1) (nI m)) else if t = 2 then some (nI 1, kI (kI M1 8 (3 * c) (nI t)) 8 (3 * c + 1) (nI m)) else if t = 0 then bo2 (f_X12_takesName (nI 6) (M1.1 6 1) (kI (kI M1 8 (3 * c) (nI t)) 8 (3 * c + 1) (nI m))) fun v14 M13 => g_X12_bookLine_257 (nI (3 * c)) v14 M13 else bo2 (f_X12_takes (nI 1) (nI 999) (kI (kI M1 8 (3 * c) (nI t)) 8 (3 * c + 1) (nI m))) fun v14 M13 => g_X12_bookLine_257 (nI (3 * c)) v14 M13) := by
    intro M1 t ht hnx
    unfold g_X12_bookLine_180
    simp (disch := omega) only [↓q_m1, q_lit, ↓q_bd, q_le, Nat.zero_le, ↓reduceIte, hnx, ↓q_bo, q_lt, Nat.not_lt_zero, false_or, q_cl, show ¬ 135 ≤ 3 * c by omega, show ¬ 135 ≤ 3 * c + 1 by omega, nI_add, q_eq, show (kI (kI M1 8 (3 * c) (nI t)) 8 (3 * c + 1) (nI m)).1 6 1 = M1.1 6 1 from rfl]
  have h257 : ∀ (Q : kD) (d : Nat), d ≤ 1 → g_X12_bookLine_257 (nI (3 * c)) (nI d) Q = some (nI d, kI Q 8 (3 * c + 2) (Q.1 0 18)) := by
    intro Q d hd
    unfold g_X12_bookLine_257
    simp (disch := omega) only [↓q_m1, q_lit, ↓q_bd, nI_add, q_lt, Nat.not_lt_zero, false_or, q_cl, show ¬ 135 ≤ 3 * c + 2 by omega, ↓reduceIte]
    rw [if_neg (gd_b hd)]
  have hsit : k = 1 → ∀ t s : Nat, ((t = 1 ∧ s = 10) ∨ (t = 2 ∧ s = 20)) → BR n L p nm np c T R M (f_X0_passAct (nI s) 940 K R T) (g_X12_bookLine_180 (nI (3 * c)) (nI m) (nI t) M) := by
    intro hk1 t s hts
    obtain ⟨R1, M1, l1, k1, v1, p1, a1, g1, g2, g3, g4, g5, g6⟩ := hgo hk1
    rw [q_passAct hc k0, g1, h180 M1 t (by omega) g2, q_bo]
    have hD : (if t = 1 then some (nI 1, kI (kI M1 8 (3 * c) (nI t)) 8 (3 * c + 1) (nI m)) else if t = 2 then some (nI 1, kI (kI M1 8 (3 * c) (nI t)) 8 (3 * c + 1) (nI m)) else if t = 0 then bo2 (f_X12_takesName (nI 6) (M1.1 6 1) (kI (kI M1 8 (3 * c) (nI t)) 8 (3 * c + 1) (nI m))) fun v14 M13 => g_X12_bookLine_257 (nI (3 * c)) v14 M13 else bo2 (f_X12_takes (nI 1) (nI 999) (kI (kI M1 8 (3 * c) (nI t)) 8 (3 * c + 1) (nI m))) fun v14 M13 => g_X12_bookLine_257 (nI (3 * c)) v14 M13) = some (nI 1, kI (kI M1 8 (3 * c) (nI t)) 8 (3 * c + 1) (nI m)) := by
      rcases hts with ⟨e, _⟩ | ⟨e, _⟩
      · rw [if_pos e]
      · rw [if_neg (by omega), if_pos e]
    rw [hD]
    have e8 : M1.1 8 = M.1 8 := g5.2.1 8 (by omega)
    refine ⟨1, _, R1, _, by omega, rfl, rfl, MRr_of g6, MXk_t (MXk_r (MXr_of g5)) (MXk_t (MXk_8 _ _ _) (MXk_8 _ _ _)), Or.inr ⟨rfl, RK_s hk hc k0 (fun i hi => ?_) k4 k5 (fun j hj => ?_) ?_, ⟨l1, k1, v1, p1, a1, g3 t, g4⟩, g6 9 (by omega) (by omega) (by omega) (by omega) (by omega), (g5.1 15 (by omega) (by omega) (by omega) (by omega) (by omega))⟩⟩
    · show upd (K.1 3) c (nI s) i = _
      rw [up_ne (by omega)]; exact k3 i hi
    · show upd (upd (M1.1 8) (3 * c) (nI t)) (3 * c + 1) (nI m) j = _
      rw [up_ne (by omega), up_ne (by omega), e8]; exact hh j hj
    · show LN nm np (upd (K.1 3) c (nI s) c) (K.1 4 c) (K.1 5 c) (upd (upd (M1.1 8) (3 * c) (nI t)) (3 * c + 1) (nI m) (3 * c)) (upd (upd (M1.1 8) (3 * c) (nI t)) (3 * c + 1) (nI m) (3 * c + 1)) _
      rw [up_eq, up_eq, up_ne (show ¬ 3 * c = 3 * c + 1 by omega), up_eq, k4c]
      rcases hts with ⟨e, e2⟩ | ⟨e, e2⟩
      · subst e e2; exact Or.inr (Or.inl ⟨m, hm, rfl, rfl, rfl, rfl⟩)
      · subst e e2; exact Or.inr (Or.inr (Or.inl ⟨m, hm, rfl, rfl, rfl, rfl⟩))
  unfold f_X0_readMachineAct
  simp only [↓q_m1, q_lit, a1, a2, a3, a4, b1, b2, b3, b4, ↓q_bo]
  by_cases hx1 : x1 = 0
  · rw [hx1, if_pos rfl, if_pos rfl]
    by_cases hx2 : x2 = 0
    · rw [hx2, if_pos rfl, if_pos rfl]
      by_cases hx3 : x3 = 0
      · rw [hx3, if_pos rfl, if_pos rfl]
        by_cases hx4 : x4 = 0
        · rw [hx4, if_pos rfl, if_pos rfl]
          obtain ⟨R', M', h1, h2, h3, h4, h5⟩ := q_bad h 1 (by omega) (by omega)
          unfold g_X12_bookLine_180
          rw [q_lit, q_lit, if_neg (show ¬ nI 0 ≤ mI by decide), h1, h2]
          simp only [q_lit, ↓q_bo2, true_or, not_true_eq_false, ↓reduceIte]
          exact ⟨0, K, R', M', by omega, rfl, rfl, h4, MXk_r h5, Or.inl ⟨rfl, 1, a, h3⟩⟩
        · have e : x4 = 1 := by omega
          rw [e, if_neg hn01, if_neg hn01]
          obtain ⟨R1, M1, l1, k1, v1, p1, a1, g1, g2, g3, g4, g5, g6⟩ := hgo (d4.mp e).1
          have e8 : M1.1 8 = M.1 8 := g5.2.1 8 (by omega)
          rw [q_passAct hc k0, g1, h180 M1 3 (by omega) g2, if_neg (by omega), if_neg (by omega), if_neg (by omega)]
          simp only [↓q_bo, ↓q_bo3, hn01, ↓reduceIte]
          have fr : MXk M (kI (kI M1 8 (3 * c) (nI 3)) 8 (3 * c + 1) (nI m)) := MXk_t (MXk_r (MXr_of g5)) (MXk_t (MXk_8 _ _ _) (MXk_8 _ _ _))
          unfold f_X0_passNumber
          simp only [↓q_m1, q_lit]
          rcases q_number (g3 3) (lo := 1) (hi := 999) (by omega) (by omega) with ⟨e, R2, M2, f1, f2, f3, f4, f5⟩ | ⟨hk2, f1, f2, f3, f4, f5⟩
          · rw [f1, f2]
            simp only [↓q_bo2, ↓q_bo3, ↓reduceIte, h257 M2 0 (by omega)]
            exact ⟨0, _, R2, _, by omega, rfl, rfl, MRr_t (MRr_of g6) f4, MXk_t fr (MXk_t (MXk_r f5) (MXk_8 _ _ _)), Or.inl ⟨rfl, e, _, f3⟩⟩
          · obtain ⟨R2, M2, l2, k2, v2, p2', a2, i1, i2, i3, i4, i5, i6⟩ := TK_nn (TK_18 (g3 3) (nI v1)) hL (by omega)
            have e18 : M2.1 0 18 = nI v1 := (i5.1 18 (by omega) (by omega) (by omega) (by omega) (by omega)).trans rfl
            have e82 : M2.1 8 = upd (upd (M.1 8) (3 * c) (nI 3)) (3 * c + 1) (nI m) := by
              rw [i5.2.1 8 (by omega)]
              show upd (upd (M1.1 8) (3 * c) (nI 3)) (3 * c + 1) (nI m) = _
              rw [e8]
            have hkp : f_X0_keepNumber (nI v1) (kI K 3 c (nI 30)) = some (kI (kI K 3 c (nI 30)) 5 c (nI v1)) := q_keepN hc k0
            rw [f4, f5, i2]
            simp only [↓q_bo2, ↓q_bo3, hn01, ↓reduceIte, f3, hkp, ↓q_bo, i1, h257 M2 1 (by omega), e18]
            refine ⟨1, _, R2, _, by omega, rfl, rfl, MRr_t (MRr_of g6) (MRr_of i6), MXk_t fr (MXk_t (MXk_r (MXr_t (MXr_18 _ _) (MXr_of i5))) (MXk_8 _ _ _)), Or.inr ⟨rfl, RK_s hk hc k0 (fun i hi => ?_) k4 (fun i hi => ?_) (fun j hj => ?_) ?_, ⟨l2, k2, v2, p2', a2, TK_g i3 rfl rfl rfl, fun h9 => ?_⟩, (i6 9 (by omega) (by omega) (by omega) (by omega) (by omega)).trans (g6 9 (by omega) (by omega) (by omega) (by omega) (by omega)), ?_⟩⟩
            · show upd (K.1 3) c (nI 30) i = _
              rw [up_ne (by omega)]; exact k3 i hi
            · show upd (K.1 5) c (nI v1) i = _
              rw [up_ne (by omega)]; exact k5 i hi
            · show upd (M2.1 8) (3 * c + 2) (nI v1) j = _
              rw [up_ne (by omega), e82, up_ne (by omega), up_ne (by omega)]; exact hh j hj
            · show LN nm np (upd (K.1 3) c (nI 30) c) (K.1 4 c) (upd (K.1 5) c (nI v1) c) (upd (M2.1 8) (3 * c + 2) (nI v1) (3 * c)) (upd (M2.1 8) (3 * c + 2) (nI v1) (3 * c + 1)) (upd (M2.1 8) (3 * c + 2) (nI v1) (3 * c + 2))
              rw [e82, up_eq, up_eq, up_eq, up_ne (show ¬ 3 * c = 3 * c + 2 by omega), up_ne (show ¬ 3 * c = 3 * c + 1 by omega), up_eq, up_ne (show ¬ 3 * c + 1 = 3 * c + 2 by omega), up_eq, k4c]
              exact Or.inr (Or.inr (Or.inr (Or.inl ⟨m, v1, hm, f1, f2, rfl, rfl, rfl, rfl, rfl, rfl⟩)))
            · have := i4.1 h9
              have := g4 (by omega)
              omega
            · show M2.1 0 15 = _
              exact ((i5.1 15 (by omega) (by omega) (by omega) (by omega) (by omega)).trans rfl).trans (g5.1 15 (by omega) (by omega) (by omega) (by omega) (by omega))
      · have e : x3 = 1 := by omega
        rw [e, if_neg hn01, if_neg hn01]
        exact BR_g (hsit (d3.mp e).1 2 20 (Or.inr ⟨rfl, rfl⟩))
    · have e : x2 = 1 := by omega
      rw [e, if_neg hn01, if_neg hn01]
      exact BR_g (hsit (d2.mp e).1 1 10 (Or.inl ⟨rfl, rfl⟩))
  · have e : x1 = 1 := by omega
    rw [e, if_neg hn01, if_neg hn01]
    obtain ⟨R1, M1, l1, k1, v1, p1, a1, g1, g2, g3, g4, g5, g6⟩ := hgo (d1.mp e).1
    have e8 : M1.1 8 = M.1 8 := g5.2.1 8 (by omega)
    have e61 : M1.1 6 1 = nI np := by rw [g5.2.1 6 (by omega)]; exact z1
    have fr : MXk M (kI (kI M1 8 (3 * c) (nI 0)) 8 (3 * c + 1) (nI m)) := MXk_t (MXk_r (MXr_of g5)) (MXk_t (MXk_8 _ _ _) (MXk_8 _ _ _))
    have hWd : WT (kI (kI M1 8 (3 * c) (nI 0)) 8 (3 * c + 1) (nI m)) := by
      show WT M1
      exact WT_f hW (MXr_of g5)
    rw [q_passAct hc k0, g1, h180 M1 0 (by omega) g2, if_neg (by omega), if_neg (by omega), if_pos rfl, e61]
    simp only [↓q_bo, ↓q_bo3, hn01, ↓reduceIte]
    unfold f_X0_passPhrase f_X12_takesName
    simp only [↓q_m1, q_lit, p2]
    rcases q_needed (g3 0) hWd (nA := 8) c2 (by omega) (base := 6) (by omega) (by
      show NR np 6 (O.2 7) (M1.2 9)
      rw [g5.2.2.1 9 (by omega)]; exact hN) with ⟨e, R2, M2, f1, f2, f3, f4, f5⟩ | ⟨hk2, q, hq, f1, f2⟩
    · rw [f1, f2]
      simp only [↓q_bo2, ↓q_bo3, ↓reduceIte, h257 M2 0 (by omega)]
      exact ⟨0, _, R2, _, by omega, rfl, rfl, MRr_t (MRr_of g6) f4, MXk_t fr (MXk_t (MXk_r f5) (MXk_8 _ _ _)), Or.inl ⟨rfl, e, _, f3⟩⟩
    · obtain ⟨R2, M2, l2, k2, v2, p2', a2, i1, i2, i3, i4, i5, i6⟩ := TK_nn (TK_18 (g3 0) (nI q)) hL (by omega)
      have e18 : M2.1 0 18 = nI q := (i5.1 18 (by omega) (by omega) (by omega) (by omega) (by omega)).trans rfl
      have e82 : M2.1 8 = upd (upd (M.1 8) (3 * c) (nI 0)) (3 * c + 1) (nI m) := by
        rw [i5.2.1 8 (by omega)]
        show upd (upd (M1.1 8) (3 * c) (nI 0)) (3 * c + 1) (nI m) = _
        rw [e8]
      have hkp : f_X0_keepNumber (nI q) (kI K 3 c (nI 0)) = some (kI (kI K 3 c (nI 0)) 5 c (nI q)) := q_keepN hc k0
      rw [f1, f2]
      simp (disch := omega) only [↓q_bo2, ↓q_bo3, hn01, ↓reduceIte, q_neg, hkp, ↓q_bo, i1, i2, h257 M2 1 (by omega), e18]
      refine ⟨1, _, R2, _, by omega, rfl, rfl, MRr_t (MRr_of g6) (MRr_of i6), MXk_t fr (MXk_t (MXk_r (MXr_t (MXr_18 _ _) (MXr_of i5))) (MXk_8 _ _ _)), Or.inr ⟨rfl, RK_s hk hc k0 (fun i hi => ?_) k4 (fun i hi => ?_) (fun j hj => ?_) ?_, ⟨l2, k2, v2, p2', a2, TK_g i3 rfl rfl rfl, fun h9 => ?_⟩, (i6 9 (by omega) (by omega) (by omega) (by omega) (by omega)).trans (g6 9 (by omega) (by omega) (by omega) (by omega) (by omega)), ?_⟩⟩
      · show upd (K.1 3) c (nI 0) i = _
        rw [up_ne (by omega)]; exact k3 i hi
      · show upd (K.1 5) c (nI q) i = _
        rw [up_ne (by omega)]; exact k5 i hi
      · show upd (M2.1 8) (3 * c + 2) (nI q) j = _
        rw [up_ne (by omega), e82, up_ne (by omega), up_ne (by omega)]; exact hh j hj
      · show LN nm np (upd (K.1 3) c (nI 0) c) (K.1 4 c) (upd (K.1 5) c (nI q) c) (upd (M2.1 8) (3 * c + 2) (nI q) (3 * c)) (upd (M2.1 8) (3 * c + 2) (nI q) (3 * c + 1)) (upd (M2.1 8) (3 * c + 2) (nI q) (3 * c + 2))
        rw [e82, up_eq, up_eq, up_eq, up_ne (show ¬ 3 * c = 3 * c + 2 by omega), up_ne (show ¬ 3 * c = 3 * c + 1 by omega), up_eq, up_ne (show ¬ 3 * c + 1 = 3 * c + 2 by omega), up_eq, k4c]
        exact Or.inl ⟨m, q, hm, hq, rfl, rfl, rfl, rfl, rfl, rfl⟩
      · have := i4.1 h9
        have := g4 (by omega)
        omega
      · show M2.1 0 15 = _
        exact ((i5.1 15 (by omega) (by omega) (by omega) (by omega) (by omega)).trans rfl).trans (g5.1 15 (by omega) (by omega) (by omega) (by omega) (by omega))
end tk
