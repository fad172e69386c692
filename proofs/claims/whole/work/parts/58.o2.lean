/-! machine-free: OFFICE read: names, machines, phrases -/
def MXo (M M' : kD) : Prop := (∀ k, k ≠ 4 → k ≠ 11 → k ≠ 12 → k ≠ 13 → k ≠ 14 → k ≠ 15 → k ≠ 16 → k ≠ 18 → M'.1 0 k = M.1 0 k) ∧ (∀ b, b ≠ 0 → b ≠ 7 → M'.1 b = M.1 b) ∧ (∀ b, b ≠ 0 → b ≠ 9 → M'.2 b = M.2 b) ∧ (∀ i, i < 14 → M'.2 9 i = M.2 9 i) ∧ (∀ k, k ≠ 17 → M'.2 0 k = M.2 0 k)
theorem MXo_r {M M' : kD} (h : MXr M M') : MXo M M' := ⟨h.1, fun b h1 _ => h.2.1 b h1, fun b h1 _ => h.2.2.1 b h1, fun i _ => congrFun (h.2.2.1 9 (by omega)) i, h.2.2.2⟩
theorem MXo_t {A B C : kD} (h : MXo A B) (g : MXo B C) : MXo A C := ⟨fun k k1 k2 k3 k4 k5 k6 k7 k8 => (g.1 k k1 k2 k3 k4 k5 k6 k7 k8).trans (h.1 k k1 k2 k3 k4 k5 k6 k7 k8), fun b h1 h2 => (g.2.1 b h1 h2).trans (h.2.1 b h1 h2), fun b h1 h2 => (g.2.2.1 b h1 h2).trans (h.2.2.1 b h1 h2), fun i hi => (g.2.2.2.1 i hi).trans (h.2.2.2.1 i hi), fun k hk => (g.2.2.2.2 k hk).trans (h.2.2.2.2 k hk)⟩
theorem MXo_7 (M : kD) (i : Nat) (v : Int32) : MXo M (kI M 7 i v) := by
  refine ⟨fun k k1 k2 k3 k4 k5 k6 k7 k8 => rfl, fun b h1 h2 => ?_, fun _ _ _ => rfl, fun _ _ => rfl, fun _ _ => rfl⟩
  rw [q_kI, if_neg h2]
theorem MXo_9 (M : kD) (t : Nat) (ht : 14 ≤ t) (v : Int64) : MXo M (kL M 9 t v) := by
  refine ⟨fun k k1 k2 k3 k4 k5 k6 k7 k8 => rfl, fun b h1 h2 => rfl, fun b h1 h2 => ?_, fun i hi => ?_, fun _ _ => rfl⟩
  · rw [q_kL, if_neg h2]
  · rw [q_kL, if_pos rfl, q_upL, if_neg (by omega)]
theorem WT_o {M M' : kD} (h : WT M) (g : MXo M M') : WT M' := by
  unfold WT
  rw [g.2.2.1 10 (by omega) (by omega)]
  exact h
def LR (n L p0 : Nat) (T : Nat → Int32) (O R M : kD) (C : Option (Int32 × kD × kD)) (D : Option (Int32 × kD)) : Prop := ∃ c O' R' M', c ≤ 1 ∧ C = some (nI c, O', R') ∧ D = some (nI c, M') ∧ MRr R R' ∧ MXo M M' ∧ O'.1 0 0 = O.1 0 0 ∧ ((c = 0 ∧ ∃ e a, BD e a R' M') ∨ (c = 1 ∧ ∃ nm np l k v p a, RF nm np O' (M'.1 7) (M'.2 9) ∧ TK n L T l k v p a R' M' ∧ (k ≤ 3 → p0 ≤ p) ∧ R'.1 0 9 = R.1 0 9 ∧ M'.1 0 15 = M.1 0 15))
section tk
variable {n L : Nat} {T : Nat → Int32} {l : List Nat} {k v p a : Nat} {R M : kD}
theorem TK_g (h : TK n L T l k v p a R M) {M' : kD} (h0 : M'.1 0 = M.1 0) (h1 : M'.1 1 = M.1 1) (h2 : M'.2 0 = M.2 0) : TK n L T l k v p a R M' := by
  obtain ⟨a0, a1, a2, a3, a4, a5, a6, a7, a8, a9, aK⟩ := h
  refine ⟨a0, a1, a2, ?_, RZ_f a4 (congrFun h0 3) h1, a5, a6, ?_, ?_, a9, ?_⟩
  · rw [h0]; exact a3
  · rw [h0]; exact a7
  · rw [h0]; exact a8
  · rw [h0, h2]; exact aK
theorem TK_nn (h : TK n L T l k v p a R M) (hL : L < 2 ^ 31) (hk : k ≤ 3) : ∃ R' M' l' k' v' p' a', f_X4_advance 940 R T = some R' ∧ f_X12_next M = some M' ∧ TK n L T l' k' v' p' a' R' M' ∧ ((k' ≤ 3 → p ≤ p') ∧ (1 ≤ k' → k' ≤ 3 → p < p')) ∧ MXn M M' ∧ MRn R R' := by
  obtain ⟨a0, a1, a2, a3, a4, a5, a6, a7, a8, a9, aK⟩ := h
  obtain ⟨b1, b2, b3⟩ := a8 hk
  exact q_next a4 hL a0 a1 a2 a3 b2 b3 b1
theorem q_fresh (h : TK n L T l k v p a R M) (hW : WT M) {nm np : Nat} {O : kD} (hr : RF nm np O (M.1 7) (M.2 9)) :
    (∃ e R' M', f_X3_needsNewName 940 O R T = some (nI 0, R') ∧ (∀ t, f_X12_fresh t M = some (nI 0, M')) ∧ BD e a R' M' ∧ MRr R R' ∧ MXr M M') ∨
    (k = 1 ∧ f_X3_needsNewName 940 O R T = some (nI 1, R) ∧ ∀ t, t < 28 → f_X12_fresh (nI t) M = bo (f_X12_next (kL M 9 t (M.2 0 17))) fun M2 => some (nI 1, M2)) := by
  obtain ⟨⟨⟨c1, c2⟩, ⟨s0, s1, p1, p2, p3⟩, hk, hc, hd, ha⟩, hI, hN1, hN2, hZ1, hZ2⟩ := hr
  obtain ⟨c, hc1, hs, hm, hck⟩ := q_isNm h hW
  unfold f_X3_needsNewName f_X4_needsName g_X3_needsNewName_51 g_X3_needsNewName_52 f_X12_fresh g_X12_fresh_43
  simp (disch := omega) only [↓q_m1, q_lit, hs, hm, ↓q_bo, q_cl, s0, s1, p1, p2]
  by_cases hc : c = 0
  · obtain ⟨R', M', h1, h2, h3, h4, h5⟩ := q_bad h 1 (by omega) (by omega)
    rw [hc, if_pos rfl, h1, h2]
    simp only [↓q_bo2, true_or, not_true_eq_false, ↓reduceIte]
    exact Or.inl ⟨1, R', M', rfl, fun _ => rfl, h3, h4, h5⟩
  · obtain ⟨hk, hwi⟩ := hck.mp (by omega)
    have hc1 : c = 1 := by omega
    obtain ⟨r, r1, r2, r3⟩ := q_seek (nA := 6) c1 (by omega) (by omega) hN1 (TK_NM h hk)
    obtain ⟨u, u1, u2, u3⟩ := q_seek (nA := 8) c2 (by omega) (by omega) hN2 (TK_NM h hk)
    have hbad := q_bad h 3 (by omega) (by omega)
    have hn01 : ¬ nI 1 = nI 0 := by decide
    rw [hc1, if_neg hn01]
    simp only [↓q_bo2, hn01, ↓reduceIte, r1, r2, u1, u2, ↓q_bo]
    rcases r3 with r3 | ⟨i, hi, r3⟩
    · rcases u3 with u3 | ⟨j, hj, u3⟩
      · have hm0 : ¬ nI 0 ≤ mI := by decide
        have hm1 : mI < nI 0 := by decide
        refine Or.inr ⟨hk, ?_, fun t ht => ?_⟩
        · rw [r3, u3]; simp only [hn01, ↓reduceIte]
        · rw [r3, u3]
          simp (disch := omega) only [hm0, hm1, ↓reduceIte, q_lt, Nat.not_lt_zero, false_or, q_cl, show ¬ 28 ≤ t by omega, ↓q_bd]
      · obtain ⟨R', M', h1, h2, h3, h4, h5⟩ := hbad
        have hm0 : ¬ nI 0 ≤ mI := by decide
        refine Or.inl ⟨3, R', M', ?_, fun t => ?_, h3, h4, h5⟩
        · rw [r3, u3]
          simp (disch := omega) only [↓reduceIte, h1, ↓q_bo2, q_neg]
        · rw [r3, u3]
          simp (disch := omega) only [hm0, ↓reduceIte, q_lt, Nat.not_lt_zero, h2, ↓q_bo2, true_or, not_true_eq_false]
    · obtain ⟨R', M', h1, h2, h3, h4, h5⟩ := hbad
      refine Or.inl ⟨3, R', M', ?_, fun t => ?_, h3, h4, h5⟩
      · rw [r3]
        simp (disch := omega) only [↓reduceIte, h1, ↓q_bo2, q_neg]
      · rw [r3]
        simp (disch := omega) only [q_le, Nat.zero_le, ↓reduceIte, h2, ↓q_bo2, true_or, not_true_eq_false]
/-- ref's puts, class's needsNumber and advance -/
theorem q_puts (h : TK n L T l k v p a R M) (hL : L < 2 ^ 31) {lo hi t : Nat} (hlo : lo < 1000) (hhi : hi < 1000) (ht : t < 39) :
    (∃ e R' M', f_X4_needsNumber (nI lo) (nI hi) 940 R T = some (nI 0, R') ∧ f_X12_puts (nI t) (nI lo) (nI hi) M = some (nI 0, M') ∧ BD e a R' M' ∧ MRr R R' ∧ MXr M M') ∨
    (k = 2 ∧ lo ≤ v ∧ v ≤ hi ∧ R.1 0 8 = nI v ∧ f_X4_needsNumber (nI lo) (nI hi) 940 R T = some (nI 1, R) ∧ ∃ R' M' l' k' v' p' a', f_X4_advance 940 R T = some R' ∧ f_X12_puts (nI t) (nI lo) (nI hi) M = some (nI 1, kI M' 7 t (nI v)) ∧ TK n L T l' k' v' p' a' R' (kI M' 7 t (nI v)) ∧ (k' ≤ 3 → p ≤ p') ∧ MXr M M' ∧ MRr R R' ∧ R'.1 0 9 = R.1 0 9 ∧ M'.1 0 15 = M.1 0 15) := by
  rcases q_number h hlo hhi with ⟨e, R', M', h1, h2, h3, h4, h5⟩ | ⟨hk, h1, h2, h3, h4, h5⟩
  · refine Or.inl ⟨e, R', M', h1, ?_, h3, h4, h5⟩
    unfold f_X12_puts
    rw [h2]
    simp only [↓q_m1, q_lit, ↓q_bo2, ↓reduceIte]
  · obtain ⟨R', M', l', k', v', p', a', g1, g2, g3, g4, g5, g6⟩ := TK_nn (TK_18 h (nI v)) hL (by omega)
    have hn01 : ¬ nI 1 = nI 0 := by decide
    have e18 : M'.1 0 18 = nI v := (g5.1 18 (by omega) (by omega) (by omega) (by omega) (by omega)).trans rfl
    refine Or.inr ⟨hk, h1, h2, h3, h4, R', M', l', k', v', p', a', g1, ?_, TK_g g3 rfl rfl rfl, g4.1, MXr_t (MXr_18 M _) (MXr_of g5), MRr_of g6, g6 9 (by omega) (by omega) (by omega) (by omega) (by omega), (g5.1 15 (by omega) (by omega) (by omega) (by omega) (by omega)).trans rfl⟩
    unfold f_X12_puts
    rw [h5, g2]
    simp (disch := omega) only [↓q_m1, q_lit, ↓q_bo, ↓q_bo2, hn01, ↓reduceIte, q_lt, Nat.not_lt_zero, false_or, q_cl, show ¬ 39 ≤ t by omega, ↓q_bd, e18]
theorem q_rdM (h : TK n L T l k v p a R M) (hL : L < 2 ^ 31) (hk : k = 1) (hW : WT M) {nm np : Nat} {O : kD} (hr : RF nm np O (M.1 7) (M.2 9)) : LR n L (p + 2) T O R M (f_X3_readMachine 940 O R T) (f_X12_readMachine M) := by
  obtain ⟨⟨⟨c1, c2⟩, ⟨s0, s1, p1, p2, p3⟩, _⟩, _⟩ := id hr
  have hn01 : ¬ nI 1 = nI 0 := by decide
  unfold f_X3_readMachine f_X12_readMachine
  simp (disch := omega) only [↓q_m1, q_lit, ↓q_bd, p1, q_lt, q_cl, s0, q_eq]
  by_cases hnm : nm < 6
  · rw [if_pos hnm, if_neg (show ¬ nm = 6 by omega)]
    obtain ⟨R1, M1, l1, k1, v1, q1, a1, g1, g2, g3, g4, g5, g6⟩ := TK_nn h hL (by omega)
    have g5r := MXr_of g5
    rw [g1, g2]
    simp only [↓q_bo]
    have hr1 : RF nm np O (M1.1 7) (M1.2 9) := by
      rw [g5.2.1 7 (by omega), g5.2.2.1 9 (by omega)]; exact hr
    have s01 : M1.1 7 0 = nI nm := by rw [g5.2.1 7 (by omega)]; exact s0
    rcases q_fresh g3 (WT_f hW g5r) hr1 with ⟨e, R2, M2, f1, f2, f3, f4, f5⟩ | ⟨hk1, f1, f2⟩
    · rw [f1, f2]
      simp only [↓q_bo2, ↓reduceIte]
      exact ⟨0, O, R2, M2, by omega, rfl, rfl, MRr_t (MRr_of g6) f4, MXo_r (MXr_t g5r f5), rfl, Or.inl ⟨rfl, e, _, f3⟩⟩
    · have hp1 : p < q1 := g4.2 (by omega) (by omega)
      have hNM := TK_NM g3 hk1
      rw [f1, nI_add, f2 (14 + nm) (by omega)]
      obtain ⟨R2, M2, l2, k2, v2, q2, a2, i1, i2, i3, i4, i5, i6⟩ := TK_nn (TK_g g3 (M' := kL M1 9 (14 + nm) (M1.2 0 17)) rfl rfl rfl) hL (by omega)
      simp (disch := omega) only [i1, i2, ↓q_bo, ↓q_bo2, hn01, ↓reduceIte, Nat.not_lt_zero, false_or, q_cl, show ¬ 6 ≤ nm by omega, ↓q_bd, nI_add, show (kL O 4 nm (R1.2 0 7)).1 0 1 = nI nm from p1]
      have i5r := MXr_of i5
      have fr2 : MXo M M2 := MXo_t (MXo_r g5r) (MXo_t (MXo_9 M1 (14 + nm) (by omega) _) (MXo_r i5r))
      rcases q_puts i3 hL (lo := 0) (hi := 999) (t := 3 + nm) (by omega) (by omega) (by omega) with ⟨e, R3, M3, f1, f2, f3, f4, f5⟩ | ⟨hk2, f1, f2, f3, f4, R3, M3, l3, k3, v3, q3, a3, f5, f6, f7, f8, f9, f10, f11, f12⟩
      · rw [f1, f2]
        simp only [↓q_bo2, ↓reduceIte]
        exact ⟨0, _, R3, M3, by omega, rfl, rfl, MRr_t (MRr_of g6) (MRr_t (MRr_of i6) f4), MXo_t fr2 (MXo_r f5), rfl, Or.inl ⟨rfl, e, _, f3⟩⟩
      · have e7 : M3.1 7 = M.1 7 := ((f9.2.1 7 (by omega)).trans (i5.2.1 7 (by omega))).trans (g5.2.1 7 (by omega))
        have e9 : M3.2 9 = vp_updL (M.2 9) (14 + nm) (M1.2 0 17) := by
          rw [f9.2.2.1 9 (by omega), i5.2.2.1 9 (by omega)]
          show vp_updL (M1.2 9) (14 + nm) (M1.2 0 17) = _
          rw [g5.2.2.1 9 (by omega)]
        have e70 : (kI M3 7 (3 + nm) (nI v2)).1 7 0 = nI nm := by
          show upd (M3.1 7) (3 + nm) (nI v2) 0 = _
          rw [up_ne (by omega), e7]; exact s0
        rw [f4, f6]
        simp (disch := omega) only [↓q_bo, ↓q_bo2, hn01, ↓reduceIte, q_lt, Nat.not_lt_zero, false_or, q_cl, show ¬ 6 ≤ nm by omega, ↓q_bd, nI_add, f3, show (kI (kL O 4 nm (R1.2 0 7)) 5 nm (nI v2)).1 0 1 = nI nm from p1, show (kI (kI (kL O 4 nm (R1.2 0 7)) 5 nm (nI v2)) 6 nm (nI 0)).1 0 1 = nI nm from p1, f5, e70]
        refine ⟨1, _, R3, _, by omega, rfl, rfl, MRr_t (MRr_of g6) (MRr_t (MRr_of i6) f10), MXo_t fr2 (MXo_t (MXo_r f9) (MXo_t (MXo_7 M3 _ _) (MXo_7 _ _ _))), rfl, Or.inr ⟨rfl, nm + 1, np, l3, k3, v3, q3, a3, ?_, TK_g f7 rfl rfl rfl, fun h3 => ?_, (f11.trans (i6 9 (by omega) (by omega) (by omega) (by omega) (by omega))).trans (g6 9 (by omega) (by omega) (by omega) (by omega) (by omega)), ?_⟩⟩
        · show RF (nm + 1) np _ (upd (upd (M3.1 7) (3 + nm) (nI v2)) 0 (nI (nm + 1))) (M3.2 9)
          rw [e7, e9]
          exact RF_m hr hnm hNM (i := v2) (by omega) rfl rfl rfl rfl rfl rfl rfl rfl rfl rfl
        · have := f8 h3
          have := i4.2 (by omega) (by omega)
          omega
        · show M3.1 0 15 = _
          exact (f12.trans (i5.1 15 (by omega) (by omega) (by omega) (by omega) (by omega))).trans (g5.1 15 (by omega) (by omega) (by omega) (by omega) (by omega))
  · rw [if_neg hnm, if_pos (show nm = 6 by omega)]
    obtain ⟨R', M', h1, h2, h3, h4, h5⟩ := q_bad h 4 (by omega) (by omega)
    rw [h1, h2]
    simp only [↓q_bo2, true_or, not_true_eq_false, ↓reduceIte]
    exact ⟨0, O, R', M', by omega, rfl, rfl, h4, MXo_r h5, rfl, Or.inl ⟨rfl, 4, a, h3⟩⟩
end tk
