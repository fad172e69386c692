/-! machine-free: OFFICE read: a line, all lines -/
theorem LR_g {n L p0 : Nat} {T : Nat → Int32} {O R M : kD} {C : Option (Int32 × kD × kD)} {D : Option (Int32 × kD)} (h : LR n L p0 T O R M C D) : LR n L p0 T O R M (bo3 C fun v O1 R1 => if ¬ (v = nI 0 ∨ v = nI 1) then none else some (v, O1, R1)) (bo2 D fun v M1 => if ¬ (v = nI 0 ∨ v = nI 1) then none else some (v, M1)) := by
  obtain ⟨c, O', R', M', hc, h1, h2, h3⟩ := h
  rw [h1, h2]
  refine ⟨c, O', R', M', hc, ?_, ?_, h3⟩
  · rw [q_bo3, if_neg (gd_b hc)]
  · rw [q_bo2, if_neg (gd_b hc)]
section tk
variable {n L : Nat} {T : Nat → Int32} {l : List Nat} {k v p a : Nat} {R M : kD}
theorem q_rdL (h : TK n L T l k v p a R M) (hL : L < 2 ^ 31) (hW : WT M) {nm np : Nat} {O : kD} (hr : RF nm np O (M.1 7) (M.2 9)) :
    (k = 1 ∧ LR n L (p + 2) T O R M (f_X3_readLine 940 O R T) (f_X12_readLine M)) ∨
    (∃ e R' M', f_X3_readLine 940 O R T = some (nI 0, O, R') ∧ f_X12_readLine M = some (nI 0, M') ∧ BD e a R' M' ∧ MRr R R' ∧ MXr M M') := by
  have hn01 : ¬ nI 1 = nI 0 := by decide
  obtain ⟨x1, y1, a1, b1, d1⟩ := q_isW h (w := 1) (N := 30787852042858085) (by omega) (by omega) (by decide +kernel)
  obtain ⟨x2, y2, a2, b2, d2⟩ := q_isW h (w := 2) (N := 123593897898853) (by omega) (by omega) (by decide +kernel)
  obtain ⟨x3, y3, a3, b3, d3⟩ := q_isW h (w := 3) (N := 461414299507) (by omega) (by omega) (by decide +kernel)
  obtain ⟨x4, y4, a4, b4, d4⟩ := q_isW h (w := 4) (N := 27424514944365171) (by omega) (by omega) (by decide +kernel)
  unfold f_X3_readLine f_X12_readLine
  simp only [↓q_m1, q_lit, q_litL, a1, a2, a3, a4, b1, b2, b3, b4, ↓q_bo]
  by_cases hx1 : x1 = 0
  · rw [hx1, if_pos rfl, if_pos rfl]
    by_cases hx2 : x2 = 0
    · rw [hx2, if_pos rfl, if_pos rfl]
      by_cases hx3 : x3 = 0
      · rw [hx3, if_pos rfl, if_pos rfl]
        by_cases hx4 : x4 = 0
        · rw [hx4, if_pos rfl, if_pos rfl]
          obtain ⟨R', M', h1, h2, h3, h4, h5⟩ := q_bad h 1 (by omega) (by omega)
          rw [h1, h2]
          simp only [↓q_bo2, true_or, not_true_eq_false, ↓reduceIte]
          exact Or.inr ⟨1, R', M', rfl, rfl, h3, h4, h5⟩
        · have e : x4 = 1 := by omega
          rw [e, if_neg hn01, if_neg hn01]
          exact Or.inl ⟨(d4.mp e).1, LR_g (q_rdA h hL (d4.mp e).1 hW hr)⟩
      · have e : x3 = 1 := by omega
        rw [e, if_neg hn01, if_neg hn01]
        exact Or.inl ⟨(d3.mp e).1, LR_g (q_rdK h hL (d3.mp e).1 hW hr)⟩
    · have e : x2 = 1 := by omega
      rw [e, if_neg hn01, if_neg hn01]
      exact Or.inl ⟨(d2.mp e).1, LR_g (q_rdP h hL (d2.mp e).1 hW hr)⟩
  · have e : x1 = 1 := by omega
    rw [e, if_neg hn01, if_neg hn01]
    exact Or.inl ⟨(d1.mp e).1, LR_g (q_rdM h hL (d1.mp e).1 hW hr)⟩
/-- a sign, with all that stays -/
theorem q_sign2 (h : TK n L T l k v p a R M) (hL : L < 2 ^ 31) {s : Nat} (hs : s = 59 ∨ s = 40 ∨ s = 41 ∨ s = 60 ∨ s = 61 ∨ s = 62) :
    (∃ e R' M', f_X4_passSign (nI s) 940 R T = some (nI 0, R') ∧ f_X12_sign (nI s) M = some (nI 0, M') ∧ BD e a R' M' ∧ MRr R R' ∧ MXr M M') ∨
    (k = 3 ∧ v = s ∧ ∃ R' M' l' k' v' p' a', f_X4_passSign (nI s) 940 R T = some (nI 1, R') ∧ f_X12_sign (nI s) M = some (nI 1, M') ∧ TK n L T l' k' v' p' a' R' M' ∧ ((k' ≤ 3 → p ≤ p') ∧ (1 ≤ k' → k' ≤ 3 → p < p')) ∧ MXn M M' ∧ MRn R R') := by
  obtain ⟨c, hc1, h1, h2, h3⟩ := q_isSn h hs
  unfold f_X4_passSign f_X12_sign
  rw [h1, h2]
  simp only [↓q_m1, q_lit]
  by_cases hc : c = 0
  · obtain ⟨R', M', g1, g2, g3, g4, g5⟩ := q_bad h 1 (by omega) (by omega)
    rw [hc, if_pos rfl, if_pos rfl, g1, g2]
    simp only [↓q_bo2, true_or, not_true_eq_false, ↓reduceIte]
    exact Or.inl ⟨1, R', M', rfl, rfl, g3, g4, g5⟩
  · obtain ⟨hk, hv⟩ := h3.mp (by omega)
    rw [show c = 1 by omega, if_neg (by decide), if_neg (by decide)]
    obtain ⟨R', M', l', k', v', p', a', c1, c2, c3, c4, c5, c6⟩ := TK_nn h hL (by omega)
    rw [c1, c2]
    simp only [↓q_bo]
    exact Or.inr ⟨hk, hv, R', M', l', k', v', p', a', rfl, rfl, c3, c4, c5, c6⟩
end tk
/-- the reading of the office as a whole -/
def LO (n L : Nat) (T : Nat → Int32) (R M : kD) (C : Option (Int32 × kD × kD)) (D : Option (Int32 × kD)) : Prop :=
  (∃ O' R' M' e a, C = some (nI 0, O', R') ∧ D = some (mI - nI a, M') ∧ BD e a R' M' ∧ MRr R R' ∧ MXo (kI M 0 19 (M'.1 0 19)) M') ∨
  (∃ O' R' M' nm np c l v p a, C = some (nI 1, O', R') ∧ D = g_X12_office_73 M' ∧ RF nm np O' (M'.1 7) (M'.2 9) ∧ O'.1 0 0 = nI c ∧ M'.1 0 19 = nI c ∧ c ≤ 900 ∧ TK n L T l 0 v p a R' M' ∧ MRr R R' ∧ MXo (kI M 0 19 (M'.1 0 19)) M' ∧ R'.1 0 9 = R.1 0 9 ∧ M'.1 0 15 = M.1 0 15)
theorem MXo_19 {M M1 M2 : kD} {x : Int32} (h : MXo M M1) (g : MXo (kI (kI M1 0 19 x) 0 19 (M2.1 0 19)) M2) : MXo (kI M 0 19 (M2.1 0 19)) M2 := by
  refine ⟨fun k k1 k2 k3 k4 k5 k6 k7 k8 => ?_, fun b h1 h2 => ?_, fun b h1 h2 => (g.2.2.1 b h1 h2).trans (h.2.2.1 b h1 h2), fun i hi => (g.2.2.2.1 i hi).trans (h.2.2.2.1 i hi), fun k hk => (g.2.2.2.2 k hk).trans (h.2.2.2.2 k hk)⟩
  · rw [g.1 k k1 k2 k3 k4 k5 k6 k7 k8, q_kI, if_pos rfl, q_kI, if_pos rfl]
    by_cases e : k = 19
    · subst e; rw [up_eq]; rfl
    · rw [up_ne e, up_ne e, q_kI, if_pos rfl, up_ne e]; exact h.1 k k1 k2 k3 k4 k5 k6 k7 k8
  · rw [g.2.1 b h1 h2, q_kI, if_neg h1, q_kI, if_neg h1, q_kI, if_neg h1]; exact h.2.1 b h1 h2
theorem MXo_19e {M M2 : kD} (h : MXo M M2) : MXo (kI M 0 19 (M2.1 0 19)) M2 := by
  refine ⟨fun k k1 k2 k3 k4 k5 k6 k7 k8 => ?_, fun b h1 h2 => ?_, h.2.2.1, h.2.2.2.1, h.2.2.2.2⟩
  · rw [q_kI, if_pos rfl]
    by_cases e : k = 19
    · subst e; rw [up_eq]
    · rw [up_ne e]; exact h.1 k k1 k2 k3 k4 k5 k6 k7 k8
  · rw [q_kI, if_neg h1]; exact h.2.1 b h1 h2
theorem LO_t {n L : Nat} {T : Nat → Int32} {R M R1 M1 : kD} {x : Int32} {C : Option (Int32 × kD × kD)} {D : Option (Int32 × kD)} (h : LO n L T R1 (kI M1 0 19 x) C D) (hR : MRr R R1) (hM : MXo M M1) (h9 : R1.1 0 9 = R.1 0 9) (h15 : M1.1 0 15 = M.1 0 15) : LO n L T R M C D := by
  rcases h with ⟨O', R', M', e, a, h1, h2, h3, h4, h5⟩ | ⟨O', R', M', nm, np, c, l, v, p, a, h1, h2, h3, h4, h5, h6, h7, h8, h10, h11, h12⟩
  · exact Or.inl ⟨O', R', M', e, a, h1, h2, h3, MRr_t hR h4, MXo_19 hM h5⟩
  · exact Or.inr ⟨O', R', M', nm, np, c, l, v, p, a, h1, h2, h3, h4, h5, h6, h7, MRr_t hR h8, MXo_19 hM h10, h11.trans h9, h12.trans h15⟩
theorem q_lines {n L : Nat} {T : Nat → Int32} (hL : L < 2 ^ 31) : ∀ (f c : Nat) (l : List Nat) (k v p a nm np : Nat) (O R M : kD), TK n L T l k v p a R M → WT M → RF nm np O (M.1 7) (M.2 9) → O.1 0 0 = nI c → M.1 0 19 = nI c → c ≤ 471 → 1 ≤ f → (k ≤ 3 → 2 * c ≤ p ∧ n + 1 < p + f) →
    LO n L T R M (lp (fun _ _ => none) (g_X3_read_20 940 T) f O R) (lp (fun _ => none) g_X12_office_30 f M) := by
  intro f
  induction f with
  | zero => intro c l k v p a nm np O R M _ _ _ _ _ _ h; omega
  | succ f ih =>
    intro c l k v p a nm np O R M h hW hr hO hM hc hf hk
    have hn01 : ¬ nI 1 = nI 0 := by decide
    simp only [q_lp]
    generalize lp _ (g_X3_read_20 940 T) f = rc at ih ⊢
    generalize lp _ g_X12_office_30 f = rd at ih ⊢
    have hn := h.2.2.2.2.1.1
    have hpn : k ≤ 3 → p ≤ n := fun hh => (h.2.2.2.2.2.2.2.2.1 hh).1
    unfold g_X3_read_20 g_X12_office_30
    rcases q_isEnd h with ⟨k0, e1, e2⟩ | ⟨k0, e1, e2⟩
    · unfold g_X3_read_69 f_X4_needsEnd
      simp (disch := omega) only [↓q_m1, q_lit, hO, q_le, show ¬ 900 ≤ c by omega, ↓reduceIte, e1, hn01, e2, ↓q_bo2, or_true, not_true_eq_false]
      subst k0
      exact Or.inr ⟨O, R, M, nm, np, c, l, v, p, a, rfl, rfl, hr, hO, hM, by omega, h, MRr_r R, MXo_19e (MXo_r (MXr_r M)), rfl, rfl⟩
    · simp (disch := omega) only [↓q_m1, q_lit, hO, q_le, show ¬ 900 ≤ c by omega, ↓reduceIte, e1, e2]
      rcases q_rdL h hL hW hr with ⟨hk1, c1, O1, R1, M1, g1, g2, g3, g4, g5, g6, g7⟩ | ⟨e, R1, M1, g1, g2, g3, g4, g5⟩
      · obtain ⟨hk2, hk3⟩ := hk (by omega)
        have hpn1 := hpn (by omega)
        rw [g2, g3]
        rcases g7 with ⟨c0, e, a1, hb⟩ | ⟨c0, nm1, np1, l1, k1, v1, p1, a1, hr1, h1, hp1, h9, h15⟩
        · rw [c0]
          simp only [↓q_bo3, ↓q_bo2, ↓reduceIte]
          refine Or.inl ⟨O1, R1, M1, e, a1, rfl, ?_, hb, g4, MXo_19e g5⟩
          rw [hb.2.2.2.2.2.2]
        · rw [c0]
          simp only [↓q_bo3, ↓q_bo2, hn01, ↓reduceIte]
          have hW1 := WT_o hW g5
          have g519 : M1.1 0 19 = nI c := (g5.1 19 (by omega) (by omega) (by omega) (by omega) (by omega) (by omega) (by omega) (by omega)).trans hM
          rcases q_sign2 h1 hL (s := 59) (Or.inl rfl) with ⟨e, R2, M2, f1, f2, f3, f4, f5⟩ | ⟨s1, s2, R2, M2, l2, k2, v2, p2, a2, f1, f2, f3, f4, f5, f6⟩
          · rw [f1, f2]
            simp only [↓q_bo2, ↓reduceIte]
            refine Or.inl ⟨O1, R2, M2, e, a1, rfl, ?_, f3, MRr_t g4 f4, MXo_19e (MXo_t g5 (MXo_r f5))⟩
            rw [f3.2.2.2.2.2.2]
          · have hp1 := hp1 (by omega)
            have e219 : M2.1 0 19 = nI c := (f5.1 19 (by omega) (by omega) (by omega) (by omega) (by omega)).trans g519
            have e7 : M2.1 7 = M1.1 7 := f5.2.1 7 (by omega)
            have e9 : M2.2 9 = M1.2 9 := f5.2.2.1 9 (by omega)
            rw [f1, f2]
            simp only [↓q_bo2, hn01, ↓reduceIte, ↓q_bd, g6, hO, e219, nI_add]
            refine LO_t (ih (c + 1) l2 k2 v2 p2 a2 nm1 np1 (kI O1 0 0 (nI (c + 1))) R2 (kI M2 0 19 (nI (c + 1))) ?_ ?_ ?_ rfl rfl (by omega) (by omega) (fun h3 => ?_)) (MRr_t g4 (MRr_of f6)) (MXo_t g5 (MXo_r (MXr_of f5))) ((f6 9 (by omega) (by omega) (by omega) (by omega) (by omega)).trans h9) ((f5.1 15 (by omega) (by omega) (by omega) (by omega) (by omega)).trans h15)
            · obtain ⟨b0, b1, b2, b3, b4, b5, b6, b7, b8, b9, bK⟩ := f3
              exact ⟨b0, b1, b2, b3, RZ_f b4 rfl rfl, b5, b6, b7, b8, b9, bK⟩
            · show WT M2
              exact WT_o hW1 (MXo_r (MXr_of f5))
            · show RF nm1 np1 (kI O1 0 0 (nI (c + 1))) (M2.1 7) (M2.2 9)
              rw [e7, e9]; exact hr1
            · have := f4.1 h3
              omega
      · rw [g1, g2]
        simp only [↓q_bo3, ↓q_bo2, ↓reduceIte]
        refine Or.inl ⟨O, R1, M1, e, a, rfl, ?_, g3, g4, MXo_19e (MXo_r g5)⟩
        rw [g3.2.2.2.2.2.2]
