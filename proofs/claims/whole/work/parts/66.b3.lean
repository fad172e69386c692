/-! machine-free: BOOK read: all lines -/
def LB (n L nm np : Nat) (x1 : Int32) (T : Nat → Int32) (R M : kD) (C : Option (Int32 × kD × kD)) (D : Option (Int32 × kD)) : Prop :=
  (∃ K' R' M' e a, C = some (nI 0, K', R') ∧ D = some (-nI 2 - nI a, M') ∧ BD e a R' M' ∧ MRr R R' ∧ MXk (kI M 0 36 (M'.1 0 36)) M') ∨
  (∃ K' R' M' c l v p a, C = some (nI 1, K', R') ∧ D = g_X12_book_83 x1 M' ∧ RK nm np c K' (M'.1 8) ∧ M'.1 0 36 = nI c ∧ TK n L T l 0 v p a R' M' ∧ MRr R R' ∧ MXk (kI M 0 36 (M'.1 0 36)) M' ∧ R'.1 0 9 = R.1 0 9 ∧ M'.1 0 15 = M.1 0 15)
theorem MXk_36 {M M1 M2 : kD} {x : Int32} (h : MXk M M1) (g : MXk (kI (kI M1 0 36 x) 0 36 (M2.1 0 36)) M2) : MXk (kI M 0 36 (M2.1 0 36)) M2 := by
  refine ⟨fun k k1 k2 k3 k4 k5 k6 k7 k8 => ?_, fun b h1 h2 => ?_, fun b h1 => (g.2.2.1 b h1).trans (h.2.2.1 b h1), fun k hk => (g.2.2.2 k hk).trans (h.2.2.2 k hk)⟩
  · rw [g.1 k k1 k2 k3 k4 k5 k6 k7 k8, q_kI, if_pos rfl, q_kI, if_pos rfl]
    by_cases e : k = 36
    · subst e; rw [up_eq]; rfl
    · rw [up_ne e, up_ne e, q_kI, if_pos rfl, up_ne e]; exact h.1 k k1 k2 k3 k4 k5 k6 k7 k8
  · rw [g.2.1 b h1 h2, q_kI, if_neg h1, q_kI, if_neg h1, q_kI, if_neg h1]; exact h.2.1 b h1 h2
theorem MXk_36e {M M2 : kD} (h : MXk M M2) : MXk (kI M 0 36 (M2.1 0 36)) M2 := by
  refine ⟨fun k k1 k2 k3 k4 k5 k6 k7 k8 => ?_, fun b h1 h2 => ?_, h.2.2.1, h.2.2.2⟩
  · rw [q_kI, if_pos rfl]
    by_cases e : k = 36
    · subst e; rw [up_eq]
    · rw [up_ne e]; exact h.1 k k1 k2 k3 k4 k5 k6 k7 k8
  · rw [q_kI, if_neg h1]; exact h.2.1 b h1 h2
theorem LB_t {n L nm np : Nat} {x1 : Int32} {T : Nat → Int32} {R M R1 M1 : kD} {x : Int32} {C : Option (Int32 × kD × kD)} {D : Option (Int32 × kD)} (h : LB n L nm np x1 T R1 (kI M1 0 36 x) C D) (hR : MRr R R1) (hM : MXk M M1) (h9 : R1.1 0 9 = R.1 0 9) (h15 : M1.1 0 15 = M.1 0 15) : LB n L nm np x1 T R M C D := by
  rcases h with ⟨K', R', M', e, a, h1, h2, h3, h4, h5⟩ | ⟨K', R', M', c, l, v, p, a, h1, h2, h3, h4, h5, h6, h7, h8, h10⟩
  · exact Or.inl ⟨K', R', M', e, a, h1, h2, h3, MRr_t hR h4, MXk_36 hM h5⟩
  · exact Or.inr ⟨K', R', M', c, l, v, p, a, h1, h2, h3, h4, h5, MRr_t hR h6, MXk_36 hM h7, h8.trans h9, h10.trans h15⟩
theorem q_bkLines {n L nm np : Nat} {T : Nat → Int32} {O : kD} (x1 : Int32) (hL : L < 2 ^ 31) : ∀ (f c : Nat) (l : List Nat) (k v p a : Nat) (K R M : kD), TK n L T l k v p a R M → WT M → RLo nm np O (M.1 6) (M.2 9) → RK nm np c K (M.1 8) → M.1 0 36 = nI c → 41 ≤ c + f →
    LB n L nm np x1 T R M (lp (fun _ _ _ => none) (g_X0_read_7 940 O T) f (nI c) K R) (lp (fun _ _ => none) g_X12_book_39 f x1 M) := by
  intro f
  induction f with
  | zero => intro c l k v p a K R M _ _ _ hk _ h; have := hk.2.1; omega
  | succ f ih =>
    intro c l k v p a K R M h hW hr hk h36 hf
    have hn01 : ¬ nI 1 = nI 0 := by decide
    have hc40 := hk.2.1
    simp only [q_lp]
    generalize lp _ (g_X0_read_7 940 O T) f = rc at ih ⊢
    generalize lp _ g_X12_book_39 f = rd at ih ⊢
    unfold g_X0_read_7 g_X12_book_39
    rcases q_isEnd h with ⟨k0, e1, e2⟩ | ⟨k0, e1, e2⟩
    · unfold g_X0_read_46 f_X4_needsEnd
      simp (disch := omega) only [↓q_m1, q_lit, q_lt, show ¬ 40 < c by omega, ↓reduceIte, e1, hn01, e2, ↓q_bo2, or_true, not_true_eq_false]
      subst k0
      exact Or.inr ⟨K, R, M, c, l, v, p, a, rfl, rfl, hk, h36, h, MRr_r R, MXk_36e (MXk_r (MXr_r M)), rfl, rfl⟩
    · simp (disch := omega) only [↓q_m1, q_lit, q_lt, show ¬ 40 < c by omega, ↓reduceIte, e1, e2]
      obtain ⟨d, K1, R1, M1, hd, g1, g2, g3, g4, g5⟩ := q_bkL h hL hW hr hk h36
      rw [g1, g2]
      rcases g5 with ⟨d0, e, a1, hb⟩ | ⟨d0, hk1, ⟨l1, k1, v1, p1, a1, h1, _⟩, h9, h15⟩
      · rw [d0]
        simp only [↓q_bo3, ↓q_bo2, ↓reduceIte]
        refine Or.inl ⟨K1, R1, M1, e, a1, rfl, ?_, hb, g3, MXk_36e g4⟩
        rw [hb.2.2.2.2.2.2]
      · rw [d0]
        simp only [↓q_bo3, ↓q_bo2, hn01, ↓reduceIte]
        have hW1 : WT M1 := by
          unfold WT
          rw [g4.2.2.1 10 (by omega)]; exact hW
        have g436 : M1.1 0 36 = nI c := (g4.1 36 (by omega) (by omega) (by omega) (by omega) (by omega) (by omega) (by omega) (by omega)).trans h36
        rcases q_sign2 h1 hL (s := 59) (Or.inl rfl) with ⟨e, R2, M2, f1, f2, f3, f4, f5⟩ | ⟨s1, s2, R2, M2, l2, k2, v2, p2, a2, f1, f2, f3, f4, f5, f6⟩
        · rw [f1, f2]
          simp only [↓q_bo2, ↓reduceIte]
          refine Or.inl ⟨K1, R2, M2, e, a1, rfl, ?_, f3, MRr_t g3 f4, MXk_36e (MXk_t g4 (MXk_r f5))⟩
          rw [f3.2.2.2.2.2.2]
        · have e236 : M2.1 0 36 = nI c := (f5.1 36 (by omega) (by omega) (by omega) (by omega) (by omega)).trans g436
          have hc1 := hk1.2.1
          rw [f1, f2]
          simp only [↓q_bo2, hn01, ↓reduceIte, ↓q_bd, e236, nI_add]
          refine LB_t (ih (c + 1) l2 k2 v2 p2 a2 K1 R2 (kI M2 0 36 (nI (c + 1))) ?_ ?_ ?_ ?_ rfl (by omega)) (MRr_t g3 (MRr_of f6)) (MXk_t g4 (MXk_r (MXr_of f5))) ((f6 9 (by omega) (by omega) (by omega) (by omega) (by omega)).trans h9) ((f5.1 15 (by omega) (by omega) (by omega) (by omega) (by omega)).trans h15)
          · obtain ⟨b0, b1, b2, b3, b4, b5, b6, b7, b8, b9, bK⟩ := f3
            exact ⟨b0, b1, b2, b3, RZ_f b4 rfl rfl, b5, b6, b7, b8, b9, bK⟩
          · show WT M2
            exact WT_f hW1 (MXr_of f5)
          · show RLo nm np O (M2.1 6) (M2.2 9)
            rw [f5.2.1 6 (by omega), f5.2.2.1 9 (by omega), g4.2.1 6 (by omega) (by omega), g4.2.2.1 9 (by omega)]; exact hr
          · show RK nm np (c + 1) K1 (M2.1 8)
            rw [f5.2.1 8 (by omega)]; exact hk1
