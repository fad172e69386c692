/-! machine-free: SENTENCE: the recursion and the stack -/
def SF (R M : kD) (C : Option (Int32 × kD × kD)) (D : Option (Int32 × kD)) : Prop := ∃ N' R' M' ee a, C = some (nI 0, N', R') ∧ D = some (mI - nI a, M') ∧ BD ee a R' M' ∧ MRr R R' ∧ MXs M M'
def SG (n L nm np c e d k δ t f : Nat) (T : Nat → Int32) (R M N' R' M' : kD) (f' c' e' : Nat) (Q l : List Nat) (kk v p a : Nat) : Prop :=
  f + 3 * c + 1 ≤ f' + 3 * c' ∧ c < c' ∧ e' + 2 * c + 1 ≤ e + 2 * c' ∧ SZ nm np c' e' d k (δ + 1) Q N' M' ∧ LQ t Q ∧ M'.1 0 44 = nI 1 ∧ TK n L T l kk v p a R' M' ∧ MRr R R' ∧ MXs M M' ∧ (∀ i, i < k → M'.1 39 i = M.1 39 i) ∧ R'.1 0 9 = R.1 0 9 ∧ M'.1 0 15 = M.1 0 15
noncomputable def lpS (f : Nat) : Int32 → kD → Option (Int32 × kD) := lp (fun _ _ => none) g_X12_sentence_48 f
def TE (t kk : Nat) (l : List Nat) : Prop := (1 ≤ t → tw kk l ≠ 12) ∧ (2 ≤ t → tw kk l ≠ 11)
def SO (n L nm np c e d k δ t f : Nat) (T : Nat → Int32) (R M : kD) (C : Option (Int32 × kD × kD)) (D : Option (Int32 × kD)) : Prop :=
  SF R M C D ∨ ∃ N' R' M' f' c' e' Q l kk v p a, C = some (nI 1, N', R') ∧ D = lpS f' (nI 1) M' ∧ TE t kk l ∧ SG n L nm np c e d k δ t f T R M N' R' M' f' c' e' Q l kk v p a
def IT (n L nm np d t : Nat) (T : Nat → Int32) (O : kD) (fI : Int32 → Nat → kD → kD → kD → (Nat → Int32) → Option (Int32 × kD × kD)) : Prop :=
  ∀ f c e k δ l kk v p a N R M, TK n L T l kk v p a R M → SH nm np O M → SZ nm np c e d k δ [] N M → M.1 0 44 = nI 0 → 100 ≤ f + 3 * c → BT t k M → SO n L nm np c e d k δ t f T R M (fI (nI d) 940 N R O T) (lpS f (nI 1) M)
theorem n10 : ¬ nI 1 = nI 0 := by decide
theorem q_48a {rd : Int32 → kD → Option (Int32 × kD)} {M : kD} (h : M.1 0 44 = nI 0) : g_X12_sentence_48 rd (nI 1) M = bo2 (f_X12_operand M) fun v11 M10 => if v11 = nI 0 then some (mI - M10.1 0 16, M10) else rd (nI 1) M10 := by
  unfold g_X12_sentence_48 g_X12_sentence_101
  simp only [↓q_m1, q_lit]
  rw [if_neg n10, if_pos h, if_pos h]
theorem q_48b {rd : Int32 → kD → Option (Int32 × kD)} {M : kD} (h : M.1 0 44 = nI 1) (h11 : ¬ M.1 0 11 = nI 0) : g_X12_sentence_48 rd (nI 1) M = bo2 (f_X12_behind M) fun v11 M10 => if v11 = nI 0 then some (mI - M10.1 0 16, M10) else rd (nI 1) M10 := by
  unfold g_X12_sentence_48 g_X12_sentence_101 g_X12_sentence_115
  simp only [↓q_m1, q_lit]
  rw [if_neg n10, h, if_neg n10, if_neg h11, if_neg n10]
theorem TK_11 {n L : Nat} {T : Nat → Int32} {l : List Nat} {k v p a : Nat} {R M : kD} (h : TK n L T l k v p a R M) (hk : k ≠ 0) : ¬ M.1 0 11 = nI 0 := by
  rcases q_isEnd h with ⟨h1, _⟩ | ⟨_, _, h3⟩
  · omega
  · exact h3
noncomputable def Gx (t : Nat) (fI : Int32 → Nat → kD → kD → kD → (Nat → Int32) → Option (Int32 × kD × kD)) (O : kD) (T : Nat → Int32) (rc : Int32 → Int32 → kD → kD → Option (Int32 × kD × kD)) (d x4 : Nat) (N R : kD) : Option (Int32 × kD × kD) :=
  if 20 ≤ x4 then some (nI 1, N, R) else bo (f_X4_seesWord (nI (13 - t)) 940 R T) fun v2 => if v2 = nI 0 then some (nI 1, N, R) else bo (f_X4_advance 940 R T) fun Rv4 => bo3 (fI (nI d) 940 N Rv4 O T) fun v6 Nv7 Rv8 => if v6 = nI 0 then some (nI 0, Nv7, Rv8) else bo2 (f_X8_keepWord (nI (13 - t)) (nI 0) (nI 0) Nv7) fun _ Nv11 => rc (nI d) (nI (x4 + 1)) Nv11 Rv8
theorem uW_t {t : Nat} (ht : t = 1 ∨ t = 2) : uW (20 + t) = 13 - t := by
  rcases ht with rfl | rfl <;> rfl
theorem q_behJ {n L : Nat} {T : Nat → Int32} {l : List Nat} {kk v p a : Nat} {R M : kD} (h : TK n L T l kk v p a R M) {nm np c e d k δ t : Nat} {Q : List Nat} {N : kD} (ht : t = 1 ∨ t = 2) (hz : SZ nm np c e d k δ Q N M) (hQ : LQ t Q) (hb : BT t k M) (hw : tw kk l = 13 - t) :
    ∃ M', f_X12_behind M = g_X12_behind_70 (nI k) (nI (20 + t)) M' ∧ MXp M M' ∧ SZ nm np c e d k δ [] N M' := by
  obtain ⟨Ma, M', a1, a2, a3, a4, a5⟩ := q_flush ht hz hQ hb
  refine ⟨M', ?_, a4, a5⟩
  have wa := (TKw (TK_p h a3) (w := 12) (N := 6385252) (by omega) (by omega) (by decide +kernel)).2
  have wo := (TKw (TK_p h a3) (w := 11) (N := 28530) (by omega) (by omega) (by decide +kernel)).2
  have wm := (TKw (TK_p h a4) (w := 12) (N := 6385252) (by omega) (by omega) (by decide +kernel)).2
  have m42 : M'.1 0 42 = nI k := a5.2.2.2.1.1
  unfold f_X12_behind g_X12_behind_24 g_X12_behind_42
  simp only [↓q_m1, q_lit, q_litL]
  rw [a1, q_bo, wa, wo]
  rcases ht with rfl | rfl
  · rw [if_pos (show tw kk l = 12 from hw), if_neg n10, if_neg n10, a2, q_bo, wm, if_pos (show tw kk l = 12 from hw), if_neg n10, m42]
  · rw [if_neg (show ¬ tw kk l = 12 by omega), if_pos rfl, if_pos (show tw kk l = 11 from hw), if_neg n10, a2, q_bo, wm, if_neg (show ¬ tw kk l = 12 by omega), m42, if_pos rfl, if_pos rfl]
theorem q_loop {n L nm np d t : Nat} {T : Nat → Int32} {O : kD} {fI : Int32 → Nat → kD → kD → kD → (Nat → Int32) → Option (Int32 × kD × kD)} {gg : (Int32 → Int32 → kD → kD → Option (Int32 × kD × kD)) → Int32 → Int32 → kD → kD → Option (Int32 × kD × kD)} (ht : t = 1 ∨ t = 2) (hL : L < 2 ^ 31) (hd : d ≤ 20) (hG : ∀ rc x4 N R, x4 < 2 ^ 31 → gg rc (nI d) (nI x4) N R = Gx t fI O T rc d x4 N R) (hI : IT n L nm np d (t - 1) T O fI)
    {f c e k δ : Nat} {R M : kD} (hS : SH nm np O M) (hf : 100 ≤ f + 3 * c) (hB : BT t k M) (hk : k ≤ 2 * c) : ∀ (f2 x4 f' c' e' : Nat) (Q l : List Nat) (kk v p a : Nat) (N' R' M' : kD), 2000 ≤ f2 + x4 → x4 + 1 ≤ c' → TE (t - 1) kk l → SG n L nm np c e d k δ t f T R M N' R' M' f' c' e' Q l kk v p a →
    SO n L nm np c e d k δ t f T R M (lp (fun _ _ _ _ => none) gg f2 (nI d) (nI x4) N' R') (lpS f' (nI 1) M') := by
  intro f2
  induction f2 with
  | zero =>
    intro x4 f' c' e' Q l kk v p a N' R' M' h1 h2 hte hg
    have := hg.2.2.2.1.2.1.1
    omega
  | succ f2 ih =>
    intro x4 f' c' e' Q l kk v p a N' R' M' h1 h2 hte hg
    have hg0 := hg
    obtain ⟨g1, g2, g3, hz, hQ, h44, hT, gR, gM, gb, g9, g15⟩ := hg
    have hc' := hz.2.1.1
    have he' := hz.2.1.2.1
    rw [q_lp, hG _ _ _ _ (by omega)]
    have hsw := (TKw hT (w := 13 - t) (N := encR (wB (13 - t))) (by omega) (by omega) rfl).1
    unfold Gx
    rw [if_neg (show ¬ 20 ≤ x4 by omega), hsw, q_bo]
    by_cases hw : tw kk l = 13 - t
    · have hkk : kk = 1 := by
        unfold tw at hw
        by_cases h9 : kk = 1
        · exact h9
        · rw [if_neg h9] at hw; omega
      rw [if_pos hw, if_neg n10]
      -- the reference
      obtain ⟨fq, rfl⟩ : ∃ q, f' = q + 1 := ⟨f' - 1, by omega⟩
      have hB' : BT t k M' := by
        rcases hB with h9 | h9 | ⟨y, y1, y2, y3, y4, y5⟩
        · exact Or.inl h9
        · exact Or.inr (Or.inl h9)
        · by_cases k0 : k = 0
          · exact Or.inr (Or.inl k0)
          · exact Or.inr (Or.inr ⟨y, y1, y2, y3, y4, by rw [gb (k - 1) (by omega)]; exact y5⟩)
      obtain ⟨Mb, b1, b2, b3⟩ := q_behJ hT ht hz hQ hB' hw
      have hTb := TK_p hT b2
      have hT2 : TK n L T l kk v p a R' (kI (kI (kI Mb 39 k (nI (20 + t))) 0 42 (nI (k + 1))) 0 44 (nI 0)) := TK_s hTb (fun j hj => by
        show upd (upd (Mb.1 0) 42 _) 44 _ j = _
        rw [up_ne (by omega), up_ne (by omega)]) rfl rfl
      obtain ⟨R1, M3, l3, k3, v3, p3, a3, x1, x2, x3, x4', x5⟩ := TK_nn2 hT2 hL (by omega)
      have m42 : Mb.1 0 42 = nI k := b3.2.2.2.1.1
      have hbk : k + 0 ≤ 2 * c' := b3.2.1.2.2.1
      have hDs : lpS (fq + 1) (nI 1) M' = lpS fq (nI 1) M3 := by
        show g_X12_sentence_48 (lpS fq) (nI 1) M' = _
        generalize lpS fq = rd
        rw [q_48b h44 (TK_11 hT (by omega)), b1]
        unfold g_X12_behind_70
        simp (disch := omega) only [↓q_m1, q_lit, ↓q_bd, q_lt, Nat.not_lt_zero, false_or, q_cl, show ¬ 45 ≤ k by omega, ↓reduceIte, q_kI, Nat.reduceEqDiff, m42, nI_add, x2, ↓q_bo, ↓q_bo2, n10]
      rw [x1, q_bo, hDs]
      have fMb : MXs M' Mb := MXs_p b2
      have fM2 : MXs Mb (kI (kI (kI Mb 39 k (nI (20 + t))) 0 42 (nI (k + 1))) 0 44 (nI 0)) := MXs_t (MXs_39 Mb k _) (MXs_t (MXs_0 _ 42 _ (by omega)) (MXs_0 _ 44 _ (by omega)))
      have fM3 : MXs M' M3 := MXs_t fMb (MXs_t fM2 (MXs_r' (MXr_of x4')))
      have z2 : SZ nm np c' e' d (k + 1) (δ + 1) [] N' (kI (kI (kI Mb 39 k (nI (20 + t))) 0 42 (nI (k + 1))) 0 44 (nI 0)) := by
        obtain ⟨⟨n0, m41, n1⟩, ⟨c1, c2, c3, c4⟩, ⟨er, her, m40, hse, hpq⟩, ⟨_, m43⟩, hdp⟩ := b3
        exact ⟨⟨n0, m41, n1⟩, ⟨c1, c2, by show k + 1 + 0 ≤ 2 * c'; omega, c4⟩, ⟨er, her, m40, hse, trivial⟩, ⟨rfl, m43⟩, hdp⟩
      have z3 : SZ nm np c' e' d (k + 1) (δ + 1) [] N' M3 := SZ_r z2 (MXr_of x4')
      have f39 : M3.1 39 = upd (Mb.1 39) k (nI (20 + t)) := x4'.2.1 39 (by omega)
      have hB3 : BT (t - 1) (k + 1) M3 := by
        rcases ht with rfl | rfl
        · exact Or.inl rfl
        · refine Or.inr (Or.inr ⟨22, by omega, by omega, by omega, fun h9 => by omega, ?_⟩)
          rw [f39, Nat.add_sub_cancel, up_eq]
      have f44 : M3.1 0 44 = nI 0 := (x4'.1 44 (by omega) (by omega) (by omega) (by omega) (by omega)).trans rfl
      have f15 : M3.1 0 15 = M'.1 0 15 := (x4'.1 15 (by omega) (by omega) (by omega) (by omega) (by omega)).trans (b2.1 15 (by omega) (by omega) (by omega))
      have hit := hI fq c' e' (k + 1) (δ + 1) l3 k3 v3 p3 a3 N' R1 M3 x3 (SH_s hS (MXs_t gM fM3)) z3 f44 (by omega) hB3
      rcases hit with ⟨N4, R4, M4, ee, aa, y1, y2, y3, y4, y5⟩ | ⟨N4, R4, M4, f4, c4, e4, Q4, l4, k4, v4, p4, a4, y1, y2, yte, y3, y4, y5, y6, y7, y8, y9, y10, y11, y12, y13, y14⟩
      · rw [y1, q_bo3, if_pos rfl]
        exact Or.inl ⟨N4, R4, M4, ee, aa, rfl, y2, y3, MRr_t gR (MRr_t (MRr_of x5) y4), MXs_t gM (MXs_t fM3 y5)⟩
      · have hc4 := y6.2.1.1
        have n41 := y6.1.2.2
        rw [y1, q_bo3, if_neg n10, q_kpN n41 (by omega) (by omega), q_bo2, y2]
        have f4k : M4.1 39 k = nI (20 + t) := by
          rw [y12 k (by omega), f39, up_eq]
        have hsn := SZ_snoc (d := d) (δ' := δ + 1) y6 (show 20 ≤ 20 + t ∧ 20 + t ≤ 22 by omega) f4k (by rw [if_neg (by omega)]; rfl) ⟨fun h9 => by omega, fun _ => by omega⟩ (by omega)
        rw [uW_t ht] at hsn
        refine ih (x4 + 1) f4 c4 (e4 + 1) (Q4 ++ [20 + t]) l4 k4 v4 p4 a4 _ R4 M4 (by omega) (by omega) yte ⟨by omega, by omega, by omega, hsn, LQ_j (LQ_up y7 (Nat.sub_le t 1)) (by omega), y8, y9, MRr_t gR (MRr_t (MRr_of x5) y10), MXs_t gM (MXs_t fM3 y11), fun i hi => ?_, ?_, ?_⟩
        · rw [y12 i (by omega), f39, up_ne (by omega), b2.2.1 39 (by omega) (by omega)]
          exact gb i hi
        · rw [y13, x5 9 (by omega) (by omega) (by omega) (by omega) (by omega)]; exact g9
        · rw [y14, f15]; exact g15
    · rw [if_neg hw, if_pos rfl]
      exact Or.inr ⟨N', R', M', f', c', e', Q, l, kk, v, p, a, rfl, rfl, ⟨fun h9 h8 => by
        rcases ht with rfl | rfl
        · exact hw h8
        · exact hte.1 (by omega) h8, fun h9 h8 => by
        rcases ht with rfl | rfl
        · omega
        · exact hw h8⟩, hg0⟩
theorem q_level {n L nm np d t : Nat} {T : Nat → Int32} {O : kD} {fI fJ : Int32 → Nat → kD → kD → kD → (Nat → Int32) → Option (Int32 × kD × kD)} {gg : (Int32 → Int32 → kD → kD → Option (Int32 × kD × kD)) → Int32 → Int32 → kD → kD → Option (Int32 × kD × kD)} (ht : t = 1 ∨ t = 2) (hL : L < 2 ^ 31) (hd : d ≤ 20) (hG : ∀ rc x4 N R, x4 < 2 ^ 31 → gg rc (nI d) (nI x4) N R = Gx t fI O T rc d x4 N R)
    (hJ : ∀ N R, fJ (nI d) 940 N R O T = bo3 (fI (nI d) 940 N R O T) fun v17 Nv18 Rv19 => if v17 = nI 0 then some (nI 0, Nv18, Rv19) else lp (fun _ _ _ _ => none) gg 2000 (nI d) (nI 0) Nv18 Rv19) (hI : IT n L nm np d (t - 1) T O fI) : IT n L nm np d t T O fJ := by
  intro f c e k δ l kk v p a N R M h hS hz h44 hf hB
  have hB1 : BT (t - 1) k M := by
    rcases hB with h9 | h9 | ⟨y, y1, y2, y3, y4, y5⟩
    · exact Or.inl (by omega)
    · exact Or.inr (Or.inl h9)
    · exact Or.inr (Or.inr ⟨y, y1, y2, y3, fun h8 => by omega, y5⟩)
  have hk : k + 0 ≤ 2 * c := hz.2.1.2.2.1
  rw [hJ]
  rcases hI f c e k δ l kk v p a N R M h hS hz h44 hf hB1 with ⟨N4, R4, M4, ee, aa, y1, y2, y3, y4, y5⟩ | ⟨N4, R4, M4, f4, c4, e4, Q4, l4, k4, v4, p4, a4, y1, y2, yte, hg⟩
  · rw [y1, q_bo3, if_pos rfl]
    exact Or.inl ⟨N4, R4, M4, ee, aa, rfl, y2, y3, y4, y5⟩
  · rw [y1, q_bo3, if_neg n10, y2]
    obtain ⟨g1, g2, g3, g4, g5, g6⟩ := hg
    exact q_loop ht hL hd hG hI hS hf hB (by omega) 2000 0 f4 c4 e4 Q4 l4 k4 v4 p4 a4 N4 R4 M4 (by omega) (by omega) yte ⟨g1, g2, g3, g4, LQ_up g5 (Nat.sub_le t 1), g6⟩
theorem q_all {n L nm np d : Nat} {T : Nat → Int32} {O : kD} {fI : Int32 → Nat → kD → kD → kD → (Nat → Int32) → Option (Int32 × kD × kD)} (hL : L < 2 ^ 31) (hd : d ≤ 20) (hI : IT n L nm np d 0 T O fI) : IT n L nm np d 1 T O (F_X8_readAll fI) := by
  refine q_level (gg := g_X8_readAll_15 fI 940 O T) (Or.inl rfl) hL hd (fun rc x4 N R hx => ?_) (fun N R => ?_) hI
  · unfold g_X8_readAll_15 Gx
    simp (disch := omega) only [↓q_m1, q_lit, ↓q_bd, q_le, nI_add, Nat.reduceSub]
  · unfold F_X8_readAll
    simp only [↓q_m1, q_lit]
theorem q_cond {n L nm np d : Nat} {T : Nat → Int32} {O : kD} {fI : Int32 → Nat → kD → kD → kD → (Nat → Int32) → Option (Int32 × kD × kD)} (hL : L < 2 ^ 31) (hd : d ≤ 20) (hI : IT n L nm np d 1 T O fI) : IT n L nm np d 2 T O (F_X8_readCond fI) := by
  refine q_level (gg := g_X8_readCond_15 fI 940 O T) (Or.inr rfl) hL hd (fun rc x4 N R hx => ?_) (fun N R => ?_) hI
  · unfold g_X8_readCond_15 Gx
    simp (disch := omega) only [↓q_m1, q_lit, ↓q_bd, q_le, nI_add, Nat.reduceSub]
  · unfold F_X8_readCond
    simp only [↓q_m1, q_lit]
