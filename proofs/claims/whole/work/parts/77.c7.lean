/-! machine-free: SAID -/
theorem b_or : ∀ a, a < 64 → ∀ b, b < 64 → nI a ||| nI b = nI (a ||| b) ∧ a ||| b < 64 := by decide +kernel
theorem b_and : ∀ a, a < 64 → ∀ b, b < 64 → nI a &&& nI b = nI (a &&& b) ∧ a &&& b < 64 := by decide +kernel
theorem b_msk : ∀ n, n ≤ 6 → (nI 1 <<< (nI n &&& nI 31)) - nI 1 = nI (2 ^ n - 1) := by decide +kernel
theorem b_not1 : ∀ n, n ≤ 6 → ∀ a, a < 64 → a < 2 ^ n → nI (2 ^ n - 1) &&& (nI a ^^^ mI) = nI ((2 ^ n - 1) ^^^ a) := by decide +kernel
theorem b_not (n : Nat) (hn : n ≤ 6) (a : Nat) (h64 : a < 64) (ha : a < 2 ^ n) : nI (2 ^ n - 1) &&& (nI a ^^^ mI) = nI ((2 ^ n - 1) ^^^ a) ∧ (2 ^ n - 1) ^^^ a < 2 ^ n ∧ ∀ m, m < n → ((2 ^ n - 1) ^^^ a).testBit m = !a.testBit m := by
  refine ⟨b_not1 n hn a h64 ha, Nat.xor_lt_two_pow (Nat.sub_lt (Nat.two_pow_pos n) (by omega)) ha, fun m hm => ?_⟩
  rw [Nat.testBit_xor, Nat.testBit_two_pow_sub_one, show decide (m < n) = true from decide_eq_true hm, Bool.true_xor]
theorem q_bb (b : Bool) : vp_nar .boolean (q_b b) = q_b b := by cases b <;> rfl
theorem q_bb0 : vp_nar .boolean (nI 0) = q_b false := rfl
theorem q_bb1 : vp_nar .boolean (nI 1) = q_b true := rfl
theorem q_gb (b : Bool) : ¬ ¬ (q_b b = nI 0 ∨ q_b b = nI 1) := by cases b <;> decide
/-- a leaf of one machine -/
theorem q_leafB {nm np d lt w h B : Nat} {O S N M : kD} (ho : RO nm np O (M.1 6)) (hs : RS nm np d lt w h B S (M.1 6)) {i m u : Nat} (hi : i < 40) (hm : m < nm) (hu : 14 ≤ u ∧ u ≤ 21) {y z : Int32} (h2 : N.1 2 i = nI u) (h3 : N.1 3 i = y) (h4 : N.1 4 i = z) (hq : u = 17 → ∃ q, q < np ∧ z = nI q) (hk : u = 18 → ∃ q, q < nm ∧ z = nI q) (hc : 19 ≤ u → (y = nI 60 ∨ y = nI 61 ∨ y = nI 62) ∧ ∃ v, v ≤ 999 ∧ z = nI v) :
    ∃ b, f_X8_isSo (nI i) (nI m) N O S = some (q_b b) ∧ f_X12_isLeaf (nI m) (nI (cW u)) y z M = some (q_b b) := by
  have hn := ho.1.1
  have hm1 := q_hm hn ho.2.1.2.2.1 hm
  have ecw : cW u = u - 14 := by
    unfold cW
    rw [if_neg (by omega), if_neg (by omega), if_neg (by omega)]
  have hcmp : ∀ t0 : Int32, 19 ≤ u → ∃ b, g_X8_isSo_189 N O S (nI i) t0 = some (q_b b) ∧ g_X12_isLeaf_151 M y z t0 = some (q_b b) := by
    intro t0 hu19
    obtain ⟨hy, _⟩ := hc hu19
    unfold g_X8_isSo_189 g_X12_isLeaf_151
    simp (disch := omega) only [↓q_m1, q_lit, q_lt, Nat.not_lt_zero, false_or, q_cl, show ¬ 40 ≤ i by omega, ↓reduceIte, h3, h4]
    rcases hy with rfl | rfl | rfl
    · rw [if_pos rfl, if_pos rfl]
      by_cases h9 : z ≤ t0
      · rw [if_pos h9]; exact ⟨false, rfl, rfl⟩
      · rw [if_neg h9]; exact ⟨true, rfl, rfl⟩
    · rw [if_neg (show ¬ nI 61 = nI 60 by decide), if_neg (show ¬ nI 61 = nI 62 by decide), if_neg (show ¬ nI 61 = nI 60 by decide), if_pos rfl]
      by_cases h9 : t0 = z
      · rw [if_pos h9]; exact ⟨true, rfl, rfl⟩
      · rw [if_neg h9]; exact ⟨false, rfl, rfl⟩
    · rw [if_neg (show ¬ nI 62 = nI 60 by decide), if_pos rfl, if_neg (show ¬ nI 62 = nI 60 by decide), if_neg (show ¬ nI 62 = nI 61 by decide)]
      by_cases h9 : t0 ≤ z
      · rw [if_pos h9]; exact ⟨false, rfl, rfl⟩
      · rw [if_neg h9]; exact ⟨true, rfl, rfl⟩
  rw [ecw]
  unfold f_X8_isSo f_X12_isLeaf
  simp (disch := omega) only [↓q_m1, q_lit, ↓q_bd, q_lt, q_le, Nat.not_lt_zero, false_or, q_cl, show ¬ 40 ≤ i by omega, ↓reduceIte, hm1, q_10, h2, h4, show ¬ 22 ≤ u by omega, q_eq, show ¬ 6 ≤ m by omega, nI_add, pk_mul, show ¬ 279 ≤ 44 + m by omega, show ¬ 279 ≤ 50 + m by omega]
  have hcase : u = 14 ∨ u = 15 ∨ u = 16 ∨ u = 17 ∨ u = 18 ∨ u = 19 ∨ u = 20 ∨ u = 21 := by omega
  rcases hcase with rfl | rfl | rfl | rfl | rfl | rfl | rfl | rfl
  · obtain ⟨b1, b2⟩ := q_held hs hn hm
    simp only [Nat.reduceSub, Nat.reduceEqDiff, ↓reduceIte]
    rw [b1, b2, q_bo, if_neg (q_gb _)]
    exact ⟨_, rfl, rfl⟩
  · have h41 : M.1 6 41 = nI w := hs.2.1.2.2.2.2.2.1
    have hsw : S.1 0 2 = nI w - nI 1 := hs.2.1.2.2.2.2.1
    have hw := hs.1.2.2.1
    simp only [Nat.reduceSub, Nat.reduceEqDiff, ↓reduceIte]
    rw [h41, hsw]
    by_cases hw0 : w = 0
    · subst hw0
      rw [q_0m1, if_neg (by rw [q_neg' m (by omega)]; exact id), if_neg (by rw [q_eq (by omega) (by omega)]; omega)]
      exact ⟨false, rfl, rfl⟩
    · rw [q_sub (by omega)]
      by_cases hwm : w = m + 1
      · rw [if_pos (show nI (w - 1) = nI m by rw [q_eq (by omega) (by omega)]; omega), if_pos (by rw [hwm])]
        exact ⟨true, rfl, rfl⟩
      · rw [if_neg (show ¬ nI (w - 1) = nI m by rw [q_eq (by omega) (by omega)]; omega), if_neg (by rw [q_eq (by omega) (by omega)]; exact hwm)]
        exact ⟨false, rfl, rfl⟩
  · obtain ⟨p, p1, p2, -⟩ := q_could ho hs hm
    simp only [Nat.reduceSub, Nat.reduceEqDiff, ↓reduceIte]
    rw [p1, p2, q_bo]
    by_cases h9 : nI (stO p np) = nI 0
    · rw [if_pos h9]; exact ⟨true, rfl, rfl⟩
    · rw [if_neg h9]; exact ⟨false, rfl, rfl⟩
  · obtain ⟨q, hq1, rfl⟩ := hq rfl
    obtain ⟨v, hv, v1, v2, -⟩ := q_why ho hs hm hq1
    simp only [Nat.reduceSub, Nat.reduceEqDiff, ↓reduceIte]
    rw [v1, v2, q_bo]
    by_cases h9 : nI v = nI 0
    · rw [if_pos h9]; exact ⟨true, rfl, rfl⟩
    · rw [if_neg h9]; exact ⟨false, rfl, rfl⟩
  · obtain ⟨q, hq1, rfl⟩ := hk rfl
    have hdb := (hs.2.2.2.2.2 (m * 6 + q) (by omega)).1
    rw [show 62 + (m * 6 + q) = 62 + 6 * m + q by omega] at hdb
    simp only [Nat.reduceSub, Nat.reduceEqDiff, ↓reduceIte]
    rw [q_debt S (show m < 6 by omega) (show q < 6 by omega), q_bo, hdb]
    simp (disch := omega) only [nI_add, q_lt, Nat.not_lt_zero, false_or, q_cl, show ¬ 279 ≤ 62 + 6 * m + q by omega, ↓reduceIte]
    by_cases h9 : M.1 6 (62 + 6 * m + q) ≤ nI 0
    · rw [if_pos h9]; exact ⟨false, rfl, rfl⟩
    · rw [if_neg h9]; exact ⟨true, rfl, rfl⟩
  · obtain ⟨v, _, v1, v2⟩ := hs.2.2.1 m hm
    simp only [Nat.reduceSub, Nat.reduceEqDiff, ↓reduceIte]
    rw [v1, v2]
    exact hcmp _ (by omega)
  · obtain ⟨v, _, v1, v2, _⟩ := hs.2.2.2.1 m (by omega)
    simp only [Nat.reduceSub, Nat.reduceEqDiff, ↓reduceIte]
    rw [v1, v2]
    exact hcmp _ (by omega)
  · simp only [Nat.reduceSub, Nat.reduceEqDiff, ↓reduceIte]
    exact hcmp _ (by omega)
/-- the machines of which a leaf is so -/
theorem q_plainOf {nm i : Nat} {O S N : kD} (hn : nm ≤ 6) (h1 : O.1 0 1 = nI nm) (p : Nat → Bool) (hp : ∀ m, m < nm → f_X8_isSo (nI i) (nI m) N O S = some (q_b (p m))) : f_X8_machinesOfPlain (nI i) N O S = some (nI (stO p nm)) := by
  refine q_set (fun f k x => lp (fun _ _ _ => none) (g_X8_machinesOfPlain_6 N O S) f (nI i) (nI x) (nI k)) p nm (fun x => some (nI x)) ?_ ?_ 2000 (by omega)
  · intro f k x hk hx
    simp only [q_lp]
    generalize lp _ (g_X8_machinesOfPlain_6 N O S) f = rc
    unfold g_X8_machinesOfPlain_6 g_X8_machinesOfPlain_36
    simp (disch := omega) only [↓q_m1, q_lit, ↓q_bd, h1, q_le, show ¬ nm ≤ k by omega, ↓reduceIte, hp k hk, ↓q_bo, q_qb, nI_add]
    cases p k with
    | false => simp only [↓reduceIte, Bool.false_eq_true]
    | true => simp only [Bool.true_eq_false, ↓reduceIte]; rw [q_or x (q_pow (show k ≤ 8 by omega) hx) k (by omega)]
  · intro f x
    simp only [q_lp]
    generalize lp _ (g_X8_machinesOfPlain_6 N O S) f = rc
    unfold g_X8_machinesOfPlain_6
    simp (disch := omega) only [↓q_m1, q_lit, h1, q_le, Nat.le_refl, ↓reduceIte]
/-- the values on both stacks -/
def VS (nm D : Nat) (x : Nat → Int32) (y : Nat → Nat → Int32) : Prop := ∀ j, j < D → ∃ v, v < 2 ^ nm ∧ x j = nI v ∧ ∀ m, m < nm → y m j = q_b (v.testBit m)
theorem VS_put {nm D v : Nat} {x : Nat → Int32} {y : Nat → Nat → Int32} (h : VS nm D x y) (j : Nat) (hj : j ≤ D) (hv : v < 2 ^ nm) (Y : Nat → Int32) (hY : ∀ m, m < nm → Y m = q_b (v.testBit m)) : VS nm (j + 1) (upd x j (nI v)) (fun m => upd (y m) j (Y m)) := by
  intro i hi
  by_cases hij : i = j
  · subst hij
    exact ⟨v, hv, up_eq, fun m hm => by show upd (y m) i (Y m) i = _; rw [up_eq]; exact hY m hm⟩
  · obtain ⟨w, w1, w2, w3⟩ := h i (by omega)
    refine ⟨w, w1, by rw [up_ne hij]; exact w2, fun m hm => ?_⟩
    show upd (y m) j (Y m) i = _
    rw [up_ne hij]; exact w3 m hm
theorem q_machines {nm np d lt w h B e : Nat} {O S N M : kD} (ho : RO nm np O (M.1 6)) (hs : RS nm np d lt w h B S (M.1 6)) (he : e ≤ 40) (n1 : N.1 0 1 = nI e) (s98 : M.1 6 98 = nI e) (hse : ∀ i, i < e → SE nm np (N.1 2 i) (N.1 3 i) (N.1 4 i) (M.1 6 (99 + 3 * i)) (M.1 6 (99 + 3 * i + 1)) (M.1 6 (99 + 3 * i + 2))) (hd1 : dpW (N.1 2) e = 1) (hok : ∀ i, i < e → okW (N.1 2) i) (M0 : Nat → Nat → Int32) :
    ∃ V x, V < 2 ^ nm ∧ f_X8_machinesOf N O S = some (nI V, kSI N 5 x) ∧ ∀ m, m < nm → ∃ t, f_X12_isSaid (nI m) (kSI M 45 (M0 m)) = some (q_b (V.testBit m), kSI M 45 t) := by
  have hn := ho.1.1
  have ho1 : O.1 0 1 = nI nm := ho.2.1.2.2.1
  have key := q_two (fun f k (x : Nat → Int32) => lp (fun _ _ _ _ => none) (g_X8_machinesOf_15 O S) f (nI (2 ^ nm - 1)) (nI (dpW (N.1 2) k)) (nI k) (kSI N 5 x)) (fun g k (y : Nat → Nat → Int32) => fun m => lp (fun _ _ _ _ => none) g_X12_isSaid_4 g (nI m) (nI (dpW (N.1 2) k)) (nI k) (kSI M 45 (y m)))
    (fun k x y => dpW (N.1 2) k ≤ 20 ∧ VS nm (dpW (N.1 2) k) x y)
    (fun r1 r2 => ∃ V x, V < 2 ^ nm ∧ r1 = some (nI V, kSI N 5 x) ∧ ∀ m, m < nm → ∃ t, r2 m = some (q_b (V.testBit m), kSI M 45 t)) e ?_ ?_ e 0 2000 2000 (N.1 5) M0 (by omega) (by omega) (by omega) ⟨Nat.zero_le _, fun j hj => absurd hj (Nat.not_lt_zero j)⟩
  · obtain ⟨V, x, k1, k2, k3⟩ := key
    refine ⟨V, x, k1, ?_, k3⟩
    unfold f_X8_machinesOf
    simp (disch := omega) only [↓q_m1, q_lit, ↓q_bd, ho1, b_msk nm hn]
    rw [q_SM] at k2
    exact k2
  · intro f g k x y _ _ hk ⟨hD, hv⟩ ih
    obtain ⟨u, u1, u2, u3, u4, u5, u6, u7, u8, u9⟩ := hse k hk
    obtain ⟨w1, w2, w3⟩ := hok k hk
    have ed : dpW (N.1 2) (k + 1) = dpS (nI u) (dpW (N.1 2) k) := by
      show dpS (N.1 2 k) _ = _
      rw [u3]
    rw [u3] at w1 w2
    rw [ed] at ih w3
    generalize dpW (N.1 2) k = D at *
    simp only [q_lp]
    generalize lp _ (g_X8_machinesOf_15 O S) f = rc at ih ⊢
    generalize lp _ g_X12_isSaid_4 g = rd at ih ⊢
    have hx2 : ∀ x, (kSI N 5 x).1 2 k = nI u := fun x => u3
    have hx01 : ∀ x, (kSI N 5 x).1 0 1 = nI e := fun x => n1
    have h204 : ∀ m D' Z, g_X12_isSaid_204 rd (nI m) (nI D') (nI k) Z = rd (nI m) (nI D') (nI (k + 1)) Z := by
      intro m D' Z
      unfold g_X12_isSaid_204
      simp only [↓q_m1, q_lit, ↓q_bd, nI_add]
    have h188 : ∀ D' Z, g_X8_machinesOf_188 rc O S (nI (2 ^ nm - 1)) (nI D') (nI k) Z = rc (nI (2 ^ nm - 1)) (nI D') (nI (k + 1)) Z := by
      intro D' Z
      unfold g_X8_machinesOf_188
      simp only [↓q_m1, q_lit, ↓q_bd, nI_add]
    have s698 : ∀ t, (kSI M 45 t).1 6 98 = nI e := fun t => s98
    have s6a : ∀ t, (kSI M 45 t).1 6 (99 + 3 * k) = nI (cW u) := fun t => u4
    have s6b : ∀ t, (kSI M 45 t).1 6 (99 + 3 * k + 1) = N.1 3 k := fun t => u5.symm
    have s6c : ∀ t, (kSI M 45 t).1 6 (99 + 3 * k + 2) = N.1 4 k := fun t => u6.symm
    by_cases h13 : u = 13
    · -- not
      subst h13
      have hD1 : 1 ≤ D := w2 rfl
      obtain ⟨v, v1, v2, v3⟩ := hv (D - 1) (by omega)
      have hv64 : v < 64 := q_h64 hn v1
      obtain ⟨b1, b2, b3⟩ := b_not nm hn v hv64 v1
      have eD : dpS (nI 13) D = D := rfl
      rw [eD] at ih
      have hp := VS_put hv (D - 1) (by omega) b2 (fun m => q_b (!v.testBit m)) (fun m hm => by rw [b3 m hm])
      rw [show D - 1 + 1 = D by omega] at hp
      have hih := ih (upd x (D - 1) (nI ((2 ^ nm - 1) ^^^ v))) _ ⟨hD, hp⟩
      have hC : g_X8_machinesOf_15 O S rc (nI (2 ^ nm - 1)) (nI D) (nI k) (kSI N 5 x) = rc (nI (2 ^ nm - 1)) (nI D) (nI (k + 1)) (kSI N 5 (upd x (D - 1) (nI ((2 ^ nm - 1) ^^^ v)))) := by
        unfold g_X8_machinesOf_15
        simp (disch := omega) only [↓q_m1, q_lit, ↓q_bd, hx01, hx2, q_le, show ¬ e ≤ k by omega, show ¬ 40 ≤ k by omega, ↓reduceIte, q_lt, Nat.not_lt_zero, false_or, q_cl, Nat.reduceLeDiff, q_eq, show ¬ D < 1 by omega, q_sub, show ¬ 20 ≤ D - 1 by omega, q_kSI, v2, b1, q_SI, h188]
      have hM : (fun m => g_X12_isSaid_4 rd (nI m) (nI D) (nI k) (kSI M 45 (y m))) = fun m => if m < nm then rd (nI m) (nI D) (nI (k + 1)) (kSI M 45 (upd (y m) (D - 1) (q_b (!v.testBit m)))) else g_X12_isSaid_4 rd (nI m) (nI D) (nI k) (kSI M 45 (y m)) := by
        funext m
        by_cases hm : m < nm
        · rw [if_pos hm]
          unfold g_X12_isSaid_4 g_X12_isSaid_58
          have e13 : cW 13 = 20 := rfl
          simp (disch := omega) only [↓q_m1, q_lit, ↓q_bd, s698, q_le, show ¬ e ≤ k by omega, ↓reduceIte, pk_mul, nI_add, q_lt, Nat.not_lt_zero, false_or, q_cl, show ¬ 279 ≤ 99 + 3 * k by omega, s6a, e13, q_sub, show ¬ 45 ≤ D - 1 by omega, q_kSI, v3 m hm, q_qb, h204, q_bb0, q_bb1, q_SI]
          cases v.testBit m with
          | false => simp only [↓reduceIte, Bool.not_false]
          | true => simp only [Bool.true_eq_false, ↓reduceIte, Bool.not_true]
        · rw [if_neg hm]
      rw [hC]
      obtain ⟨V, x', k1, k2, k3⟩ := hih
      exact ⟨V, x', k1, k2, fun m hm => by
        obtain ⟨t, ht⟩ := k3 m hm
        exact ⟨t, Eq.trans (congrFun hM m) (by show (if m < nm then _ else _) = _; rw [if_pos hm]; exact ht)⟩⟩
    · by_cases h12 : u = 11 ∨ u = 12
      · -- and, or
        have hD2 : 2 ≤ D := w1 (by rcases h12 with rfl | rfl; exact Or.inl rfl; exact Or.inr rfl)
        obtain ⟨v, v1, v2, v3⟩ := hv (D - 1) (by omega)
        obtain ⟨v', v1', v2', v3'⟩ := hv (D - 2) (by omega)
        have hv64 : v < 64 := q_h64 hn v1
        have hv64' : v' < 64 := q_h64 hn v1'
        have eD : dpS (nI u) D = D - 1 := by
          rcases h12 with rfl | rfl <;> rfl
        rw [eD] at ih
        -- the value
        obtain ⟨z, z1, z2, z3⟩ : ∃ z, z < 2 ^ nm ∧ (∀ rc', g_X8_machinesOf_15 O S rc' (nI (2 ^ nm - 1)) (nI D) (nI k) (kSI N 5 x) = g_X8_machinesOf_188 rc' O S (nI (2 ^ nm - 1)) (nI (D - 1)) (nI k) (kSI N 5 (upd x (D - 2) (nI z)))) ∧ ∀ m, m < nm → z.testBit m = if u = 12 then v'.testBit m && v.testBit m else v'.testBit m || v.testBit m := by
          have hm1 : nI D + mI = nI (D - 1) := by
            rw [← q_sub (show 1 ≤ D by omega), Int32.sub_eq_add_neg]; rfl
          rcases h12 with rfl | rfl
          · obtain ⟨c1, c2⟩ := b_or v' hv64' v hv64
            refine ⟨v' ||| v, Nat.or_lt_two_pow v1' v1, fun rc' => ?_, fun m hm => by rw [if_neg (by omega), Nat.testBit_or]⟩
            unfold g_X8_machinesOf_15 g_X8_machinesOf_82 g_X8_machinesOf_121
            simp (disch := omega) only [↓q_m1, q_lit, ↓q_bd, hx01, hx2, q_le, show ¬ e ≤ k by omega, show ¬ 40 ≤ k by omega, ↓reduceIte, q_lt, Nat.not_lt_zero, false_or, q_cl, Nat.reduceLeDiff, q_eq, Nat.reduceEqDiff, show ¬ D < 2 by omega, hm1, q_sub, show D - 1 - 1 = D - 2 by omega, show ¬ 20 ≤ D - 1 by omega, show ¬ 20 ≤ D - 2 by omega, q_kSI, v2, v2', c1, q_SI]
          · obtain ⟨c1, c2⟩ := b_and v' hv64' v hv64
            refine ⟨v' &&& v, Nat.lt_of_le_of_lt Nat.and_le_left v1', fun rc' => ?_, fun m hm => by rw [if_pos rfl, Nat.testBit_and]⟩
            unfold g_X8_machinesOf_15 g_X8_machinesOf_82
            simp (disch := omega) only [↓q_m1, q_lit, ↓q_bd, hx01, hx2, q_le, show ¬ e ≤ k by omega, show ¬ 40 ≤ k by omega, ↓reduceIte, q_lt, Nat.not_lt_zero, false_or, q_cl, Nat.reduceLeDiff, q_eq, Nat.reduceEqDiff, show ¬ D < 2 by omega, hm1, q_sub, show D - 1 - 1 = D - 2 by omega, show ¬ 20 ≤ D - 1 by omega, show ¬ 20 ≤ D - 2 by omega, q_kSI, v2, v2', c1, q_SI]
        have hp := VS_put hv (D - 2) (by omega) z1 (fun m => q_b (z.testBit m)) (fun m hm => rfl)
        rw [show D - 2 + 1 = D - 1 by omega] at hp
        have hih := ih (upd x (D - 2) (nI z)) _ ⟨by omega, hp⟩
        have hM : (fun m => g_X12_isSaid_4 rd (nI m) (nI D) (nI k) (kSI M 45 (y m))) = fun m => if m < nm then rd (nI m) (nI (D - 1)) (nI (k + 1)) (kSI M 45 (upd (y m) (D - 2) (q_b (z.testBit m)))) else g_X12_isSaid_4 rd (nI m) (nI D) (nI k) (kSI M 45 (y m)) := by
          funext m
          by_cases hm : m < nm
          · have hm1 : nI D + mI = nI (D - 1) := by
              rw [← q_sub (show 1 ≤ D by omega), Int32.sub_eq_add_neg]; rfl
            rw [if_pos hm, z3 m hm]
            unfold g_X12_isSaid_4 g_X12_isSaid_86 g_X12_isSaid_132 g_X12_isSaid_156 g_X12_isSaid_161
            have e11 : cW 11 = 22 := rfl
            have e12 : cW 12 = 21 := rfl
            rcases h12 with rfl | rfl
            · simp (disch := omega) only [↓q_m1, q_lit, ↓q_bd, s698, q_le, show ¬ e ≤ k by omega, ↓reduceIte, pk_mul, nI_add, q_lt, Nat.not_lt_zero, false_or, q_cl, show ¬ 279 ≤ 99 + 3 * k by omega, s6a, e11, q_eq, Nat.reduceEqDiff, hm1, q_sub, show D - 1 - 1 = D - 2 by omega, show ¬ 45 ≤ D - 1 by omega, show ¬ 45 ≤ D - 2 by omega, q_kSI, v3 m hm, v3' m hm, q_qb, h204, q_bb0, q_bb1, q_SI]
              cases v'.testBit m <;> cases v.testBit m <;> simp only [Bool.true_eq_false, ↓reduceIte, Bool.or_false, Bool.or_true, Bool.false_or, Bool.true_or]
            · simp (disch := omega) only [↓q_m1, q_lit, ↓q_bd, s698, q_le, show ¬ e ≤ k by omega, ↓reduceIte, pk_mul, nI_add, q_lt, Nat.not_lt_zero, false_or, q_cl, show ¬ 279 ≤ 99 + 3 * k by omega, s6a, e12, q_eq, Nat.reduceEqDiff, hm1, q_sub, show D - 1 - 1 = D - 2 by omega, show ¬ 45 ≤ D - 1 by omega, show ¬ 45 ≤ D - 2 by omega, q_kSI, v3 m hm, v3' m hm, q_qb, h204, q_bb0, q_bb1, q_SI]
              cases v'.testBit m <;> cases v.testBit m <;> simp only [Bool.true_eq_false, ↓reduceIte, Bool.and_false, Bool.and_true, Bool.false_and, Bool.true_and]
          · rw [if_neg hm]
        rw [z2 rc, h188]
        obtain ⟨V, x', k1, k2, k3⟩ := hih
        exact ⟨V, x', k1, k2, fun m hm => by
          obtain ⟨t, ht⟩ := k3 m hm
          exact ⟨t, Eq.trans (congrFun hM m) (by show (if m < nm then _ else _) = _; rw [if_pos hm]; exact ht)⟩⟩
      · -- a leaf
        have hu : 14 ≤ u ∧ u ≤ 21 := by omega
        have eD : dpS (nI u) D = D + 1 := by
          unfold dpS
          simp (disch := omega) only [q_eq, show ¬ u = 11 by omega, show ¬ u = 12 by omega, show ¬ u = 13 by omega, false_or, ↓reduceIte]
        rw [eD] at ih w3
        have ecw : cW u = u - 14 := by
          unfold cW
          rw [if_neg (by omega), if_neg (by omega), if_neg (by omega)]
        have hlf : ∀ m, m < nm → ∃ b, f_X8_isSo (nI k) (nI m) (kSI N 5 x) O S = some (q_b b) ∧ ∀ t, f_X12_isLeaf (nI m) (nI (cW u)) (N.1 3 k) (N.1 4 k) (kSI M 45 t) = some (q_b b) := by
          intro m hm
          obtain ⟨b, b1, b2⟩ := q_leafB (N := kSI N 5 x) (M := M) ho hs (show k < 40 by omega) hm hu u3 (y := N.1 3 k) (z := N.1 4 k) rfl rfl (fun h9 => by rw [u6]; exact u7 h9) (fun h9 => by rw [u6]; exact u8 h9) (fun h9 => by rw [u5, u6]; exact u9 h9)
          refine ⟨b, b1, fun t => ?_⟩
          obtain ⟨b', c1, c2⟩ := q_leafB (N := kSI N 5 x) (M := kSI M 45 t) ho hs (show k < 40 by omega) hm hu u3 (y := N.1 3 k) (z := N.1 4 k) rfl rfl (fun h9 => by rw [u6]; exact u7 h9) (fun h9 => by rw [u6]; exact u8 h9) (fun h9 => by rw [u5, u6]; exact u9 h9)
          rw [b1] at c1
          rw [c2]
          exact c1.symm
        have hpc : ∃ p : Nat → Bool, ∀ m, m < nm → f_X8_isSo (nI k) (nI m) (kSI N 5 x) O S = some (q_b (p m)) ∧ ∀ t, f_X12_isLeaf (nI m) (nI (cW u)) (N.1 3 k) (N.1 4 k) (kSI M 45 t) = some (q_b (p m)) := by
          refine ⟨fun m => decide (f_X8_isSo (nI k) (nI m) (kSI N 5 x) O S = some (nI 1)), fun m hm => ?_⟩
          obtain ⟨b, b1, b2⟩ := hlf m hm
          have : decide (f_X8_isSo (nI k) (nI m) (kSI N 5 x) O S = some (nI 1)) = b := by
            rw [b1]
            cases b with
            | false => exact decide_eq_false (by decide)
            | true => exact decide_eq_true rfl
          show f_X8_isSo (nI k) (nI m) (kSI N 5 x) O S = some (q_b (decide (f_X8_isSo (nI k) (nI m) (kSI N 5 x) O S = some (nI 1)))) ∧ ∀ t, f_X12_isLeaf (nI m) (nI (cW u)) (N.1 3 k) (N.1 4 k) (kSI M 45 t) = some (q_b (decide (f_X8_isSo (nI k) (nI m) (kSI N 5 x) O S = some (nI 1))))
          rw [this]
          exact ⟨b1, b2⟩
        obtain ⟨p, hp⟩ := hpc
        have hpo := q_plainOf (i := k) (N := kSI N 5 x) (S := S) hn ho1 p (fun m hm => (hp m hm).1)
        have hz := stO_lt p nm
        have hpv := VS_put hv D (Nat.le_refl D) hz (fun m => q_b (p m)) (fun m hm => by rw [stO_bit, show decide (m < nm) = true from decide_eq_true hm, Bool.true_and])
        have hih := ih (upd x D (nI (stO p nm))) _ ⟨w3, hpv⟩
        have hC : g_X8_machinesOf_15 O S rc (nI (2 ^ nm - 1)) (nI D) (nI k) (kSI N 5 x) = rc (nI (2 ^ nm - 1)) (nI (D + 1)) (nI (k + 1)) (kSI N 5 (upd x D (nI (stO p nm)))) := by
          unfold g_X8_machinesOf_15 g_X8_machinesOf_82 g_X8_machinesOf_121 g_X8_machinesOf_160
          simp (disch := omega) only [↓q_m1, q_lit, ↓q_bd, hx01, hx2, q_le, show ¬ e ≤ k by omega, show ¬ 40 ≤ k by omega, ↓reduceIte, q_lt, Nat.not_lt_zero, false_or, q_cl, show ¬ 22 ≤ u by omega, q_eq, show ¬ u = 13 by omega, show ¬ u = 12 by omega, show ¬ u = 11 by omega, show ¬ 20 ≤ D by omega, hpo, ↓q_bo, q_SI, h188, nI_add]
        have hM : (fun m => g_X12_isSaid_4 rd (nI m) (nI D) (nI k) (kSI M 45 (y m))) = fun m => if m < nm then rd (nI m) (nI (D + 1)) (nI (k + 1)) (kSI M 45 (upd (y m) D (q_b (p m)))) else g_X12_isSaid_4 rd (nI m) (nI D) (nI k) (kSI M 45 (y m)) := by
          funext m
          by_cases hm : m < nm
          · rw [if_pos hm]
            have hle := (hp m hm).2 (y m)
            unfold g_X12_isSaid_4
            simp (disch := omega) only [↓q_m1, q_lit, ↓q_bd, s698, q_le, show ¬ e ≤ k by omega, ↓reduceIte, pk_mul, nI_add, q_lt, Nat.not_lt_zero, false_or, q_cl, show ¬ 279 ≤ 99 + 3 * k by omega, show ¬ 279 ≤ 99 + 3 * k + 1 by omega, show ¬ 279 ≤ 99 + 3 * k + 2 by omega, s6a, s6b, s6c, q_eq, show ¬ cW u = 20 by omega, show ¬ cW u = 21 by omega, show ¬ cW u = 22 by omega, hle, ↓q_bo, show ¬ 45 ≤ D by omega, q_bb, h204, q_SI]
          · rw [if_neg hm]
        rw [hC]
        obtain ⟨V, x', k1, k2, k3⟩ := hih
        exact ⟨V, x', k1, k2, fun m hm => by
          obtain ⟨t, ht⟩ := k3 m hm
          exact ⟨t, Eq.trans (congrFun hM m) (by show (if m < nm then _ else _) = _; rw [if_pos hm]; exact ht)⟩⟩
  · intro f g x y ⟨_, hv⟩
    rw [hd1] at *
    obtain ⟨v, v1, v2, v3⟩ := hv 0 (by omega)
    refine ⟨v, x, v1, ?_, fun m hm => ⟨y m, ?_⟩⟩
    · simp only [q_lp]
      generalize lp _ (g_X8_machinesOf_15 O S) f = rc
      unfold g_X8_machinesOf_15 g_X8_machinesOf_194
      simp (disch := omega) only [↓q_m1, q_lit, q_kSI, Nat.reduceEqDiff, ↓reduceIte, n1, q_le, Nat.le_refl, show ¬ 1 ≤ 0 by omega, q_cl, v2]
    · simp only [q_lp]
      generalize lp _ g_X12_isSaid_4 g = rd
      unfold g_X12_isSaid_4 g_X12_isSaid_210
      have s698 : (kSI M 45 (y m)).1 6 98 = nI e := s98
      simp (disch := omega) only [↓q_m1, q_lit, s698, q_cl, q_le, Nat.le_refl, ↓reduceIte, q_kSI, v3 m hm]
      rw [if_neg (q_gb _)]
