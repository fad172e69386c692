/-! machine-free: comes, the class's measure -/
def BPost (g : Nat) (c : Nat → Bool) (E : Nat → Nat → Bool) (O S P : kD) (r : Option kD) : Prop := ∃ (V Q : Nat → Nat) (a b : Nat → Int32) (n : Nat), r = g_X5_measure_66 O S (nI n) (mkP P a b) ∧ BI g c E V Q n 0 0 ∧ (∀ y, y < 48 → a y = nI (V y) - nI 1) ∧ (∀ j, j < n → b j = nI (Q j))
theorem q_measure {g nm np d lt w h B : Nat} {O S M P : kD} (ho : RO nm np O (M.1 6)) (hs : RS nm np d lt w h B S (M.1 6)) (hg : g < 8) :
    ∃ (V : Nat → Nat) (a b : Nat → Int32), f_X5_measure (nI g) P O S = some (mkP P a b) ∧ (∀ y, y < 48 → a y = nI (V y) - nI 1 ∧ V y < 1000) ∧
      ∀ x, x < 48 → (V x ≠ 0 → cBw nm h O x = true ∧ isMd g (cE nm h O (M.1 6)) x (V x - 1)) ∧ (cBw nm h O x = true → ∀ m, PP g (cE nm h O (M.1 6)) m x → V x ≠ 0 ∧ V x ≤ m + 1) := by
  have hEc : ∀ x y, cE nm h O (M.1 6) x y = true → cBw nm h O y = true := by
    intro x y hE
    unfold cE at hE
    rw [Bool.and_eq_true] at hE
    exact hE.1
  have run : ∀ (V Q : Nat → Nat) (a b : Nat → Int32) (n : Nat), BI g (cBw nm h O) (cE nm h O (M.1 6)) V Q n 0 0 → (∀ y, y < 48 → a y = nI (V y) - nI 1) → (∀ j, j < n → b j = nI (Q j)) →
      ∃ (V2 Q2 : Nat → Nat) (a2 b2 : Nat → Int32) (n2 : Nat), g_X5_measure_66 O S (nI n) (mkP P a b) = some (mkP P a2 b2) ∧ BI g (cBw nm h O) (cE nm h O (M.1 6)) V2 Q2 n2 n2 0 ∧ (∀ y, y < 48 → a2 y = nI (V2 y) - nI 1) := by
    intro V Q a b n hI ha hb
    unfold g_X5_measure_66
    simp only [↓q_m1, q_lit]
    -- outer: i
    have outer : ∀ (r i : Nat) (f : Nat) (V Q : Nat → Nat) (a b : Nat → Int32) (n : Nat), i + r = 48 → r < f → i ≤ n → BI g (cBw nm h O) (cE nm h O (M.1 6)) V Q n i 0 → (∀ y, y < 48 → a y = nI (V y) - nI 1) → (∀ j, j < n → b j = nI (Q j)) →
        ∃ (V2 Q2 : Nat → Nat) (a2 b2 : Nat → Int32) (n2 : Nat), lp (fun _ _ _ => none) (g_X5_measure_69 O S) f (nI n) (nI i) (mkP P a b) = some (mkP P a2 b2) ∧ BI g (cBw nm h O) (cE nm h O (M.1 6)) V2 Q2 n2 n2 0 ∧ (∀ y, y < 48 → a2 y = nI (V2 y) - nI 1) := by
      intro r
      induction r with
      | zero =>
        intro i f V Q a b n hi hf hin hI ha hb
        obtain ⟨f, rfl⟩ : ∃ q, f = q + 1 := ⟨f - 1, by omega⟩
        have hn48 := BI_n hI
        have hin2 : i = n := by omega
        subst hin2
        refine ⟨V, Q, a, b, i, ?_, hI, ha⟩
        rw [q_lp]
        generalize lp _ (g_X5_measure_69 O S) f = rc
        unfold g_X5_measure_69
        simp (disch := omega) only [↓q_m1, q_lit, ↓reduceIte, q_le, Nat.le_refl]
      | succ r ihr =>
        intro i f V Q a b n hi hf hin hI ha hb
        obtain ⟨f, rfl⟩ : ∃ q, f = q + 1 := ⟨f - 1, by omega⟩
        have hn48 := BI_n hI
        by_cases hin2 : i = n
        · subst hin2
          refine ⟨V, Q, a, b, i, ?_, hI, ha⟩
          rw [q_lp]
          generalize lp _ (g_X5_measure_69 O S) f = rc
          unfold g_X5_measure_69
          simp (disch := omega) only [↓q_m1, q_lit, ↓reduceIte, q_le, Nat.le_refl]
        · have hilt : i < n := by omega
          have hQi := hI.2.1 i hilt
          have h69 : g_X5_measure_69 O S (lp (fun _ _ _ => none) (g_X5_measure_69 O S) f) (nI n) (nI i) (mkP P a b) = lp (fun _ _ _ _ _ => none) (g_X5_measure_95 (lp (fun _ _ _ => none) (g_X5_measure_69 O S) f) O S) 2000 (nI n) (nI i) (nI (Q i)) (nI 0) (mkP P a b) := by
            generalize lp _ (g_X5_measure_69 O S) f = rc
            unfold g_X5_measure_69
            simp (disch := omega) only [↓q_m1, q_lit, ↓q_bd, ↓reduceIte, q_le, show ¬ n ≤ i by omega, show ¬ 48 ≤ i by omega, q_lt, q_cl, Nat.not_lt_zero, false_or, mkP_1, hb i hilt]
          rw [q_lp, h69]
          have hdone : ∀ (V Q : Nat → Nat) (a b : Nat → Int32) (n : Nat), i < n → BI g (cBw nm h O) (cE nm h O (M.1 6)) V Q n i 48 → (∀ y, y < 48 → a y = nI (V y) - nI 1) → (∀ j, j < n → b j = nI (Q j)) →
              ∃ (V2 Q2 : Nat → Nat) (a2 b2 : Nat → Int32) (n2 : Nat), g_X5_measure_183 (lp (fun _ _ _ => none) (g_X5_measure_69 O S) f) O S (nI n) (nI i) (mkP P a b) = some (mkP P a2 b2) ∧ BI g (cBw nm h O) (cE nm h O (M.1 6)) V2 Q2 n2 n2 0 ∧ (∀ y, y < 48 → a2 y = nI (V2 y) - nI 1) := by
            intro V Q a b n hin hI ha hb
            unfold g_X5_measure_183
            simp only [↓q_m1, q_lit, ↓q_bd, nI_add]
            exact ihr (i + 1) f V Q a b n (by omega) (by omega) (by omega) (BI_next hI hin) ha hb
          generalize lp _ (g_X5_measure_69 O S) f = rc at hdone ⊢
          refine q_one (fun f2 z (t : (Nat → Nat) × (Nat → Nat) × (Nat → Int32) × (Nat → Int32) × Nat) => lp (fun _ _ _ _ _ => none) (g_X5_measure_95 rc O S) f2 (nI t.2.2.2.2) (nI i) (nI (Q i)) (nI z) (mkP P t.2.2.1 t.2.2.2.1))
            (fun z t => i < t.2.2.2.2 ∧ BI g (cBw nm h O) (cE nm h O (M.1 6)) t.1 t.2.1 t.2.2.2.2 i z ∧ (∀ y, y < 48 → t.2.2.1 y = nI (t.1 y) - nI 1) ∧ (∀ j, j < t.2.2.2.2 → t.2.2.2.1 j = nI (t.2.1 j)) ∧ t.2.1 i = Q i)
            (fun r => ∃ (V2 Q2 : Nat → Nat) (a2 b2 : Nat → Int32) (n2 : Nat), r = some (mkP P a2 b2) ∧ BI g (cBw nm h O) (cE nm h O (M.1 6)) V2 Q2 n2 n2 0 ∧ (∀ y, y < 48 → a2 y = nI (V2 y) - nI 1)) 48 ?_ ?_ 48 0 2000 (V, Q, a, b, n) (by omega) (by omega) ⟨hilt, hI, ha, hb, rfl⟩
          · intro f2 z ⟨V, Q', a, b, n⟩ _ hz ⟨hin, hI, ha, hb, hQQ⟩ ih
            have hin : i < n := hin
            have hI : BI g (cBw nm h O) (cE nm h O (M.1 6)) V Q' n i z := hI
            have ha : ∀ y, y < 48 → a y = nI (V y) - nI 1 := ha
            have hb : ∀ j, j < n → b j = nI (Q' j) := hb
            have hQQ : Q' i = Q i := hQQ
            have hn48 := BI_n hI
            have hcb := q_canB ho hs hz
            have hVi := (hI.2.1 i hin).2
            simp only [q_lp]
            generalize lp _ (g_X5_measure_95 rc O S) f2 = rc2 at ih ⊢
            by_cases hfull : n = 48
            · subst hfull
              have : g_X5_measure_95 rc O S rc2 (nI 48) (nI i) (nI (Q i)) (nI z) (mkP P a b) = g_X5_measure_183 rc O S (nI 48) (nI i) (mkP P a b) := by
                unfold g_X5_measure_95
                simp (disch := omega) only [↓q_m1, q_lit, ↓reduceIte, q_le, show ¬ 48 ≤ z by omega, Nat.le_refl]
              show ∃ (V2 Q2 : Nat → Nat) (a2 b2 : Nat → Int32) (n2 : Nat), g_X5_measure_95 rc O S rc2 (nI 48) (nI i) (nI (Q i)) (nI z) (mkP P a b) = _ ∧ _
              rw [this]
              exact hdone V Q' a b 48 hin (BI_full hI (by omega)) ha hb
            · have hnext : BI g (cBw nm h O) (cE nm h O (M.1 6)) V Q' n i (z + 1) → ∃ (V2 Q2 : Nat → Nat) (a2 b2 : Nat → Int32) (n2 : Nat), rc2 (nI n) (nI i) (nI (Q i)) (nI (z + 1)) (mkP P a b) = some (mkP P a2 b2) ∧ BI g (cBw nm h O) (cE nm h O (M.1 6)) V2 Q2 n2 n2 0 ∧ (∀ y, y < 48 → a2 y = nI (V2 y) - nI 1) :=
                fun hI2 => ih (V, Q', a, b, n) ⟨hin, hI2, ha, hb, hQQ⟩
              show ∃ (V2 Q2 : Nat → Nat) (a2 b2 : Nat → Int32) (n2 : Nat), g_X5_measure_95 rc O S rc2 (nI n) (nI i) (nI (Q i)) (nI z) (mkP P a b) = _ ∧ _
              unfold g_X5_measure_95 g_X5_measure_177
              simp (disch := omega) only [↓q_m1, q_lit, ↓q_bd, ↓reduceIte, q_le, show ¬ 48 ≤ z by omega, show ¬ 48 ≤ n by omega, q_lt, q_cl, Nat.not_lt_zero, false_or, mkP_100, ha z hz, nI_add, q_div8, q_rem]
              by_cases hVz : V z = 0
              · rw [hVz, if_pos q_0m1, hcb, q_bo]
                cases hcz : cBw nm h O z with
                | false =>
                  simp only [q_qb, ↓reduceIte]
                  exact hnext (BI_no hI (fun h9 => by rw [hcz] at h9; cases h9))
                | true =>
                  have hzp := (cB_p (np := np) (d := d) (lt := lt) (w := w) (B := B) (S := S) ho hcz).2
                  have hQi2 := hI.2.1 i hin
                  rw [hQQ] at hQi2
                  have hf := q_folE (np := np) (d := d) (lt := lt) (w := w) (B := B) (S := S) ho hz hQi2.1 hzp ((hI.1 (Q i) hQi2.1 hQi2.2).1)
                  simp only [q_qb, Bool.true_eq_false, ↓reduceIte, hf, q_bo]
                  cases hez : cE nm h O (M.1 6) z (Q i) with
                  | false =>
                    simp only [↓reduceIte]
                    exact hnext (BI_no hI (fun _ h9 => by rw [hQQ, hez] at h9; cases h9))
                  | true =>
                    simp (disch := omega) only [Bool.true_eq_false, ↓reduceIte, show ¬ 48 ≤ Q i by omega, ha (Q i) hQi2.1, mkP_a, mkP_b, Int32.sub_add_cancel]
                    refine ih (fun k => if k = z then V (Q' i) + 1 else V k, fun k => if k = n then z else Q' k, upd a z (nI (V (Q i))), upd b n (nI z), n + 1) ⟨by show i < n + 1; omega, BI_add hI hin hz hVz hcz (by rw [hQQ]; exact hez), fun y hy => ?_, fun j hj => ?_, ?_⟩
                    · show upd a z (nI (V (Q i))) y = nI (if y = z then V (Q' i) + 1 else V y) - nI 1
                      by_cases hyz : y = z
                      · subst hyz; rw [pk_us, if_pos rfl, q_sub (by omega), Nat.add_sub_cancel, hQQ]
                      · rw [pk_un hyz, if_neg hyz]; exact ha y hy
                    · show upd b n (nI z) j = nI (if j = n then z else Q' j)
                      by_cases hjn : j = n
                      · subst hjn; rw [pk_us, if_pos rfl]
                      · rw [pk_un hjn, if_neg hjn]; exact hb j (by have hj : j < n + 1 := hj; omega)
                    · show (if i = n then z else Q' i) = Q i
                      rw [if_neg (by omega)]; exact hQQ
              · have hne : (nI (V z) - nI 1 = mI) = False := by
                  rw [q_sub (by omega)]
                  exact q_neg _ (by have := BI_lt hI hz; omega)
                simp only [hne, ↓reduceIte]
                exact hnext (BI_set hI hin hz hVz)
          · intro f2 ⟨V, Q', a, b, n⟩ ⟨hin, hI, ha, hb, hQQ⟩
            simp only [q_lp]
            generalize lp _ (g_X5_measure_95 rc O S) f2 = rc2
            have : g_X5_measure_95 rc O S rc2 (nI n) (nI i) (nI (Q i)) (nI 48) (mkP P a b) = g_X5_measure_183 rc O S (nI n) (nI i) (mkP P a b) := by
              unfold g_X5_measure_95
              simp (disch := omega) only [↓q_m1, q_lit, ↓reduceIte, q_le, Nat.le_refl]
            show ∃ (V2 Q2 : Nat → Nat) (a2 b2 : Nat → Int32) (n2 : Nat), g_X5_measure_95 rc O S rc2 (nI n) (nI i) (nI (Q i)) (nI 48) (mkP P a b) = _ ∧ _
            rw [this]
            exact hdone V Q' a b n hin hI ha hb
    exact outer 48 0 2000 V Q a b n (by omega) (by omega) (by omega) hI ha hb
  -- the beginning
  have first : BPost g (cBw nm h O) (cE nm h O (M.1 6)) O S P (f_X5_measure (nI g) P O S) := by
    have hh := q_one (fun f z (t : (Nat → Nat) × (Nat → Nat) × (Nat → Int32) × (Nat → Int32) × Nat) => lp (fun _ _ _ _ => none) (g_X5_measure_6 O S) f (nI g) (nI t.2.2.2.2) (nI z) (mkP P t.2.2.1 t.2.2.2.1))
      (fun z t => (∀ x, x < 48 → t.1 x = if x < z ∧ cBw nm h O x = true ∧ x % 8 = g then 1 else 0) ∧ (∀ j, j < t.2.2.2.2 → t.2.1 j < z ∧ t.2.1 j < 48 ∧ t.1 (t.2.1 j) = 1) ∧ (∀ x, x < 48 → t.1 x ≠ 0 → ∃ j, j < t.2.2.2.2 ∧ t.2.1 j = x) ∧ smN (inV t.1) 48 = t.2.2.2.2 ∧ (∀ y, y < z → y < 48 → t.2.2.1 y = nI (t.1 y) - nI 1) ∧ (∀ j, j < t.2.2.2.2 → t.2.2.2.1 j = nI (t.2.1 j)))
      (BPost g (cBw nm h O) (cE nm h O (M.1 6)) O S P) 48 ?_ ?_ 48 0 2000 (fun _ => 0, fun _ => 0, P.1 100, P.1 1, 0) (by omega) (by omega) ⟨fun x _ => by show 0 = _; rw [if_neg (by omega)], fun j hj => by have hj : j < 0 := hj; omega, fun x _ h9 => (h9 rfl).elim, by
        show smN (inV (fun _ => 0)) 48 = 0
        have := smN_le (inV (fun _ => 0)) 48 0 (fun k _ => by unfold inV; rw [if_pos rfl]; exact Nat.le_refl _)
        omega, fun y hy => by omega, fun j hj => by have hj : j < 0 := hj; omega⟩
    · have e : mkP P (P.1 100) (P.1 1) = P := by
        unfold mkP
        rw [q_SM]
        exact q_SM P 1
      have e2 : f_X5_measure (nI g) P O S = lp (fun _ _ _ _ => none) (g_X5_measure_6 O S) 2000 (nI g) (nI 0) (nI 0) P := rfl
      rw [e2]
      have hh2 := hh
      simp only [e] at hh2
      exact hh2
    · intro f z ⟨V, Q, a, b, n⟩ _ hz ⟨i1, i2, i3, i4, i5, i6⟩ ih
      have i1 : ∀ x, x < 48 → V x = if x < z ∧ cBw nm h O x = true ∧ x % 8 = g then 1 else 0 := i1
      have i2 : ∀ j, j < n → Q j < z ∧ Q j < 48 ∧ V (Q j) = 1 := i2
      have i3 : ∀ x, x < 48 → V x ≠ 0 → ∃ j, j < n ∧ Q j = x := i3
      have i4 : smN (inV V) 48 = n := i4
      have i5 : ∀ y, y < z → y < 48 → a y = nI (V y) - nI 1 := i5
      have i6 : ∀ j, j < n → b j = nI (Q j) := i6
      have hVz : V z = 0 := by rw [i1 z hz, if_neg (by omega)]
      have hn48 : n < 48 := by
        have := smN_lt (inV V) (fun _ => 1) 48 z (fun k _ => by unfold inV; split <;> omega) hz (by unfold inV; rw [if_pos hVz]; omega)
        have h2 := smN_le (fun _ => 1) 48 1 (fun _ _ => Nat.le_refl _)
        omega
      have hcb := q_canB ho hs hz
      simp only [q_lp]
      generalize lp _ (g_X5_measure_6 O S) f = rc at ih ⊢
      have hno : ¬ (cBw nm h O z = true ∧ z % 8 = g) → BPost g (cBw nm h O) (cE nm h O (M.1 6)) O S P (rc (nI g) (nI n) (nI (z + 1)) (mkP P (upd a z mI) b)) := by
        intro hne
        refine ih (V, Q, upd a z mI, b, n) ⟨fun x hx => ?_, fun j hj => ?_, i3, i4, fun y hy hy48 => ?_, i6⟩
        · show V x = _
          rw [i1 x hx]
          by_cases hxz : x = z
          · subst hxz
            rw [if_neg (by omega), if_neg (fun h9 => hne h9.2)]
          · by_cases h9 : x < z ∧ cBw nm h O x = true ∧ x % 8 = g
            · rw [if_pos h9, if_pos ⟨by omega, h9.2⟩]
            · rw [if_neg h9, if_neg (fun h8 => h9 ⟨by omega, h8.2⟩)]
        · have := i2 j hj
          exact ⟨by show Q j < z + 1; omega, this.2⟩
        · show upd a z mI y = nI (V y) - nI 1
          by_cases hyz : y = z
          · subst hyz; rw [pk_us, hVz]; rfl
          · rw [pk_un hyz]; exact i5 y (by omega) hy48
      show BPost g (cBw nm h O) (cE nm h O (M.1 6)) O S P (g_X5_measure_6 O S rc (nI g) (nI n) (nI z) (mkP P a b))
      unfold g_X5_measure_6 g_X5_measure_60
      simp (disch := omega) only [↓q_m1, q_lit, ↓q_bd, ↓reduceIte, q_le, show ¬ 48 ≤ z by omega, q_lt, q_cl, Nat.not_lt_zero, false_or, mkP_a, q_rem, q_eq, nI_add, show ¬ 48 ≤ n by omega, mkP_b]
      by_cases hzg : z % 8 = g
      · rw [if_pos hzg, hcb, q_bo]
        cases hcz : cBw nm h O z with
        | false =>
          simp only [q_qb, ↓reduceIte]
          exact hno (fun h9 => by rw [hcz] at h9; cases h9.1)
        | true =>
          simp only [q_qb, Bool.true_eq_false, ↓reduceIte]
          have e9 : upd (upd a z mI) z (nI 0) = upd a z (nI 0) := q_uu a z mI (nI 0)
          rw [e9]
          have hQz : ∀ j, j < n → Q j ≠ z := fun j hj e => by have := (i2 j hj).1; omega
          refine ih (fun k => if k = z then 1 else V k, fun k => if k = n then z else Q k, upd a z (nI 0), upd b n (nI z), n + 1) ⟨fun x hx => ?_, fun j hj => ?_, fun x hx hv => ?_, ?_, fun y hy hy48 => ?_, fun j hj => ?_⟩
          · show (if x = z then 1 else V x) = _
            by_cases hxz : x = z
            · subst hxz
              rw [if_pos rfl, if_pos ⟨by omega, hcz, hzg⟩]
            · rw [if_neg hxz, i1 x hx]
              by_cases h9 : x < z ∧ cBw nm h O x = true ∧ x % 8 = g
              · rw [if_pos h9, if_pos ⟨by omega, h9.2⟩]
              · rw [if_neg h9, if_neg (fun h8 => h9 ⟨by omega, h8.2⟩)]
          · have hj : j < n + 1 := hj
            show (if j = n then z else Q j) < z + 1 ∧ (if j = n then z else Q j) < 48 ∧ (if (if j = n then z else Q j) = z then 1 else V (if j = n then z else Q j)) = 1
            by_cases hjn : j = n
            · simp only [hjn, if_true]; exact ⟨by omega, by omega, trivial⟩
            · have h8 := i2 j (by omega)
              simp only [hjn, if_false, hQz j (by omega)]
              exact ⟨by omega, h8.2.1, h8.2.2⟩
          · have hv : (if x = z then 1 else V x) ≠ 0 := hv
            show ∃ j, j < n + 1 ∧ (if j = n then z else Q j) = x
            by_cases hxz : x = z
            · exact ⟨n, by omega, by rw [if_pos rfl, hxz]⟩
            · rw [if_neg hxz] at hv
              obtain ⟨j, hj, e⟩ := i3 x hx hv
              exact ⟨j, by omega, by rw [if_neg (by omega)]; exact e⟩
          · show smN (inV (fun k => if k = z then 1 else V k)) 48 = n + 1
            rw [inV_up V z 1 (by omega), smN_up (inV V) 48 z 1 hz (by unfold inV; rw [if_pos hVz]), i4]
          · show upd a z (nI 0) y = nI (if y = z then 1 else V y) - nI 1
            by_cases hyz : y = z
            · subst hyz; rw [pk_us, if_pos rfl]; rfl
            · rw [pk_un hyz, if_neg hyz]; exact i5 y (by omega) hy48
          · have hj : j < n + 1 := hj
            show upd b n (nI z) j = nI (if j = n then z else Q j)
            by_cases hjn : j = n
            · subst hjn; rw [pk_us, if_pos rfl]
            · rw [pk_un hjn, if_neg hjn]; exact i6 j (by omega)
      · rw [if_neg hzg]
        exact hno (fun h9 => hzg h9.2)
    · intro f ⟨V, Q, a, b, n⟩ ⟨i1, i2, i3, i4, i5, i6⟩
      have i1 : ∀ x, x < 48 → V x = if x < 48 ∧ cBw nm h O x = true ∧ x % 8 = g then 1 else 0 := i1
      have i2 : ∀ j, j < n → Q j < 48 ∧ Q j < 48 ∧ V (Q j) = 1 := i2
      have i3 : ∀ x, x < 48 → V x ≠ 0 → ∃ j, j < n ∧ Q j = x := i3
      have i4 : smN (inV V) 48 = n := i4
      have i5 : ∀ y, y < 48 → y < 48 → a y = nI (V y) - nI 1 := i5
      have i6 : ∀ j, j < n → b j = nI (Q j) := i6
      refine ⟨V, Q, a, b, n, ?_, ⟨fun x hx hv => ?_, fun j hj => ?_, i3, i4, fun j k hjk hk => ?_, fun hi k hk => ?_, fun j hj => by omega, fun x hx hc hg => ?_, fun _ y hy => by omega, fun k hk => ?_⟩, fun y hy => i5 y hy hy, i6⟩
      · simp only [q_lp]
        generalize lp _ (g_X5_measure_6 O S) f = rc
        unfold g_X5_measure_6
        simp (disch := omega) only [↓q_m1, q_lit, ↓reduceIte, q_le, Nat.le_refl]
      · have h9 : x < 48 ∧ cBw nm h O x = true ∧ x % 8 = g := by
          by_cases h9 : x < 48 ∧ cBw nm h O x = true ∧ x % 8 = g
          · exact h9
          · rw [i1 x hx, if_neg h9] at hv
            exact (hv rfl).elim
        rw [i1 x hx, if_pos h9]
        exact ⟨h9.2.1, h9.2.2⟩
      · have := i2 j hj
        exact ⟨this.1, by omega⟩
      · have h8 := (i2 j (by omega)).2.2
        have h9 := (i2 k hk).2.2
        omega
      · have h8 := (i2 k hk).2.2
        omega
      · rw [i1 x hx, if_pos ⟨hx, hc, hg⟩]
      · have := (i2 k hk).2.2
        omega
  obtain ⟨V, Q, a, b, n, e1, e2, e3, e4⟩ := first
  obtain ⟨V2, Q2, a2, b2, n2, f1, f2, f3⟩ := run V Q a b n e2 e3 e4
  exact ⟨V2, a2, b2, by rw [e1, f1], fun y hy => ⟨f3 y hy, by have := BI_lt f2 hy; omega⟩, BI_end f2 hEc⟩
