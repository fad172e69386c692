/-! machine-free: comes, both sides together -/
def RC (P M : kD) : Prop := ∃ n, n ≤ 48 ∧ P.1 0 3 = nI n ∧ (n = 0 → M.1 0 25 = mI) ∧ (n ≠ 0 → M.1 0 25 = nI n) ∧ ∀ k, k < n → P.1 2 k = M.1 24 k
def MXc (M M' : kD) : Prop := M'.2 = M.2 ∧ (∀ b, b ≠ 0 → b ≠ 23 → b ≠ 24 → M'.1 b = M.1 b) ∧ (∀ k, k ≠ 0 → k ≠ 25 → M'.1 0 k = M.1 0 k)
theorem q_meas0 {nm np d lt w h B : Nat} {O S M P : kD} (ho : RO nm np O (M.1 6)) (hs : RS nm np d lt w h B S (M.1 6)) (t : Int32) (ht : ∀ m, m < np → t ≠ nI m) :
    ∃ a, f_X5_measure t P O S = some (kSI P 100 a) ∧ ∀ y, y < 48 → a y = mI := by
  have hh := q_one (fun f z (a : Nat → Int32) => lp (fun _ _ _ _ => none) (g_X5_measure_6 O S) f t (nI 0) (nI z) (kSI P 100 a)) (fun z a => ∀ y, y < z → a y = mI) (fun r => ∃ a, r = some (kSI P 100 a) ∧ ∀ y, y < 48 → a y = mI) 48 ?_ ?_ 48 0 2000 (P.1 100) (by omega) (by omega) (fun y hy => by omega)
  · rw [q_SM] at hh
    exact hh
  · intro f z a _ hz ha ih
    have hcb := q_canB ho hs hz
    simp only [q_lp]
    generalize lp _ (g_X5_measure_6 O S) f = rc at ih ⊢
    have hgo : ∃ a2, rc t (nI 0) (nI (z + 1)) (kSI P 100 (upd a z mI)) = some (kSI P 100 a2) ∧ ∀ y, y < 48 → a2 y = mI := ih (upd a z mI) (fun y hy => by
      by_cases hyz : y = z
      · subst hyz; exact pk_us
      · rw [pk_un hyz]; exact ha y (by omega))
    unfold g_X5_measure_6 g_X5_measure_60
    simp (disch := omega) only [↓q_m1, q_lit, ↓q_bd, ↓reduceIte, q_le, show ¬ 48 ≤ z by omega, q_lt, q_cl, Nat.not_lt_zero, false_or, q_SI, q_rem, nI_add]
    by_cases hzt : nI (z % 8) = t
    · rw [if_pos hzt, hcb, q_bo]
      have : cBw nm h O z = false := by
        cases hcz : cBw nm h O z with
        | false => rfl
        | true => exact absurd hzt.symm (ht (z % 8) (cB_p (np := np) (d := d) (lt := lt) (w := w) (B := B) (S := S) ho hcz).2)
      rw [this]
      simp only [q_qb, ↓reduceIte]
      exact hgo
    · rw [if_neg hzt]
      exact hgo
  · intro f a ha
    refine ⟨a, ?_, ha⟩
    simp only [q_lp]
    generalize lp _ (g_X5_measure_6 O S) f = rc
    unfold g_X5_measure_6 g_X5_measure_66
    simp (disch := omega) only [↓q_m1, q_lit, ↓reduceIte, q_le, Nat.le_refl]
    rw [q_lp]
    generalize lp _ (g_X5_measure_69 O S) 1999 = rc2
    unfold g_X5_measure_69
    simp (disch := omega) only [↓q_m1, q_lit, ↓reduceIte, q_le, Nat.le_refl]
theorem q_comes {nm np d lt w h B : Nat} {O S M P K C N : kD} (ho : RO nm np O (M.1 6)) (hs : RS nm np d lt w h B S (M.1 6)) (hc : RC P M) (t : Int32) :
    ∃ v P' M', f_X11_comes t K C O S N P = some (v, P') ∧ f_X12_comes t M = some (v, M') ∧ MXc M M' ∧ RC P' M' := by
  have hn : nm ≤ 6 := ho.1.1
  have hp : np ≤ 8 := ho.1.2
  have e1 : (kI M 0 0 (nI 0)).1 6 1 = nI np := ho.2.1.2.1
  have e3 : O.1 0 2 = nI np := ho.2.1.2.2.2.1
  have hM0 : MXc M (kI M 0 0 (nI 0)) := ⟨rfl, fun b h0 _ _ => if_neg h0, fun k h0 _ => by show upd (M.1 0) 0 (nI 0) k = _; exact pk_un h0⟩
  unfold f_X11_comes f_X5_find f_X12_comes
  simp only [↓q_m1, q_lit, ↓q_bd]
  rcases q_phr hp e3 e1 t with ⟨g, hg, rfl, hg1, hg2⟩ | ⟨hg0, hg1, hg2⟩
  · rw [hg2, q_bo]
    simp only [q_10, ↓reduceIte]
    -- both measures
    obtain ⟨V, a, b, m1, m2, m3⟩ := q_measure (P := P) ho hs (show g < 8 by omega)
    obtain ⟨W, w1, w2, w3⟩ := q_lays (g := g) (nm := nm) (E := cE nm h O (M.1 6)) (M := kI M 0 0 (nI 0)) hn (by omega) ho.2.1.1 (fun x y hy hE => by
      unfold cE at hE
      rw [Bool.and_eq_true] at hE
      exact (cB_p (np := np) (d := d) (lt := lt) (w := w) (B := B) (S := S) ho hE.1).1) (fun x y N hN hx hy hyn => q_canE ho hs hN hx hy hyn)
    have hVW : ∀ x, x < 48 → V x ≠ 0 → W x = V x - 1 ∧ V x ≤ 48 := by
      intro x hx hv
      have h1 := ((m3 x hx).1 hv).2
      have h2 := w3 _ x hx h1.1
      have h4 := md_47 hx h1
      rcases (w2 x hx).2 with h3 | h3
      · omega
      · by_cases h5 : W x < V x - 1
        · exact absurd h3 (h1.2 _ h5)
        · omega
    have hV0 : ∀ x, x < 48 → cBw nm h O x = true → V x = 0 → W x = 1000000 := by
      intro x hx hcx hv
      rcases (w2 x hx).2 with h3 | h3
      · exact h3
      · exact absurd hv ((m3 x hx).2 hcx _ h3).1
    have hWn : ∀ x n, x < 48 → cBw nm h O x = true → n < 1000 → W x = n → V x = n + 1 := by
      intro x n hx hcx hn9 hw
      by_cases hv : V x = 0
      · have := hV0 x hx hcx hv; omega
      · have := hVW x hx hv; omega
    have hEc : ∀ x y, cE nm h O (M.1 6) x y = true → cBw nm h O y = true := by
      intro x y hE
      unfold cE at hE
      rw [Bool.and_eq_true] at hE
      exact hE.1
    have hSc : ∀ y, cS nm h lt w O (M.1 6) y = true → cBw nm h O y = true := by
      intro y hE
      unfold cS at hE
      rw [Bool.and_eq_true] at hE
      exact hE.1
    have hcn : ∀ y, cBw nm h O y = true → y / 8 < nm := fun y hy => (cB_p (np := np) (d := d) (lt := lt) (w := w) (B := B) (S := S) ho hy).1
    -- the reference's row of wants
    have hWr : ∀ (X : kD), X.1 23 = (fun i => if i < 48 then nI (W i) else (kI M 0 0 (nI 0)).1 23 i) → ∀ y, y < 48 → X.1 23 y = nI (W y) ∧ W y ≤ 1000000 := by
      intro X hX y hy
      refine ⟨?_, (w2 y hy).1⟩
      rw [hX]
      exact if_pos hy
    -- one step on
    have hnear : ∀ (X : kD), X.1 100 = a → ∀ y, y < 48 → X.1 100 y = nI (V y) - nI 1 ∧ V y < 1000 := by
      intro X hX y hy
      rw [hX]
      exact m2 y hy
    have hstep : ∀ x m, x < 48 → V x = m + 2 → ∃ y, y < 48 ∧ V y = m + 1 ∧ (∀ (X : kD), X.1 100 = a → f_X5_nearest (nI (x / 8)) (nI (x % 8)) X O = some (nI y)) ∧
        (∀ (X : kD), X.1 6 = M.1 6 → X.1 23 = (fun i => if i < 48 then nI (W i) else (kI M 0 0 (nI 0)).1 23 i) → f_X12_followBy (nI (x / 8)) (nI (x % 8)) (nI m) X = some (nI y)) := by
      intro x m hx hv
      obtain ⟨hcx, hmd⟩ := (m3 x hx).1 (by omega)
      have hxp := (cB_p (np := np) (d := d) (lt := lt) (w := w) (B := B) (S := S) ho hcx).2
      have hm48 := (hVW x hx (by omega)).2
      have hlow : ∀ j, j < 48 → V j ≠ 0 → cE nm h O (M.1 6) x j = true → m + 1 ≤ V j := by
        intro j hj hvj hEj
        have h1 := ((m3 j hj).1 hvj).2.1
        have h2 := ((m3 x hx).2 hcx (V j - 1 + 1) ⟨j, hj, hEj, h1⟩).2
        omega
      obtain ⟨y1, hy1, hE1, hP1⟩ : ∃ y, y < 48 ∧ cE nm h O (M.1 6) x y = true ∧ PP g (cE nm h O (M.1 6)) m y := by
        have := hmd.1
        rw [hv, show m + 2 - 1 = m + 1 by omega] at this
        exact this
      have hvy1 := (m3 y1 hy1).2 (hEc x y1 hE1) m hP1
      have hvy1' : V y1 = m + 1 := by have := hlow y1 hy1 hvy1.1 hE1; omega
      obtain ⟨y, ⟨hy, hE, hvy⟩, hleast⟩ := pk_least (fun y => y < 48 ∧ cE nm h O (M.1 6) x y = true ∧ V y = m + 1) ⟨y1, hy1, hE1, hvy1'⟩
      refine ⟨y, hy, hvy, fun X hX => ?_, fun X hX6 hX => ?_⟩
      · refine (q_near (V := V) (F := fun z => cE nm h O (M.1 6) x z) (hnear X hX) (fun z hz hvz => q_folE (np := np) (d := d) (lt := lt) (w := w) (B := B) (S := S) ho hx hz hxp ((m3 z hz).1 hvz).1)).2 y hy (by omega) hE (fun j hj hvj hEj => ?_)
        have h1 := hlow j hj hvj hEj
        refine ⟨by omega, fun hjy => ?_⟩
        by_cases h2 : V j = m + 1
        · exact absurd ⟨hj, hEj, h2⟩ (hleast j hjy)
        · omega
      · have hX0 : X.1 6 0 = nI nm := by rw [hX6]; exact ho.2.1.1
        refine (q_follow (M := X) (W := W) (F := fun z => cE nm h O (M.1 6) x z) hn hX0 (fun z hz hzn => q_canE ho hs hX6 hx hz hzn) (fun z hz => hcn z (hEc x z hz)) (hWr X hX) (show m < 1000 by omega)).2 y hy hE (by have := (hVW y hy (by omega)).1; omega) (fun j hj hEj hwj => ?_)
        exact hleast j hj ⟨by omega, hEj, hWn j m (by omega) (hEc x j hEj) (by omega) hwj⟩
    rw [m1, w1, q_bo, q_bo]
    have hF : ∀ (X : kD), X.1 6 = M.1 6 → ∀ y, y < 48 → y / 8 < nm → f_X12_canFollow (nI (y / 8)) (nI (y % 8)) (nI w - nI 1) (nI lt - nI 1) X = some (q_b (cS nm h lt w O (M.1 6) y)) := fun X hX y hy hyn => q_canS ho hs hX hy hyn
    have h40 : M.1 6 40 = nI lt := hs.2.1.2.2.2.1
    have h41 : M.1 6 41 = nI w := hs.2.1.2.2.2.2.2.1
    have hnr := q_near (P := mkP P a b) (V := V) (F := fun z => cS nm h lt w O (M.1 6) z) (a1 := S.1 0 2) (a2 := S.1 0 1) (hnear _ rfl) (fun z hz hvz => q_folS ho hs hz ((m3 z hz).1 hvz).1)
    -- the reference's search for how many
    have hsearch : ∀ (X : kD), X.1 6 = M.1 6 → X.1 23 = (fun i => if i < 48 then nI (W i) else (kI M 0 0 (nI 0)).1 23 i) → ∀ k n, k ≤ n → n ≤ 48 → (∀ j, j < n → ∀ y, y < 48 → cS nm h lt w O (M.1 6) y = true → W y ≠ j) →
        (n = 48 ∨ ∃ y, y < 48 ∧ f_X12_followBy (nI w - nI 1) (nI lt - nI 1) (nI n) X = some (nI y)) → ∀ f, n - k < f → lp (fun _ _ => none) g_X12_comes_22 f (nI k) X = g_X12_comes_60 (nI n) X := by
      intro X hX6 hX k n hkn hn48 hno hat f hf
      have hX0 : X.1 6 0 = nI nm := by rw [hX6]; exact ho.2.1.1
      have hX40 : X.1 6 40 = nI lt := by rw [hX6]; exact h40
      have hX41 : X.1 6 41 = nI w := by rw [hX6]; exact h41
      refine q_one (fun f k (_ : Unit) => lp (fun _ _ => none) g_X12_comes_22 f (nI k) X) (fun _ _ => True) (fun r => r = g_X12_comes_60 (nI n) X) n ?_ ?_ (n - k) k f () (by omega) hf trivial
      · intro f k _ _ hk _ ih
        have hfo := (q_follow (M := X) (W := W) (F := fun z => cS nm h lt w O (M.1 6) z) hn hX0 (hF X hX6) (fun z hz => hcn z (hSc z hz)) (hWr X hX) (show k < 1000 by omega)).1 (hno k hk)
        simp only [q_lp]
        generalize lp _ g_X12_comes_22 f = rc at ih ⊢
        unfold g_X12_comes_22
        simp (disch := omega) only [↓q_m1, q_lit, ↓q_bd, ↓reduceIte, q_le, show ¬ 48 ≤ k by omega, q_cl, hX40, hX41, hfo, q_bo, show (nI 0 ≤ mI) = False from q_len 0 (by omega), nI_add]
        exact ih () trivial
      · intro f _ _
        simp only [q_lp]
        generalize lp _ g_X12_comes_22 f = rc
        unfold g_X12_comes_22
        rcases hat with h9 | ⟨y, hy, h9⟩
        · subst h9
          simp (disch := omega) only [↓q_m1, q_lit, ↓reduceIte, q_le, Nat.le_refl]
        · by_cases h8 : n = 48
          · subst h8
            simp (disch := omega) only [↓q_m1, q_lit, ↓reduceIte, q_le, Nat.le_refl]
          · simp (disch := omega) only [↓q_m1, q_lit, ↓q_bd, ↓reduceIte, q_le, show ¬ 48 ≤ n by omega, q_cl, hX40, hX41, h9, q_bo, Nat.zero_le]
    by_cases hex : ∃ v y, y < 48 ∧ V y = v + 1 ∧ cS nm h lt w O (M.1 6) y = true
    · obtain ⟨n, ⟨y1, hy1, hvy1, hsy1⟩, hnmin⟩ := pk_least (fun v => ∃ y, y < 48 ∧ V y = v + 1 ∧ cS nm h lt w O (M.1 6) y = true) hex
      obtain ⟨y0, ⟨hy0, hvy0, hsy0⟩, hymin⟩ := pk_least (fun y => y < 48 ∧ V y = n + 1 ∧ cS nm h lt w O (M.1 6) y = true) ⟨y1, hy1, hvy1, hsy1⟩
      have hn47 : n ≤ 47 := by have := (hVW y0 hy0 (by omega)).2; omega
      have hlow : ∀ j, j < 48 → V j ≠ 0 → cS nm h lt w O (M.1 6) j = true → n + 1 ≤ V j := by
        intro j hj hvj hsj
        by_cases h9 : V j - 1 < n
        · exact absurd ⟨j, hj, by omega, hsj⟩ (hnmin (V j - 1) h9)
        · omega
      have hC0 : f_X5_nearest (S.1 0 2) (S.1 0 1) (mkP P a b) O = some (nI y0) := hnr.2 y0 hy0 (by omega) hsy0 (fun j hj hvj hsj => by
        have h9 := hlow j hj hvj hsj
        refine ⟨by omega, fun hjy => ?_⟩
        by_cases h8 : V j = n + 1
        · exact absurd ⟨hj, h8, hsj⟩ (hymin j hjy)
        · omega)
      have hM00 : ∀ (X : kD), X.1 6 = M.1 6 → X.1 23 = (fun i => if i < 48 then nI (W i) else (kI M 0 0 (nI 0)).1 23 i) → f_X12_followBy (nI w - nI 1) (nI lt - nI 1) (nI n) X = some (nI y0) := by
        intro X hX6 hX
        have hX0 : X.1 6 0 = nI nm := by rw [hX6]; exact ho.2.1.1
        refine (q_follow (M := X) (W := W) (F := fun z => cS nm h lt w O (M.1 6) z) hn hX0 (hF X hX6) (fun z hz => hcn z (hSc z hz)) (hWr X hX) (show n < 1000 by omega)).2 y0 hy0 hsy0 (by have := (hVW y0 hy0 (by omega)).1; omega) (fun j hj hsj hwj => ?_)
        exact hymin j hj ⟨by omega, hWn j n (by omega) (hSc j hsj) (by omega) hwj, hsj⟩
      have hse := hsearch (kSI (kI M 0 0 (nI 0)) 23 (fun i => if i < 48 then nI (W i) else (kI M 0 0 (nI 0)).1 23 i)) rfl rfl 0 n (by omega) (by omega) (fun j hj y hy hsy hwy => by
        have := hWn y j hy (hSc y hsy) (by omega) hwy
        exact hnmin j hj ⟨y, hy, this, hsy⟩) (Or.inr ⟨y0, hy0, hM00 _ rfl rfl⟩) 2000 (by omega)
      rw [hC0, q_bo, hse]
      have hst : (mkP P a b).1 100 y0 = nI n := by
        show a y0 = nI n
        rw [(m2 y0 hy0).1, hvy0, q_sub (by omega), Nat.add_sub_cancel]
      unfold g_X12_comes_60
      simp (disch := omega) only [↓q_m1, q_lit, ↓q_bd, q_neg, ↓reduceIte, q_lt, Nat.not_lt_zero, false_or, q_cl, show ¬ 48 ≤ y0 by omega, hst, nI_add, q_eq, show ¬ n = 48 by omega]
      have hj0 : ∀ j, j < 1 → upd (P.1 2) 0 (nI y0) j = upd (M.1 24) 0 (nI y0) j := by
        intro j hj
        have : j = 0 := by omega
        subst this
        rw [pk_us, pk_us]
      -- the rows, side by side
      have key := q_two (fun f k (z : Nat × (Nat → Int32)) => lp (fun _ _ _ => none) (g_X5_find_54 O S) f (nI z.1) (nI k) (kSI (kI (mkP P a b) 0 3 (nI (n + 1))) 2 z.2))
        (fun f k (z : Nat × (Nat → Int32)) => lp (fun _ _ _ _ _ => none) g_X12_comes_99 f (nI n) (nI (z.1 / 8)) (nI (z.1 % 8)) (nI k) (kSI (kI (kSI (kI M 0 0 (nI 0)) 23 (fun i => if i < 48 then nI (W i) else (kI M 0 0 (nI 0)).1 23 i)) 0 25 (nI (n + 1))) 24 z.2))
        (fun k z t => z.1 = t.1 ∧ z.1 < 48 ∧ V z.1 = n + 2 - k ∧ ∀ j, j < k → z.2 j = t.2 j)
        (fun r1 r2 => ∃ s1 s2 : Nat → Int32, r1 = some (nI (n + 1), kSI (kI (mkP P a b) 0 3 (nI (n + 1))) 2 s1) ∧ r2 = some (nI (n + 1), kSI (kI (kSI (kI M 0 0 (nI 0)) 23 (fun i => if i < 48 then nI (W i) else (kI M 0 0 (nI 0)).1 23 i)) 0 25 (nI (n + 1))) 24 s2) ∧ ∀ j, j < n + 1 → s1 j = s2 j) (n + 1) ?_ ?_ n 1 2000 1999 (y0, upd (P.1 2) 0 (nI y0)) (y0, upd (M.1 24) 0 (nI y0)) (by omega) (by omega) (by omega) ⟨rfl, hy0, by show V y0 = n + 2 - 1; omega, hj0⟩
      · obtain ⟨s1, s2, k1, k2, k3⟩ := key
        have hfirst : lp (fun _ _ _ _ _ => none) g_X12_comes_99 2000 (nI n) ((kI (kSI (kI M 0 0 (nI 0)) 23 (fun i => if i < 48 then nI (W i) else (kI M 0 0 (nI 0)).1 23 i)) 0 25 (nI (n + 1))).1 6 41 - nI 1) ((kI (kSI (kI M 0 0 (nI 0)) 23 (fun i => if i < 48 then nI (W i) else (kI M 0 0 (nI 0)).1 23 i)) 0 25 (nI (n + 1))).1 6 40 - nI 1) (nI 0) (kI (kSI (kI M 0 0 (nI 0)) 23 (fun i => if i < 48 then nI (W i) else (kI M 0 0 (nI 0)).1 23 i)) 0 25 (nI (n + 1))) =
            lp (fun _ _ _ _ _ => none) g_X12_comes_99 1999 (nI n) (nI (y0 / 8)) (nI (y0 % 8)) (nI 1) (kSI (kI (kSI (kI M 0 0 (nI 0)) 23 (fun i => if i < 48 then nI (W i) else (kI M 0 0 (nI 0)).1 23 i)) 0 25 (nI (n + 1))) 24 (upd (M.1 24) 0 (nI y0))) := by
          have hX := hM00 (kI (kSI (kI M 0 0 (nI 0)) 23 (fun i => if i < 48 then nI (W i) else (kI M 0 0 (nI 0)).1 23 i)) 0 25 (nI (n + 1))) rfl rfl
          have h25 : (kI (kSI (kI M 0 0 (nI 0)) 23 (fun i => if i < 48 then nI (W i) else (kI M 0 0 (nI 0)).1 23 i)) 0 25 (nI (n + 1))).1 0 25 = nI (n + 1) := rfl
          have h24 : (kI (kSI (kI M 0 0 (nI 0)) 23 (fun i => if i < 48 then nI (W i) else (kI M 0 0 (nI 0)).1 23 i)) 0 25 (nI (n + 1))).1 24 = M.1 24 := rfl
          have h641 : (kI (kSI (kI M 0 0 (nI 0)) 23 (fun i => if i < 48 then nI (W i) else (kI M 0 0 (nI 0)).1 23 i)) 0 25 (nI (n + 1))).1 6 41 = nI w := h41
          have h640 : (kI (kSI (kI M 0 0 (nI 0)) 23 (fun i => if i < 48 then nI (W i) else (kI M 0 0 (nI 0)).1 23 i)) 0 25 (nI (n + 1))).1 6 40 = nI lt := h40
          rw [h641, h640, q_lp]
          generalize (kI (kSI (kI M 0 0 (nI 0)) 23 (fun i => if i < 48 then nI (W i) else (kI M 0 0 (nI 0)).1 23 i)) 0 25 (nI (n + 1))) = X at hX h25 h24 ⊢
          generalize lp _ g_X12_comes_99 1999 = rc
          unfold g_X12_comes_99
          simp (disch := omega) only [↓q_m1, q_lit, ↓q_bd, ↓reduceIte, h25, q_le, show ¬ n + 1 ≤ 0 by omega, q_sub, Nat.sub_zero, hX, q_bo, q_lt, Nat.not_lt_zero, false_or, q_cl, show ¬ 48 ≤ 0 by omega, q_div8, q_rem, nI_add, Nat.zero_add, q_kI_S, h24]
        have e2 : kI (kI (mkP P a b) 0 3 (nI (n + 1))) 2 0 (nI y0) = kSI (kI (mkP P a b) 0 3 (nI (n + 1))) 2 (upd (P.1 2) 0 (nI y0)) := rfl
        rw [hfirst, k2, e2, k1, q_bo2]
        refine ⟨_, _, _, rfl, rfl, ⟨rfl, fun z h0 h23 h24 => ?_, fun k h0 h25 => ?_⟩, n + 1, by omega, rfl, fun h9 => by omega, fun _ => rfl, fun k hk => k3 k hk⟩
        · show (if z = 24 then _ else if z = 0 then _ else if z = 23 then _ else if z = 0 then _ else M.1 z) = _
          rw [if_neg h24, if_neg h0, if_neg h23, if_neg h0]
        · show upd (upd (M.1 0) 0 (nI 0)) 25 (nI (n + 1)) k = _
          rw [pk_un h25, pk_un h0]
      · intro f e k ⟨x, s1⟩ ⟨x2, s2⟩ _ _ hk ⟨hxx, hx, hvx, hss⟩ ih
        have hxx : x = x2 := hxx
        subst hxx
        have hx : x < 48 := hx
        have hvx : V x = n + 2 - k := hvx
        have hss : ∀ j, j < k → s1 j = s2 j := hss
        obtain ⟨y, hy, hvy, hyC, hyM⟩ := hstep x (n - k) hx (by omega)
        have hyC2 := hyC (kSI (kI (mkP P a b) 0 3 (nI (n + 1))) 2 s1) rfl
        have hyM2 := hyM (kSI (kI (kSI (kI M 0 0 (nI 0)) 23 (fun i => if i < 48 then nI (W i) else (kI M 0 0 (nI 0)).1 23 i)) 0 25 (nI (n + 1))) 24 s2) rfl rfl
        simp only [q_lp]
        have hCs : g_X5_find_54 O S (lp (fun _ _ _ => none) (g_X5_find_54 O S) f) (nI x) (nI k) (kSI (kI (mkP P a b) 0 3 (nI (n + 1))) 2 s1) = lp (fun _ _ _ => none) (g_X5_find_54 O S) f (nI y) (nI (k + 1)) (kSI (kI (mkP P a b) 0 3 (nI (n + 1))) 2 (upd s1 k (nI y))) := by
          generalize lp _ (g_X5_find_54 O S) f = rc
          have h3 : (kSI (kI (mkP P a b) 0 3 (nI (n + 1))) 2 s1).1 0 3 = nI (n + 1) := rfl
          unfold g_X5_find_54
          simp (disch := omega) only [↓q_m1, q_lit, ↓q_bd, ↓reduceIte, h3, q_le, show ¬ n + 1 ≤ k by omega, show ¬ 48 ≤ k by omega, q_neg, q_div8, q_rem, hyC2, q_bo, q_lt, Nat.not_lt_zero, false_or, q_cl, nI_add, q_SI]
        have hMs : g_X12_comes_99 (lp (fun _ _ _ _ _ => none) g_X12_comes_99 e) (nI n) (nI (x / 8)) (nI (x % 8)) (nI k) (kSI (kI (kSI (kI M 0 0 (nI 0)) 23 (fun i => if i < 48 then nI (W i) else (kI M 0 0 (nI 0)).1 23 i)) 0 25 (nI (n + 1))) 24 s2) = lp (fun _ _ _ _ _ => none) g_X12_comes_99 e (nI n) (nI (y / 8)) (nI (y % 8)) (nI (k + 1)) (kSI (kI (kSI (kI M 0 0 (nI 0)) 23 (fun i => if i < 48 then nI (W i) else (kI M 0 0 (nI 0)).1 23 i)) 0 25 (nI (n + 1))) 24 (upd s2 k (nI y))) := by
          generalize lp _ g_X12_comes_99 e = rc
          have h25 : (kSI (kI (kSI (kI M 0 0 (nI 0)) 23 (fun i => if i < 48 then nI (W i) else (kI M 0 0 (nI 0)).1 23 i)) 0 25 (nI (n + 1))) 24 s2).1 0 25 = nI (n + 1) := rfl
          unfold g_X12_comes_99
          simp (disch := omega) only [↓q_m1, q_lit, ↓q_bd, ↓reduceIte, h25, q_le, show ¬ n + 1 ≤ k by omega, show ¬ 48 ≤ k by omega, q_sub (show k ≤ n by omega), hyM2, q_bo, q_lt, Nat.not_lt_zero, false_or, q_cl, nI_add, q_SI, q_div8, q_rem]
        show ∃ s1 s2 : Nat → Int32, g_X5_find_54 O S (lp (fun _ _ _ => none) (g_X5_find_54 O S) f) (nI x) (nI k) (kSI (kI (mkP P a b) 0 3 (nI (n + 1))) 2 _) = _ ∧ g_X12_comes_99 (lp (fun _ _ _ _ _ => none) g_X12_comes_99 e) (nI n) (nI (x / 8)) (nI (x % 8)) (nI k) (kSI _ 24 _) = _ ∧ _
        rw [hCs, hMs]
        refine ih (y, upd s1 k (nI y)) (y, upd s2 k (nI y)) ⟨rfl, hy, by show V y = n + 2 - (k + 1); omega, fun j hj => ?_⟩
        show upd s1 k (nI y) j = upd s2 k (nI y) j
        by_cases hjk : j = k
        · subst hjk; rw [pk_us, pk_us]
        · rw [pk_un hjk, pk_un hjk]; exact hss j (by omega)
      · intro f e ⟨x, s1⟩ ⟨x2, s2⟩ ⟨hxx, hx, hvx, hss⟩
        have hss : ∀ j, j < n + 1 → s1 j = s2 j := hss
        refine ⟨s1, s2, ?_, ?_, hss⟩
        · simp only [q_lp]
          generalize lp _ (g_X5_find_54 O S) f = rc
          have h3 : (kSI (kI (mkP P a b) 0 3 (nI (n + 1))) 2 s1).1 0 3 = nI (n + 1) := rfl
          unfold g_X5_find_54
          simp (disch := omega) only [↓reduceIte, h3, q_le, Nat.le_refl]
        · simp only [q_lp]
          generalize lp _ g_X12_comes_99 e = rc
          have h25 : (kSI (kI (kSI (kI M 0 0 (nI 0)) 23 (fun i => if i < 48 then nI (W i) else (kI M 0 0 (nI 0)).1 23 i)) 0 25 (nI (n + 1))) 24 s2).1 0 25 = nI (n + 1) := rfl
          unfold g_X12_comes_99
          simp (disch := omega) only [↓reduceIte, h25, q_le, Nat.le_refl]
    · have hno : ∀ y, y < 48 → V y ≠ 0 → cS nm h lt w O (M.1 6) y = false := by
        intro y hy hv
        cases hsy : cS nm h lt w O (M.1 6) y with
        | false => rfl
        | true => exact absurd ⟨V y - 1, y, hy, by omega, hsy⟩ hex
      have hse := hsearch (kSI (kI M 0 0 (nI 0)) 23 (fun i => if i < 48 then nI (W i) else (kI M 0 0 (nI 0)).1 23 i)) rfl rfl 0 48 (by omega) (by omega) (fun j hj y hy hsy hwy => by
        have := hWn y j hy (hSc y hsy) (by omega) hwy
        exact hex ⟨j, y, hy, this, hsy⟩) (Or.inl rfl) 2000 (by omega)
      rw [hnr.1 hno, q_bo, hse]
      unfold g_X12_comes_60
      simp (disch := omega) only [↓q_m1, q_lit, ↓reduceIte, q_bo2]
      refine ⟨_, _, _, rfl, rfl, ⟨rfl, fun z h0 h23 h24 => ?_, fun k h0 h25 => ?_⟩, hc⟩
      · show (if z = 23 then _ else if z = 0 then _ else M.1 z) = _
        rw [if_neg h23, if_neg h0]
      · show upd (M.1 0) 0 (nI 0) k = _
        exact pk_un h0
  · rw [hg2, q_bo]
    obtain ⟨a, m1, m2⟩ := q_meas0 (P := P) ho hs t hg0
    have hnr : f_X5_nearest (S.1 0 2) (S.1 0 1) (kSI P 100 a) O = some mI := (q_near (V := fun _ => 0) (F := fun _ => false) (fun y hy => ⟨by show a y = _; rw [m2 y hy]; rfl, by omega⟩) (fun y hy h9 => (h9 rfl).elim)).1 (fun y hy h9 => (h9 rfl).elim)
    rw [m1, q_bo, hnr, q_bo]
    simp only [↓reduceIte, q_bo2]
    exact ⟨_, _, _, rfl, rfl, hM0, hc⟩
