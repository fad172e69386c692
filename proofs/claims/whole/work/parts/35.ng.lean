/-! machine-free: what comes: how few are wanted (numbers alone) -/
def PP (g : Nat) (E : Nat → Nat → Bool) : Nat → Nat → Prop
  | 0, x => x % 8 = g
  | n + 1, x => ∃ y, y < 48 ∧ E x y = true ∧ PP g E n y
def isMd (g : Nat) (E : Nat → Nat → Bool) (x n : Nat) : Prop := PP g E n x ∧ ∀ j, j < n → ¬ PP g E j x
theorem smN_le2 (f g : Nat → Nat) (n : Nat) (h : ∀ k, k < n → f k ≤ g k) : smN f n ≤ smN g n := by
  induction n with
  | zero => exact Nat.le_refl _
  | succ n ih =>
    have h1 := ih (fun k hk => h k (by omega))
    have h2 := h n (by omega)
    show smN f n + f n ≤ smN g n + g n
    omega
theorem smN_lt (f g : Nat → Nat) (n j : Nat) (h : ∀ k, k < n → f k ≤ g k) (hj : j < n) (hl : f j < g j) : smN f n < smN g n := by
  induction n with
  | zero => omega
  | succ n ih =>
    show smN f n + f n < smN g n + g n
    have h2 := h n (by omega)
    by_cases hjn : j = n
    · subst hjn
      have h1 := smN_le2 f g j (fun k hk => h k (by omega))
      omega
    · have h1 := ih (fun k hk => h k (by omega)) (by omega)
      omega
noncomputable def cnI (g : Nat) (E : Nat → Nat → Bool) (t x : Nat) : Nat := @ite Nat (∃ j, j ≤ t ∧ PP g E j x) (Classical.propDecidable _) 1 0
theorem cnI_1 {g : Nat} {E : Nat → Nat → Bool} {t x j : Nat} (hj : j ≤ t) (h : PP g E j x) : cnI g E t x = 1 := @if_pos _ (Classical.propDecidable _) ⟨j, hj, h⟩ _ _ _
theorem cnI_0 {g : Nat} {E : Nat → Nat → Bool} {t x : Nat} (h : ∀ j, j ≤ t → ¬ PP g E j x) : cnI g E t x = 0 := @if_neg _ (Classical.propDecidable _) (fun ⟨j, h1, h2⟩ => h j h1 h2) _ _ _
theorem cnI_le {g : Nat} {E : Nat → Nat → Bool} {t x : Nat} : cnI g E t x ≤ 1 := by
  by_cases h : ∃ j, j ≤ t ∧ PP g E j x
  · obtain ⟨j, h1, h2⟩ := h; rw [cnI_1 h1 h2]; exact Nat.le_refl _
  · rw [cnI_0 (fun j h1 h2 => h ⟨j, h1, h2⟩)]; exact Nat.zero_le _
theorem cnI_mono {g : Nat} {E : Nat → Nat → Bool} {t x : Nat} : cnI g E t x ≤ cnI g E (t + 1) x := by
  by_cases h : ∃ j, j ≤ t ∧ PP g E j x
  · obtain ⟨j, h1, h2⟩ := h; rw [cnI_1 h1 h2, cnI_1 (show j ≤ t + 1 by omega) h2]; exact Nat.le_refl _
  · rw [cnI_0 (fun j h1 h2 => h ⟨j, h1, h2⟩)]; exact Nat.zero_le _
theorem md_cn {g : Nat} {E : Nat → Nat → Bool} : ∀ n x, x < 48 → isMd g E x n → n + 1 ≤ smN (cnI g E n) 48 := by
  intro n
  induction n with
  | zero =>
    intro x hx h
    have h1 := smN_lt (fun _ => 0) (cnI g E 0) 48 x (fun k _ => Nat.zero_le _) hx (by rw [cnI_1 (Nat.le_refl 0) h.1]; omega)
    omega
  | succ n ih =>
    intro x hx ⟨⟨y, hy, hE, hP⟩, hn⟩
    have hmd : isMd g E y n := ⟨hP, fun j hj hPj => hn (j + 1) (by omega) ⟨y, hy, hE, hPj⟩⟩
    have h1 := ih y hy hmd
    have h2 := smN_lt (cnI g E n) (cnI g E (n + 1)) 48 x (fun k _ => cnI_mono) hx (by rw [cnI_0 (fun j hj => hn j (by omega)), cnI_1 (Nat.le_refl (n + 1)) ⟨y, hy, hE, hP⟩]; omega)
    omega
theorem md_47 {g : Nat} {E : Nat → Nat → Bool} {n x : Nat} (hx : x < 48) (h : isMd g E x n) : n ≤ 47 := by
  have h1 := md_cn n x hx h
  have h2 := smN_le (cnI g E n) 48 1 (fun k _ => cnI_le)
  omega
theorem md_ex {g : Nat} {E : Nat → Nat → Bool} {n x : Nat} (h : PP g E n x) : ∃ m, m ≤ n ∧ isMd g E x m := by
  obtain ⟨m, h1, h2⟩ := pk_least (fun j => PP g E j x) ⟨n, h⟩
  refine ⟨m, ?_, h1, h2⟩
  by_cases hm : m ≤ n
  · exact hm
  · exact absurd h (h2 n (by omega))
theorem md_un {g : Nat} {E : Nat → Nat → Bool} {n m x : Nat} (h1 : isMd g E x n) (h2 : isMd g E x m) : n = m := by
  by_cases h : n < m
  · exact absurd h1.1 (h2.2 n h)
  · by_cases h' : m < n
    · exact absurd h2.1 (h1.2 m h')
    · omega
/-! one pass of the reference over its wants -/
/-- what the wants are in a pass that began at W0, with Q processed -/
def WP (g : Nat) (E : Nat → Nat → Bool) (W0 W : Nat → Nat) (Q : Nat → Nat → Prop) : Prop :=
  (∀ x, x < 48 → W x ≤ W0 x ∧ W x ≤ 1000000 ∧ (W x = 1000000 ∨ PP g E (W x) x)) ∧ ∀ x y, x < 48 → y < 48 → Q x y → E x y = true → W x ≤ W0 y + 1
theorem q_div8 {x : Nat} (h : x < 2 ^ 31) : nI x / nI 8 = nI (x / 8) := pk_div h (by omega) (by omega)
theorem q_lays {g nm : Nat} {E : Nat → Nat → Bool} {M : kD} (hn : nm ≤ 6) (hg : g < 8) (e0 : M.1 6 0 = nI nm)
    (hE0 : ∀ x y, y < 48 → E x y = true → y / 8 < nm)
    (hE : ∀ x y (N : kD), N.1 6 = M.1 6 → x < 48 → y < 48 → y / 8 < nm → f_X12_canFollow (nI (y / 8)) (nI (y % 8)) (nI (x / 8)) (nI (x % 8)) N = some (q_b (E x y))) :
    ∃ W : Nat → Nat, f_X12_laysWants (nI g) M = some (kSI M 23 (fun i => if i < 48 then nI (W i) else M.1 23 i)) ∧ (∀ x, x < 48 → W x ≤ 1000000 ∧ (W x = 1000000 ∨ PP g E (W x) x)) ∧ ∀ n x, x < 48 → PP g E n x → W x ≤ n := by
  -- the row of wants as a function of its numbers
  let R : (Nat → Nat) → Nat → Int32 := fun W i => if i < 48 then nI (W i) else M.1 23 i
  have hRu : ∀ (W : Nat → Nat) (i v : Nat), i < 48 → upd (R W) i (nI v) = R (fun j => if j = i then v else W j) := by
    intro W i v hi
    funext j
    show (if j = i then nI v else if j < 48 then nI (W j) else M.1 23 j) = if j < 48 then nI (if j = i then v else W j) else M.1 23 j
    by_cases hji : j = i
    · subst hji; rw [if_pos rfl, if_pos hi, if_pos rfl]
    · rw [if_neg hji, if_neg hji]
  have hRv : ∀ (W : Nat → Nat) (i : Nat), i < 48 → R W i = nI (W i) := fun W i hi => if_pos hi
  -- the passes
  have pass : ∀ (t : Nat) (W : Nat → Nat), t ≤ 48 → (∀ x, x < 48 → W x ≤ 1000000 ∧ (W x = 1000000 ∨ PP g E (W x) x)) → (∀ n x, n ≤ t → x < 48 → PP g E n x → W x ≤ n) → ∀ f, 100 - t < f →
      ∃ W2 : Nat → Nat, lp (fun _ _ => none) g_X12_laysWants_37 f (nI 1) (kSI M 23 (R W)) = some (kSI M 23 (R W2)) ∧ (∀ x, x < 48 → W2 x ≤ 1000000 ∧ (W2 x = 1000000 ∨ PP g E (W2 x) x)) ∧ ∀ n x, x < 48 → PP g E n x → W2 x ≤ n := by
    intro t
    obtain ⟨r, hr⟩ : ∃ r, r = 48 - t := ⟨_, rfl⟩
    induction r using Nat.strongRecOn generalizing t with
    | ind r ihr =>
    intro W ht hW hQ f hf
    obtain ⟨f, rfl⟩ : ∃ q, f = q + 1 := ⟨f - 1, by omega⟩
    rw [q_lp]
    have h37 : g_X12_laysWants_37 (lp (fun _ _ => none) g_X12_laysWants_37 f) (nI 1) (kSI M 23 (R W)) = lp (fun _ _ _ => none) (g_X12_laysWants_45 (lp (fun _ _ => none) g_X12_laysWants_37 f)) 2000 (nI 0) (nI 0) (kSI M 23 (R W)) := by
      generalize lp _ g_X12_laysWants_37 f = rc
      unfold g_X12_laysWants_37
      simp only [↓q_m1, q_lit, q_10, ↓reduceIte]
    rw [h37]
    have hrun := q_one (fun f2 i (z : Bool × (Nat → Nat)) => lp (fun _ _ _ => none) (g_X12_laysWants_45 (lp (fun _ _ => none) g_X12_laysWants_37 f)) f2 (q_b z.1) (nI i) (kSI M 23 (R z.2)))
      (fun i z => WP g E W z.2 (fun x _ => x < i) ∧ (z.1 = false → z.2 = W) ∧ (z.1 = true → ∃ x, x < 48 ∧ z.2 x < W x))
      (fun r1 => ∃ z : Bool × (Nat → Nat), r1 = lp (fun _ _ => none) g_X12_laysWants_37 f (q_b z.1) (kSI M 23 (R z.2)) ∧ WP g E W z.2 (fun _ _ => True) ∧ (z.1 = false → z.2 = W) ∧ (z.1 = true → ∃ x, x < 48 ∧ z.2 x < W x)) 48 ?_ ?_ 48 0 2000 (false, W) (by omega) (by omega) ⟨⟨fun x hx => ⟨Nat.le_refl _, hW x hx⟩, fun x y _ _ h9 => by omega⟩, fun _ => rfl, fun h9 => by cases h9⟩
    · obtain ⟨⟨b, W1⟩, e1, ⟨p1, p2⟩, p3, p4⟩ := hrun
      have e1' : lp (fun _ _ _ => none) (g_X12_laysWants_45 (lp (fun _ _ => none) g_X12_laysWants_37 f)) 2000 (nI 0) (nI 0) (kSI M 23 (R W)) = lp (fun _ _ => none) g_X12_laysWants_37 f (q_b b) (kSI M 23 (R W1)) := e1
      rw [e1']
      cases b with
      | false =>
        have hWW : W1 = W := p3 rfl
        subst hWW
        obtain ⟨f, rfl⟩ : ∃ q, f = q + 1 := ⟨f - 1, by omega⟩
        refine ⟨W1, ?_, hW, ?_⟩
        · rw [q_lp]
          generalize lp _ g_X12_laysWants_37 f = rc
          unfold g_X12_laysWants_37
          simp only [↓q_m1, q_lit, q_qb, ↓reduceIte]
        · intro n
          induction n with
          | zero => intro x hx hP; exact hQ 0 x (by omega) hx hP
          | succ n ihn =>
            intro x hx ⟨y, hy, hxy, hP⟩
            have h1 := ihn y hy hP
            have h2 : W1 x ≤ W1 y + 1 := p2 x y hx hy trivial hxy
            omega
      | true =>
        obtain ⟨x, hx, hlt⟩ := p4 rfl
        have ht47 : t < 47 := by
          rcases (p1 x hx).2.2 with h9 | h9
          · have := (hW x hx).1; omega
          · obtain ⟨m, hm1, hm2⟩ := md_ex h9
            have hm3 := md_47 hx hm2
            by_cases htm : m ≤ t
            · have := hQ m x htm hx hm2.1; omega
            · omega
        exact ihr (48 - (t + 1)) (by omega) (t + 1) rfl W1 (by omega) (fun x hx => (p1 x hx).2) (fun n x hn hx hP => by
          by_cases hnt : n ≤ t
          · exact Nat.le_trans (p1 x hx).1 (hQ n x hnt hx hP)
          · have hnt : n = t + 1 := by omega
            subst hnt
            obtain ⟨y, hy, hxy, hP⟩ := hP
            have h1 := hQ t y (Nat.le_refl _) hy hP
            have h2 : W1 x ≤ W y + 1 := p2 x y hx hy trivial hxy
            omega) f (by omega)
    · intro f2 i ⟨b, W1⟩ _ hi ⟨⟨p1, p2⟩, p3, p4⟩ ih
      simp only [q_lp]
      have h45 : g_X12_laysWants_45 (lp (fun _ _ => none) g_X12_laysWants_37 f) (lp (fun _ _ _ => none) (g_X12_laysWants_45 (lp (fun _ _ => none) g_X12_laysWants_37 f)) f2) (q_b b) (nI i) (kSI M 23 (R W1)) = lp (fun _ _ _ _ => none) (g_X12_laysWants_54 (lp (fun _ _ => none) g_X12_laysWants_37 f) (lp (fun _ _ _ => none) (g_X12_laysWants_45 (lp (fun _ _ => none) g_X12_laysWants_37 f)) f2)) 2000 (q_b b) (nI i) (nI 0) (kSI M 23 (R W1)) := by
        generalize lp _ g_X12_laysWants_37 f = rc
        generalize lp _ (g_X12_laysWants_45 rc) f2 = rc2
        unfold g_X12_laysWants_45
        simp (disch := omega) only [↓q_m1, q_lit, q_le, show ¬ 48 ≤ i by omega, ↓reduceIte]
      rw [h45]
      generalize lp _ (g_X12_laysWants_45 (lp (fun _ _ => none) g_X12_laysWants_37 f)) f2 = rc2 at ih ⊢
      generalize lp _ g_X12_laysWants_37 f = rc at ih ⊢
      refine q_one (fun f3 k (z : Bool × (Nat → Nat)) => lp (fun _ _ _ _ => none) (g_X12_laysWants_54 rc rc2) f3 (q_b z.1) (nI i) (nI k) (kSI M 23 (R z.2)))
        (fun k z => WP g E W z.2 (fun x y => x < i ∨ (x = i ∧ y < k)) ∧ (z.1 = false → z.2 = W) ∧ (z.1 = true → ∃ x, x < 48 ∧ z.2 x < W x))
        (fun r1 => ∃ z : Bool × (Nat → Nat), r1 = rc (q_b z.1) (kSI M 23 (R z.2)) ∧ WP g E W z.2 (fun _ _ => True) ∧ (z.1 = false → z.2 = W) ∧ (z.1 = true → ∃ x, x < 48 ∧ z.2 x < W x)) 48 ?_ ?_ 48 0 2000 (b, W1) (by omega) (by omega) ⟨⟨p1, fun x y hx hy h9 => p2 x y hx hy (by omega)⟩, p3, p4⟩
      · intro f3 k ⟨b, W1⟩ _ hk ⟨⟨p1, p2⟩, p3, p4⟩ ih3
        have p1 : ∀ x, x < 48 → W1 x ≤ W x ∧ W1 x ≤ 1000000 ∧ (W1 x = 1000000 ∨ PP g E (W1 x) x) := p1
        have hi2 := (p1 i hi).2.1
        have hk2 := (p1 k hk).2.1
        simp only [q_lp]
        generalize lp _ (g_X12_laysWants_54 rc rc2) f3 = rc3 at ih3 ⊢
        unfold g_X12_laysWants_54 g_X12_laysWants_138
        simp (disch := omega) only [↓q_m1, q_lit, ↓q_bd, ↓reduceIte, q_le, show ¬ 48 ≤ k by omega, q_lt, q_cl, Nat.not_lt_zero, false_or, show ¬ 48 ≤ i by omega, q_kSI, Nat.reduceEqDiff, hRv, nI_add, e0, q_div8, q_rem]
        by_cases h1 : W1 i ≤ W1 k + 1
        · rw [if_pos h1]
          exact ih3 (b, W1) ⟨⟨p1, fun x y hx hy h9 hxy => by
            by_cases hh : x < i ∨ (x = i ∧ y < k)
            · exact p2 x y hx hy hh hxy
            · have hx2 : x = i := by omega
              have hy2 : y = k := by omega
              subst hx2 hy2
              have := (p1 y hy).1
              show W1 x ≤ W y + 1
              omega⟩, p3, p4⟩
        · rw [if_neg h1]
          by_cases h2 : nm ≤ k / 8
          · rw [if_pos h2]
            exact ih3 (b, W1) ⟨⟨p1, fun x y hx hy h9 hxy => by
              by_cases hh : x < i ∨ (x = i ∧ y < k)
              · exact p2 x y hx hy hh hxy
              · have hy2 : y = k := by omega
                subst hy2
                have := hE0 x y hy hxy
                omega⟩, p3, p4⟩
          · rw [if_neg h2, hE i k (kSI M 23 (R W1)) rfl hi hk (by omega), q_bo]
            cases hik : E i k with
            | false =>
              rw [if_pos (show q_b false = nI 0 from rfl)]
              exact ih3 (b, W1) ⟨⟨p1, fun x y hx hy h9 hxy => by
                by_cases hh : x < i ∨ (x = i ∧ y < k)
                · exact p2 x y hx hy hh hxy
                · have hx2 : x = i := by omega
                  have hy2 : y = k := by omega
                  subst hx2 hy2
                  rw [hik] at hxy
                  cases hxy⟩, p3, p4⟩
            | true =>
              rw [if_neg (show ¬ q_b true = nI 0 by decide), q_SI, hRu _ _ _ hi]
              have hlow : W1 k + 1 < W1 i := by omega
              have hPk : PP g E (W1 k) k := by
                rcases (p1 k hk).2.2 with h9 | h9
                · omega
                · exact h9
              refine ih3 (true, fun j => if j = i then W1 k + 1 else W1 j) ⟨⟨fun x hx => ?_, fun x y hx hy h9 hxy => ?_⟩, (fun h9 => by cases h9), fun _ => ⟨i, hi, ?_⟩⟩
              · show (if x = i then W1 k + 1 else W1 x) ≤ W x ∧ (if x = i then W1 k + 1 else W1 x) ≤ 1000000 ∧ ((if x = i then W1 k + 1 else W1 x) = 1000000 ∨ PP g E (if x = i then W1 k + 1 else W1 x) x)
                by_cases hxi : x = i
                · subst hxi
                  simp only [if_true]
                  have := (p1 x hx).1
                  exact ⟨by omega, by omega, Or.inr ⟨k, hk, hik, hPk⟩⟩
                · simp only [hxi, if_false]
                  exact p1 x hx
              · show (if x = i then W1 k + 1 else W1 x) ≤ W y + 1
                have hkk := (p1 k hk).1
                by_cases hxi : x = i
                · subst hxi
                  rw [if_pos rfl]
                  by_cases hyk : y = k
                  · subst hyk; omega
                  · have h8 : W1 x ≤ W y + 1 := p2 x y hx hy (by omega) hxy
                    omega
                · rw [if_neg hxi]
                  exact p2 x y hx hy (by omega) hxy
              · show (if i = i then W1 k + 1 else W1 i) < W i
                rw [if_pos rfl]
                have := (p1 i hi).1
                omega
      · intro f3 ⟨b, W1⟩ ⟨⟨p1, p2⟩, p3, p4⟩
        simp only [q_lp]
        generalize lp _ (g_X12_laysWants_54 rc rc2) f3 = rc3
        unfold g_X12_laysWants_54 g_X12_laysWants_144
        simp (disch := omega) only [↓q_m1, q_lit, ↓q_bd, ↓reduceIte, q_le, Nat.le_refl, nI_add]
        exact ih (b, W1) ⟨⟨p1, fun x y hx hy h9 => p2 x y hx hy (by omega)⟩, p3, p4⟩
    · intro f2 ⟨b, W1⟩ ⟨⟨p1, p2⟩, p3, p4⟩
      refine ⟨(b, W1), ?_, ⟨p1, fun x y hx hy _ => p2 x y hx hy hx⟩, p3, p4⟩
      simp only [q_lp]
      generalize lp _ g_X12_laysWants_37 f = rc
      generalize lp _ (g_X12_laysWants_45 rc) f2 = rc2
      unfold g_X12_laysWants_45 g_X12_laysWants_150
      simp (disch := omega) only [↓q_m1, q_lit, ↓reduceIte, q_le, Nat.le_refl]
  -- the beginning
  have h0 : ∃ X : Nat → Int32, f_X12_laysWants (nI g) M = g_X12_laysWants_35 (kSI M 23 X) ∧ ∀ j, X j = if j < 48 then nI (if j % 8 = g then 0 else 1000000) else M.1 23 j := by
    have hh := q_one (fun f k (X : Nat → Int32) => lp (fun _ _ _ => none) g_X12_laysWants_2 f (nI g) (nI k) (kSI M 23 X)) (fun k X => ∀ j, X j = if j < k then nI (if j % 8 = g then 0 else 1000000) else M.1 23 j) (fun r1 => ∃ X : Nat → Int32, r1 = g_X12_laysWants_35 (kSI M 23 X) ∧ ∀ j, X j = if j < 48 then nI (if j % 8 = g then 0 else 1000000) else M.1 23 j) 48 ?_ ?_ 48 0 2000 (M.1 23) (by omega) (by omega) (fun j => by rw [if_neg (by omega)])
    · have e : kSI M 23 (M.1 23) = M := q_SM M 23
      rw [e] at hh
      exact hh
    · intro f k X _ hk hX ih
      simp only [q_lp]
      generalize lp _ g_X12_laysWants_2 f = rc at ih ⊢
      have hstep : ∀ v : Nat, (if k % 8 = g then 0 else 1000000) = v → ∃ X2 : Nat → Int32, rc (nI g) (nI (k + 1)) (kSI M 23 (upd X k (nI v))) = g_X12_laysWants_35 (kSI M 23 X2) ∧ ∀ j, X2 j = if j < 48 then nI (if j % 8 = g then 0 else 1000000) else M.1 23 j := fun v hv => ih (upd X k (nI v)) (fun j => by
        rw [q_up]
        by_cases hj : j = k
        · subst hj; rw [if_pos rfl, if_pos (show j < j + 1 by omega), hv]
        · rw [if_neg hj, hX j]
          by_cases hj2 : j < k
          · rw [if_pos hj2, if_pos (show j < k + 1 by omega)]
          · rw [if_neg hj2, if_neg (show ¬ j < k + 1 by omega)])
      unfold g_X12_laysWants_2 g_X12_laysWants_28
      simp (disch := omega) only [↓q_m1, q_lit, ↓q_bd, ↓reduceIte, q_le, show ¬ 48 ≤ k by omega, q_rem, q_eq, q_lt, Nat.not_lt_zero, false_or, q_cl, q_SI, nI_add]
      by_cases hkg : k % 8 = g
      · rw [if_pos hkg]; exact hstep 0 (if_pos hkg)
      · rw [if_neg hkg]; exact hstep 1000000 (if_neg hkg)
    · intro f X hX
      refine ⟨X, ?_, hX⟩
      simp only [q_lp]
      generalize lp _ g_X12_laysWants_2 f = rc
      unfold g_X12_laysWants_2
      simp (disch := omega) only [↓q_m1, q_lit, ↓reduceIte, q_le, Nat.le_refl]
  obtain ⟨X, h0, hX⟩ := h0
  have eX : X = R (fun i => if i % 8 = g then 0 else 1000000) := funext hX
  obtain ⟨W, w1, w2, w3⟩ := pass 0 (fun i => if i % 8 = g then 0 else 1000000) (by omega) (fun x hx => by
    by_cases h : x % 8 = g
    · have e : (if x % 8 = g then 0 else 1000000) = 0 := if_pos h
      exact ⟨by show (if x % 8 = g then 0 else 1000000) ≤ 1000000; rw [e]; omega, Or.inr (by show PP g E (if x % 8 = g then 0 else 1000000) x; rw [e]; exact h)⟩
    · have e : (if x % 8 = g then 0 else 1000000) = 1000000 := if_neg h
      exact ⟨by show (if x % 8 = g then 0 else 1000000) ≤ 1000000; rw [e]; exact Nat.le_refl _, Or.inl e⟩) (fun n x hn hx hP => by
    have hn0 : n = 0 := by omega
    subst hn0
    have hP : x % 8 = g := hP
    simp only [hP, if_true]
    omega) 2000 (by omega)
  refine ⟨W, ?_, w2, w3⟩
  rw [h0, eX]
  unfold g_X12_laysWants_35
  exact w1
