/-! machine-free: the common divisor; SHIP -/
theorem gcd_st (a b : Nat) : Nat.gcd b (a % b) = Nat.gcd a b := by
  rw [Nat.gcd_comm a b, Nat.gcd_rec b a, Nat.gcd_comm]
theorem mod_half {b r : Nat} (hr : 0 < r) (h : r < b) : 2 * (b % r) < b := by
  have h1 := Nat.mod_lt b hr
  have h2 : b % r + r ≤ b := by
    have := Nat.mod_add_div b r
    have h3 : 1 ≤ b / r := Nat.div_pos (by omega) hr
    have h4 : r * 1 ≤ r * (b / r) := Nat.mul_le_mul_left r h3
    omega
  omega
/-- the class's, with its bound of 100 steps -/
theorem q_cdC : ∀ n a b, b < 2 ^ n → n ≤ 31 → a < 2 ^ 31 → b < 2 ^ 31 → ∀ f k, 2 * n + 2 ≤ f → k + 2 * n + 1 ≤ 100 → lp (fun _ _ _ => none) g_X11_commonDivisor_7 f (nI a) (nI b) (nI k) = some (kMax (nI 1) (nI (Nat.gcd a b))) := by
  have hz : ∀ a k f, k < 100 → lp (fun _ _ _ => none) g_X11_commonDivisor_7 (f + 1) (nI a) (nI 0) (nI k) = some (kMax (nI 1) (nI (Nat.gcd a 0))) := by
    intro a k f hk
    simp only [q_lp]
    generalize lp _ g_X11_commonDivisor_7 f = rc
    unfold g_X11_commonDivisor_7 g_X11_commonDivisor_34
    simp (disch := omega) only [↓q_m1, q_lit, q_le, show ¬ 100 ≤ k by omega, ↓reduceIte, Nat.gcd_zero_right]
  have hst : ∀ a b k f, a < 2 ^ 31 → b < 2 ^ 31 → 0 < b → k < 100 → lp (fun _ _ _ => none) g_X11_commonDivisor_7 (f + 1) (nI a) (nI b) (nI k) = lp (fun _ _ _ => none) g_X11_commonDivisor_7 f (nI b) (nI (a % b)) (nI (k + 1)) := by
    intro a b k f ha hb hb0 hk
    simp only [q_lp]
    generalize lp _ g_X11_commonDivisor_7 f = rc
    unfold g_X11_commonDivisor_7
    simp (disch := omega) only [↓q_m1, q_lit, ↓q_bd, q_le, show ¬ 100 ≤ k by omega, ↓reduceIte, q_eq, show ¬ b = 0 by omega, q_rem, nI_add]
  intro n
  induction n with
  | zero =>
    intro a b hb _ _ _ f k hf hk
    obtain ⟨f, rfl⟩ : ∃ q, f = q + 1 := ⟨f - 1, by omega⟩
    have : b = 0 := by
      have : (2 : Nat) ^ 0 = 1 := rfl
      omega
    subst this
    exact hz a k f (by omega)
  | succ n ih =>
    intro a b hb hn ha hb2 f k hf hk
    obtain ⟨f, rfl⟩ : ∃ q, f = q + 2 := ⟨f - 2, by omega⟩
    by_cases hb0 : b = 0
    · subst hb0
      exact hz a k (f + 1) (by omega)
    · rw [hst a b k (f + 1) ha hb2 (by omega) (by omega), ← gcd_st a b]
      have hr := Nat.mod_lt a (show 0 < b by omega)
      generalize a % b = r at hr ⊢
      by_cases hr0 : r = 0
      · subst hr0
        exact hz b (k + 1) f (by omega)
      · rw [hst b r (k + 1) f hb2 (by omega) (by omega) (by omega), ← gcd_st b r]
        have hh := mod_half (show 0 < r by omega) hr
        have hp : (2 : Nat) ^ (n + 1) = 2 * 2 ^ n := by rw [Nat.pow_succ, Nat.mul_comm]
        exact ih r (b % r) (by omega) (by omega) (by omega) (by omega) f (k + 1 + 1) (by omega) (by omega)
theorem q_max1 {g : Nat} (h : 1 ≤ g) (hg : g < 2 ^ 31) : kMax (nI 1) (nI g) = nI g := by
  unfold kMax
  by_cases h1 : 1 < g
  · rw [if_pos (by rw [q_lt (by omega) hg]; exact h1)]
  · rw [if_neg (by rw [q_lt (by omega) hg]; exact h1), show g = 1 by omega]
theorem gcd_lt {a b : Nat} (ha : a < 2 ^ 31) (hb : b < 2 ^ 31) : Nat.gcd a b < 2 ^ 31 := by
  by_cases h : a = 0
  · subst h; rw [Nat.gcd_zero_left]; exact hb
  · exact Nat.lt_of_le_of_lt (Nat.le_of_dvd (by omega) (Nat.gcd_dvd_left a b)) ha
theorem q_cd {a b : Nat} (ha : a < 2 ^ 31) (hb : b < 2 ^ 31) (h : 0 < a ∨ 0 < b) : f_X11_commonDivisor (nI a) (nI b) = some (nI (Nat.gcd a b)) := by
  unfold f_X11_commonDivisor
  simp only [↓q_m1, q_lit]
  rw [q_cdC 31 a b hb (Nat.le_refl _) ha hb 2000 0 (by omega) (by omega), q_max1 ?_ (gcd_lt ha hb)]
  rcases h with h | h
  · exact Nat.gcd_pos_of_pos_left b h
  · exact Nat.gcd_pos_of_pos_right a h
theorem q_cdM1 : ∀ n a b, b < 2 ^ n → n ≤ 31 → a < 2 ^ 31 → b < 2 ^ 31 → ∀ f, 2 * n + 2 ≤ f → lp (fun _ _ => none) g_X12_common_4 f (nI a) (nI b) = some (nI (Nat.gcd a b)) := by
  have hz : ∀ a f, lp (fun _ _ => none) g_X12_common_4 (f + 1) (nI a) (nI 0) = some (nI (Nat.gcd a 0)) := by
    intro a f
    simp only [q_lp]
    generalize lp _ g_X12_common_4 f = rc
    unfold g_X12_common_4
    simp (disch := omega) only [↓q_m1, q_lit, ↓reduceIte, Nat.gcd_zero_right]
  have hst : ∀ a b f, a < 2 ^ 31 → b < 2 ^ 31 → 0 < b → lp (fun _ _ => none) g_X12_common_4 (f + 1) (nI a) (nI b) = lp (fun _ _ => none) g_X12_common_4 f (nI b) (nI (a % b)) := by
    intro a b f ha hb hb0
    simp only [q_lp]
    generalize lp _ g_X12_common_4 f = rc
    unfold g_X12_common_4
    simp (disch := omega) only [↓q_m1, q_lit, ↓q_bd, ↓reduceIte, q_eq, show ¬ b = 0 by omega, q_rem]
  intro n
  induction n with
  | zero =>
    intro a b hb _ _ _ f hf
    obtain ⟨f, rfl⟩ : ∃ q, f = q + 1 := ⟨f - 1, by omega⟩
    have : b = 0 := by
      have : (2 : Nat) ^ 0 = 1 := rfl
      omega
    subst this
    exact hz a f
  | succ n ih =>
    intro a b hb hn ha hb2 f hf
    obtain ⟨f, rfl⟩ : ∃ q, f = q + 2 := ⟨f - 2, by omega⟩
    by_cases hb0 : b = 0
    · subst hb0
      exact hz a (f + 1)
    · rw [hst a b (f + 1) ha hb2 (by omega), ← gcd_st a b]
      have hr := Nat.mod_lt a (show 0 < b by omega)
      generalize a % b = r at hr ⊢
      by_cases hr0 : r = 0
      · subst hr0
        exact hz b f
      · rw [hst b r f hb2 (by omega) (by omega), ← gcd_st b r]
        have hh := mod_half (show 0 < r by omega) hr
        have hp : (2 : Nat) ^ (n + 1) = 2 * 2 ^ n := by rw [Nat.pow_succ, Nat.mul_comm]
        exact ih r (b % r) (by omega) (by omega) (by omega) (by omega) f (by omega)
theorem q_cdR {a b : Nat} (ha : a < 2 ^ 31) (hb : b < 2 ^ 31) : f_X12_common (nI a) (nI b) = some (nI (Nat.gcd a b)) :=
  q_cdM1 31 a b hb (Nat.le_refl _) ha hb 2000 (by omega)
/-- the least that all losses divide -/
def lcT (T : Nat → Int32) : Nat → Nat
  | 0 => 1
  | k + 1 => lcT T k * (tN T k / Nat.gcd (tN T k) (lcT T k))
theorem q_tN {n : Nat} {T : Nat → Int32} {M : kD} (h : RZ n T M) {i : Nat} (hi : i < 940) : T i = nI (tN T i) ∧ tN T i < 256 := by
  obtain ⟨t, t1, t2, t3⟩ := h.2.2 i hi
  have : tN T i = t := by
    unfold tN
    rw [t2, q_cl (by omega)]
  rw [this]
  exact ⟨t2, t1⟩
theorem lcT_pos {T : Nat → Int32} {k : Nat} (h : ∀ i, i < k → 1 ≤ tN T i) : 1 ≤ lcT T k := by
  induction k with
  | zero => exact Nat.le_refl 1
  | succ k ih =>
    have h1 := ih (fun i hi => h i (by omega))
    have h2 := h k (by omega)
    have h3 : 1 ≤ tN T k / Nat.gcd (tN T k) (lcT T k) := Nat.div_pos (Nat.le_of_dvd h2 (Nat.gcd_dvd_left _ _)) (Nat.gcd_pos_of_pos_left _ h2)
    exact Nat.mul_le_mul h1 h3
theorem lcT_up {T : Nat → Int32} {k j : Nat} (h : ∀ i, i < j → 1 ≤ tN T i) (hk : k ≤ j) : lcT T k ≤ lcT T j := by
  induction j with
  | zero => rw [show k = 0 by omega]; exact Nat.le_refl _
  | succ j ih =>
    by_cases he : k = j + 1
    · rw [he]; exact Nat.le_refl _
    · have h1 := ih (fun i hi => h i (by omega)) (by omega)
      have h2 := h j (by omega)
      have h3 : 1 ≤ tN T j / Nat.gcd (tN T j) (lcT T j) := Nat.div_pos (Nat.le_of_dvd h2 (Nat.gcd_dvd_left _ _)) (Nat.gcd_pos_of_pos_left _ h2)
      exact Nat.le_trans h1 (Nat.le_mul_of_pos_right _ h3)
theorem lcT_le {T : Nat → Int32} {k : Nat} (h : ∀ i, i < k → tN T i ≤ 60) : lcT T k ≤ 60 ^ k := by
  induction k with
  | zero => exact Nat.le_refl 1
  | succ k ih =>
    have h1 := ih (fun i hi => h i (by omega))
    have h3 : tN T k / Nat.gcd (tN T k) (lcT T k) ≤ 60 := Nat.le_trans (Nat.div_le_self _ _) (h k (by omega))
    exact Nat.mul_le_mul h1 h3
theorem q_cmpLe {a b : Nat} (ha : a < 2 ^ 63) (hb : b < 2 ^ 63) : (lg_cmp (lN a) (lN b) ≤ nI 0) = (a ≤ b) := by
  unfold lg_cmp
  by_cases h : a ≤ b
  · have h1 : ¬ lN a > lN b := fun h9 => by
      have := (pk_lLT hb ha).mp h9
      omega
    rw [if_neg h1]
    by_cases h2 : a = b
    · subst h2
      rw [if_pos rfl]
      exact propext ⟨fun _ => h, fun _ => by decide⟩
    · rw [if_neg (fun h9 => h2 ((pk_lEQ ha hb).mp h9))]
      exact propext ⟨fun _ => h, fun _ => by decide⟩
  · rw [if_pos (show lN a > lN b from (pk_lLT hb ha).mpr (by omega))]
    exact propext ⟨fun h9 => absurd h9 (by decide), fun h9 => absurd h9 h⟩
/-- class: valid losses to the end -/
theorem q_shipC {n : Nat} {T : Nat → Int32} {K M : kD} (hz : RZ n T M) (hn : n ≤ 6) :
    lp (fun _ _ _ _ => none) (g_X11_ship_23 T) 2000 (nI n) (lN 1) (nI 0) K = some (if ∀ i, i < n → 1 ≤ tN T i ∧ tN T i ≤ 60 then if lcT T n ≤ 99999999 then nI (lcT T n) else mI else mI, K) := by
  have h60 : ∀ k, k ≤ 6 → (60 : Nat) ^ k ≤ 60 ^ 6 := fun k hk => Nat.pow_le_pow_right (by omega) hk
  have e60 : (60 : Nat) ^ 6 = 46656000000 := by decide
  refine q_one (fun f k (x : Int64) => lp (fun _ _ _ _ => none) (g_X11_ship_23 T) f (nI n) x (nI k) K) (fun k x => (∀ i, i < k → 1 ≤ tN T i ∧ tN T i ≤ 60) ∧ x = lN (lcT T k)) (fun r => r = some (if ∀ i, i < n → 1 ≤ tN T i ∧ tN T i ≤ 60 then if lcT T n ≤ 99999999 then nI (lcT T n) else mI else mI, K)) n ?_ ?_ n 0 2000 (lN 1) (by omega) (by omega) ⟨fun i hi => absurd hi (Nat.not_lt_zero i), rfl⟩
  · intro f k x _ hk ⟨hv, hx⟩ ih
    obtain ⟨t1, t2⟩ := q_tN hz (show k < 940 by omega)
    have hpos := lcT_pos (fun i hi => (hv i hi).1)
    have hle := Nat.le_trans (lcT_le (fun i hi => (hv i hi).2)) (h60 k (by omega))
    simp only [q_lp]
    generalize lp _ (g_X11_ship_23 T) f = rc at ih ⊢
    unfold g_X11_ship_23
    simp (disch := omega) only [↓q_m1, q_lit, ↓q_bd, q_le, show ¬ n ≤ k by omega, ↓reduceIte, q_lt, Nat.not_lt_zero, false_or, q_cl, show ¬ 940 ≤ k by omega, t1]
    by_cases hb : 1 ≤ tN T k ∧ tN T k ≤ 60
    · rw [if_neg (show ¬ tN T k < 1 by omega), if_pos hb.2]
      have e1 : (nI (tN T k)).toInt64 = lN (tN T k) := nI_l (by omega)
      have e2 : (kRemL x (lN (tN T k))).toInt32 = nI (lcT T k % tN T k) := by
        rw [hx]
        unfold kRemL
        rw [pk_lRem (by omega) (by omega) (by omega), lN_i]
      have hml := Nat.mod_lt (lcT T k) (show 0 < tN T k by omega)
      have e3 : Nat.gcd (lcT T k % tN T k) (tN T k) = Nat.gcd (tN T k) (lcT T k) := by
        rw [← Nat.gcd_rec]
      have hg1 : 1 ≤ Nat.gcd (tN T k) (lcT T k) := Nat.gcd_pos_of_pos_left _ (by omega)
      have hg2 : Nat.gcd (tN T k) (lcT T k) ≤ tN T k := Nat.le_of_dvd (by omega) (Nat.gcd_dvd_left _ _)
      have hz0 : ¬ lN (tN T k) = 0 := fun h9 => by
        have := (pk_lEQ (a := tN T k) (b := 0) (by omega) (by omega)).mp h9
        omega
      have hdv : tN T k / Nat.gcd (tN T k) (lcT T k) < 2 ^ 31 := Nat.lt_of_le_of_lt (Nat.div_le_self _ _) (by omega)
      rw [e1, if_neg hz0, e2, q_cd (by omega) (by omega) (Or.inr (by omega)), q_bo, e3]
      rw [if_neg (show ¬ nI (Nat.gcd (tN T k) (lcT T k)) = nI 0 by rw [q_eq (by omega) (by omega)]; omega), pk_div (by omega) hg1 (by omega), nI_l hdv, hx, lN_mul, nI_add]
      refine ih _ ⟨fun i hi => ?_, rfl⟩
      by_cases hik : i = k
      · subst hik; exact hb
      · exact hv i (by omega)
    · have hall : ¬ ∀ i, i < n → 1 ≤ tN T i ∧ tN T i ≤ 60 := fun h9 => hb (h9 k hk)
      rw [if_neg hall]
      by_cases hb1 : tN T k < 1
      · rw [if_pos hb1]
      · rw [if_neg hb1, if_neg (show ¬ tN T k ≤ 60 by omega)]
  · intro f x ⟨hv, hx⟩
    have hle := Nat.le_trans (lcT_le (fun i hi => (hv i hi).2)) (h60 n hn)
    simp only [q_lp]
    generalize lp _ (g_X11_ship_23 T) f = rc
    unfold g_X11_ship_23 g_X11_ship_77
    simp (disch := omega) only [↓q_m1, q_lit, q_litL, q_le, Nat.le_refl, ↓reduceIte, hx, q_cmpLe, lN_i]
    rw [if_pos hv]
    by_cases h9 : lcT T n ≤ 99999999
    · rw [if_pos h9, if_pos h9]
    · rw [if_neg h9, if_neg h9]
theorem q_shipM {n : Nat} {T : Nat → Int32} {M : kD} (hz : RZ n T M) (hn : n ≤ 6) :
    lp (fun _ _ => none) g_X12_ship_29 2000 (nI 0) M = some (if ∀ i, i < n → 1 ≤ tN T i ∧ tN T i ≤ 60 then if lcT T n ≤ 99999999 then nI (lcT T n) else mI else mI, M) := by
  have h3 : M.1 0 3 = nI n := hz.2.1
  refine q_one (fun f k (_ : Unit) => lp (fun _ _ => none) g_X12_ship_29 f (nI k) M) (fun k _ => ∀ i, i < k → 1 ≤ tN T i ∧ tN T i ≤ 60) (fun r => r = some (if ∀ i, i < n → 1 ≤ tN T i ∧ tN T i ≤ 60 then if lcT T n ≤ 99999999 then nI (lcT T n) else mI else mI, M)) n ?_ ?_ n 0 2000 () (by omega) (by omega) (fun i hi => absurd hi (Nat.not_lt_zero i))
  · intro f k _ _ hk hv ih
    obtain ⟨t1, t2⟩ := q_tN hz (show k < 940 by omega)
    simp only [q_lp]
    generalize lp _ g_X12_ship_29 f = rc at ih ⊢
    unfold g_X12_ship_29
    simp (disch := omega) only [↓q_m1, q_lit, ↓q_bd, h3, q_le, show ¬ n ≤ k by omega, ↓reduceIte, q_oct hz (show k < 940 by omega), ↓q_bo, nI_add]
    rw [t1]
    rcases q_isIn 0 1 60 (nI (tN T k)) (by omega) (by omega) with ⟨x, h1, h2, hx, h4⟩ | ⟨h1, h4, _⟩
    · rw [q_eq (by omega) (by omega)] at hx
      rw [h4, if_neg n10]
      refine ih () (fun i hi => ?_)
      by_cases hik : i = k
      · subst hik; omega
      · exact hv i (by omega)
    · rw [h4, if_pos rfl, if_neg (fun h9 => h1 (tN T k) (h9 k hk).1 (h9 k hk).2 rfl)]
  · intro f _ hv
    simp only [q_lp]
    generalize lp _ g_X12_ship_29 f = rc
    have hle := lcT_le (fun i hi => (hv i hi).2)
    unfold g_X12_ship_29 g_X12_ship_59
    simp (disch := omega) only [↓q_m1, q_lit, h3, q_le, Nat.le_refl, ↓reduceIte]
    rw [if_pos hv]
    have hover : ∀ f x, 99999999 < x → x < 2 ^ 31 → lp (fun _ _ _ => none) g_X12_ship_63 (f + 1) (nI x) (nI n) M = some (mI, M) := by
      intro f x hx hx2
      simp only [q_lp]
      generalize lp _ g_X12_ship_63 f = rc
      unfold g_X12_ship_63 g_X12_ship_119
      simp (disch := omega) only [↓q_m1, q_lit, h3, q_le, Nat.le_refl, ↓reduceIte, show ¬ x ≤ 99999999 by omega]
    refine q_one (fun f k (x : Nat) => lp (fun _ _ _ => none) g_X12_ship_63 f (nI x) (nI k) M) (fun k x => (x = lcT T k ∧ x ≤ 99999999) ∨ (x = 100000000 ∧ 99999999 < lcT T k)) (fun r => r = some (if lcT T n ≤ 99999999 then nI (lcT T n) else mI, M)) n ?_ ?_ n 0 2000 1 (by omega) (by omega) (Or.inl ⟨rfl, by omega⟩)
    · intro f k x _ hk hI ih
      obtain ⟨t1, t2⟩ := q_tN hz (show k < 940 by omega)
      obtain ⟨v1, v2⟩ := hv k hk
      simp only [q_lp]
      generalize lp _ g_X12_ship_63 f = rc at ih ⊢
      unfold g_X12_ship_63 g_X12_ship_112 g_X12_ship_119
      rcases hI with ⟨hx, hx9⟩ | ⟨hx, hx9⟩
      · have hpos := lcT_pos (fun i (hi : i < k) => (hv i (by omega)).1)
        have hg1 : 1 ≤ Nat.gcd (tN T k) x := Nat.gcd_pos_of_pos_left _ (by omega)
        have hg2 : Nat.gcd (tN T k) x ≤ tN T k := Nat.le_of_dvd (by omega) (Nat.gcd_dvd_left _ _)
        have hd1 : 1 ≤ tN T k / Nat.gcd (tN T k) x := Nat.div_pos hg2 hg1
        have hd2 : tN T k / Nat.gcd (tN T k) x ≤ tN T k := Nat.div_le_self _ _
        have enx : lcT T (k + 1) = x * (tN T k / Nat.gcd (tN T k) x) := by
          show lcT T k * _ = _
          rw [← hx]
        simp (disch := omega) only [↓q_m1, q_lit, ↓q_bd, h3, q_le, show ¬ n ≤ k by omega, ↓reduceIte, q_lt, show ¬ 99999999 < x by omega, q_oct hz (show k < 940 by omega), ↓q_bo, t1, q_cdR, q_eq, show ¬ Nat.gcd (tN T k) x = 0 by omega, pk_div]
        generalize hdd : tN T k / Nat.gcd (tN T k) x = dd at *
        have hq : 99999999 / dd < 2 ^ 31 := Nat.lt_of_le_of_lt (Nat.div_le_self _ _) (by omega)
        simp (disch := omega) only [q_eq, show ¬ dd = 0 by omega, ↓reduceIte, pk_div, q_le, pk_mul, nI_add]
        by_cases hfit : x ≤ 99999999 / dd
        · have : x * dd ≤ 99999999 := (Nat.le_div_iff_mul_le (by omega)).mp hfit
          rw [if_pos hfit]
          exact ih (x * dd) (Or.inl ⟨enx.symm, this⟩)
        · have : ¬ x * dd ≤ 99999999 := fun h9 => hfit ((Nat.le_div_iff_mul_le (by omega)).mpr h9)
          rw [if_neg hfit]
          exact ih 100000000 (Or.inr ⟨rfl, by omega⟩)
      · have hup := lcT_up (T := T) (k := k) (j := n) (fun i hi => (hv i hi).1) (by omega)
        rw [if_neg (show ¬ lcT T n ≤ 99999999 by omega)]
        simp (disch := omega) only [↓q_m1, q_lit, h3, q_le, show ¬ n ≤ k by omega, ↓reduceIte, q_lt, hx, show 99999999 < 100000000 by omega, show ¬ 100000000 ≤ 99999999 by omega]
    · intro f x hI
      rcases hI with ⟨hx, hx9⟩ | ⟨hx, hx9⟩
      · rw [← hx, if_pos hx9]
        simp only [q_lp]
        generalize lp _ g_X12_ship_63 f = rc
        unfold g_X12_ship_63 g_X12_ship_119
        simp (disch := omega) only [↓q_m1, q_lit, h3, q_le, Nat.le_refl, ↓reduceIte, hx9]
      · rw [if_neg (show ¬ lcT T n ≤ 99999999 by omega), hx]
        exact hover f 100000000 (by omega) (by omega)
theorem q_ship {n : Nat} {T : Nat → Int32} {K M : kD} (hR : RT n K T M) :
    ∃ r M', f_X11_ship K T = some (r, kI K 0 1 (nI 0)) ∧ f_X12_ship M = some (r, M') ∧ RT 0 (kI K 0 1 (nI 0)) T M' ∧ MXz M M' ∧ M'.1 0 0 = nI 0 := by
  obtain ⟨M31, t1, t2, t3, t4, t5, t6⟩ := q_take hR (nI 940)
  obtain ⟨M31', u1, u2, u3, u4, u5, u6, u7, u8⟩ := q_taken (kI M 0 0 (nI 0)) n (nI 940) hR.2.2.1
  have e31 : M31' = M31 := by
    rw [t1] at u1
    exact (Option.some.inj u1).symm
  rw [e31] at u8
  have h00 : M31.1 0 0 = nI 0 := (u8 0 (by omega) (by omega) (by omega) (by omega)).trans rfl
  have hn := hR.1
  have h3 : M31.1 0 3 = nI n := t2.2.1
  unfold f_X11_ship f_X12_ship
  rw [q_takeT hR.2.1]
  simp only [↓q_m1, q_lit, q_litL, ↓q_bd, ↓q_bo2]
  rw [t1, q_bo, h3]
  rcases q_isIn 0 1 6 (nI n) (by omega) (by omega) with ⟨x, h1, h2, hx, h4⟩ | ⟨h1, h4, _⟩
  · rw [q_eq (by omega) (by omega)] at hx
    rw [h4, if_neg n10, if_neg (by rw [q_lt (by omega) (by omega)]; omega), if_pos (by rw [q_le (by omega) (by omega)]; omega), q_shipC t2 (by omega), q_shipM t2 (by omega)]
    exact ⟨_, M31, rfl, rfl, t6, t3, h00⟩
  · have hno : n < 1 ∨ 6 < n := by
      by_cases h9 : 1 ≤ n ∧ n ≤ 6
      · exact absurd rfl (h1 n h9.1 h9.2)
      · omega
    rw [h4, if_pos rfl]
    refine ⟨mI, M31, ?_, rfl, t6, t3, h00⟩
    by_cases hb : n < 1
    · rw [if_pos (by rw [q_lt (by omega) (by omega)]; exact hb)]
    · rw [if_neg (by rw [q_lt (by omega) (by omega)]; exact hb), if_neg (by rw [q_le (by omega) (by omega)]; omega)]
