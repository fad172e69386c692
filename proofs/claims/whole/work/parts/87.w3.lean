/-! machine-free: WAYS: the first row, what to ask, the call -/
theorem smN_nz (f : Nat → Nat) (n : Nat) (h : smN f n ≠ 0) : ∃ k, k < n ∧ f k ≠ 0 := by
  induction n with
  | zero => exact absurd rfl h
  | succ n ih =>
    by_cases h1 : f n = 0
    · have h2 : smN f n ≠ 0 := by
        intro h9
        apply h
        show smN f n + f n = 0
        omega
      obtain ⟨k, k1, k2⟩ := ih h2
      exact ⟨k, by omega, k2⟩
    · exact ⟨n, by omega, h1⟩
theorem eN_nx {wr : Nat → Nat → Bool} {nm n j m : Nat} (h : eN wr nm n (j + 1) m ≠ 0) : ∃ k, k < nm ∧ k ≠ m ∧ eN wr nm n j k ≠ 0 := by
  have h1 : smN (fun k => if k = m then 0 else eN wr nm n j k) nm ≠ 0 := by
    intro h9
    apply h
    show (if wr m (n - 1 - (j + 1)) then smN (fun k => if k = m then 0 else eN wr nm n j k) nm else 0) = 0
    rw [h9, ite_self]
  obtain ⟨k, k1, k2⟩ := smN_nz _ _ h1
  have k2 : (if k = m then 0 else eN wr nm n j k) ≠ 0 := k2
  by_cases hkm : k = m
  · rw [if_pos hkm] at k2; exact absurd rfl k2
  · rw [if_neg hkm] at k2; exact ⟨k, k1, hkm, k2⟩
theorem q_k20 {rc : Int32 → Int32 → kD → Option kD} {rc20 : Int32 → Int32 → Int32 → kD → Option kD} {UF VF : Nat → Nat → Int32} {p : Int32} {i k : Nat} {RW : kD} (hi : i < 9) (hk : k < 6) : g_X6_keepFirst_20 rc UF VF rc20 p (nI i) (nI k) RW = if 5 ≤ k then g_X6_keepFirst_47 rc UF VF (nI i) (nI k) RW else if nI k = p then g_X6_keepFirst_41 rc rc20 UF VF p (nI i) (nI k) RW else if VF i k = nI 0 then g_X6_keepFirst_41 rc rc20 UF VF p (nI i) (nI k) RW else g_X6_keepFirst_47 rc UF VF (nI i) (nI k) RW := by
  rcases c9 hi with rfl | rfl | rfl | rfl | rfl | rfl | rfl | rfl | rfl <;>
    (unfold g_X6_keepFirst_20
     simp (disch := omega) only [↓q_m1, q_lit, q_le, q_lt, Nat.not_lt_zero, false_or, q_cl, Nat.reduceLeDiff, ↓reduceIte, q_eq, Nat.reduceEqDiff, show ¬ 6 ≤ k by omega])
theorem q_k23 {rc : Int32 → Int32 → kD → Option kD} {rc23 : Int32 → Int32 → Int32 → Int32 → kD → Option kD} {UF VF : Nat → Nat → Int32} {x1 x3 : Int32} {i k : Nat} {RW : kD} (hi : i < 9) (hk : k < 6) : g_X6_keepAskPlace_23 rc UF VF rc23 x1 (nI i) x3 (nI k) RW = rc23 x1 (nI i) (kMax x3 (UF i k * VF i k)) (nI (k + 1)) RW := by
  rcases c9 hi with rfl | rfl | rfl | rfl | rfl | rfl | rfl | rfl | rfl <;>
    (unfold g_X6_keepAskPlace_23
     simp (disch := omega) only [↓q_m1, q_lit, ↓q_bd, q_le, show ¬ 6 ≤ k by omega, q_lt, Nat.not_lt_zero, false_or, q_cl, Nat.reduceLeDiff, ↓reduceIte, q_eq, Nat.reduceEqDiff, nI_add])
section ways
variable {n nm np : Nat} {T : Nat → Int32} {O S M : kD}
theorem q_first {wr : Nat → Nat → Bool} {RW X : kD} {UF VF : Nat → Nat → Int32} (x1 : Int32) (hn : nm ≤ 6) (h1 : 1 ≤ n) (h9 : n ≤ 9) (hV : ∀ i, i < n → ∀ m, m < 6 → VF i m = nI (eN wr nm n (n - 1 - i) m)) (hX : ∀ i, i < n → ∀ m, m < nm → X.1 27 (6 * i + m) = nI (eN wr nm n (n - 1 - i) m)) (rw3 : RW.1 0 3 = nI n) (x03 : X.1 0 3 = nI n) (hex : ∃ m, m < nm ∧ eN wr nm n (n - 1) m ≠ 0) :
    ∃ a b, f_X6_keepFirst RW UF VF = some (kSI RW 2 a) ∧ lp (fun _ _ _ _ => none) g_X12_ways_72 2000 x1 mI (nI 0) X = g_X12_ways_127 x1 (kSI X 28 b) ∧ ∀ j, j < n → a j = b j := by
  have hlt : ∀ i, i < n → ∀ m, eN wr nm n (n - 1 - i) m < 2 ^ 31 := fun i hi m => Nat.lt_of_le_of_lt (eN_le hn _ _) (Nat.lt_of_le_of_lt (Nat.pow_le_pow_right (by omega) (show n - 1 - i ≤ 8 by omega)) (by decide))
  have r3 : ∀ a, (kSI RW 2 a).1 0 3 = nI n := fun a => rw3
  have b3 : ∀ b, (kSI X 28 b).1 0 3 = nI n := fun b => x03
  have b27 : ∀ b, (kSI X 28 b).1 27 = X.1 27 := fun b => rfl
  have key := q_two (fun f i (x : Int32 × (Nat → Int32)) => lp (fun _ _ _ => none) (g_X6_keepFirst_4 UF VF) f x.1 (nI i) (kSI RW 2 x.2)) (fun f i (y : Int32 × (Nat → Int32)) => lp (fun _ _ _ _ => none) g_X12_ways_72 f x1 y.1 (nI i) (kSI X 28 y.2))
    (fun i x y => x.1 = y.1 ∧ (∀ j, j < i → x.2 j = y.2 j) ∧ (i < n → ∃ m, m < nm ∧ x.1 ≠ nI m ∧ eN wr nm n (n - 1 - i) m ≠ 0))
    (fun r1 r2 => ∃ a b, r1 = some (kSI RW 2 a) ∧ r2 = g_X12_ways_127 x1 (kSI X 28 b) ∧ ∀ j, j < n → a j = b j) n ?_ ?_ n 0 2000 2000 (mI, RW.1 2) (mI, X.1 28) (by omega) (by omega) (by omega) ⟨rfl, fun j hj => absurd hj (Nat.not_lt_zero j), fun _ => by
      obtain ⟨m, m1, m2⟩ := hex
      exact ⟨m, m1, fun h => by rw [q_neg' m (by omega)] at h; exact h, m2⟩⟩
  · obtain ⟨a, b, k1, k2, k3⟩ := key
    refine ⟨a, b, ?_, ?_, k3⟩
    · unfold f_X6_keepFirst
      simp only [↓q_m1, q_lit]
      have e : kSI RW 2 (RW.1 2) = RW := q_SM RW 2
      rw [← k1]
      show _ = lp (fun _ _ _ => none) (g_X6_keepFirst_4 UF VF) 2000 mI (nI 0) (kSI RW 2 (RW.1 2))
      rw [e]
    · rw [← k2]
      have e : kSI X 28 (X.1 28) = X := q_SM X 28
      show _ = lp (fun _ _ _ _ => none) g_X12_ways_72 2000 x1 mI (nI 0) (kSI X 28 (X.1 28))
      rw [e]
  · rintro f g i ⟨p, a⟩ ⟨p', b⟩ _ _ hi ⟨hpp, hab, hcan⟩ ih
    have hpp : p = p' := hpp
    subst hpp
    have hab : ∀ j, j < i → a j = b j := hab
    obtain ⟨cc, c1, c2, c3⟩ := hcan hi
    have c2 : p ≠ nI cc := c2
    simp only [q_lp]
    generalize lp _ (g_X6_keepFirst_4 UF VF) f = rc at ih ⊢
    generalize lp _ g_X12_ways_72 g = rd at ih ⊢
    have hC : g_X6_keepFirst_4 UF VF rc p (nI i) (kSI RW 2 a) = lp (fun _ _ _ _ => none) (g_X6_keepFirst_20 rc UF VF) 2000 p (nI i) (nI 0) (kSI RW 2 a) := by
      unfold g_X6_keepFirst_4
      simp (disch := omega) only [↓q_m1, q_lit, r3, q_le, show ¬ n ≤ i by omega, show ¬ 9 ≤ i by omega, ↓reduceIte]
    have hD : g_X12_ways_72 rd x1 p (nI i) (kSI X 28 b) = lp (fun _ _ _ _ _ => none) (g_X12_ways_83 rd) 2000 x1 p (nI i) (nI 0) (kSI X 28 b) := by
      unfold g_X12_ways_72
      simp (disch := omega) only [↓q_m1, q_lit, b3, q_le, show ¬ n ≤ i by omega, ↓reduceIte]
    show ∃ a' b', g_X6_keepFirst_4 UF VF rc p (nI i) (kSI RW 2 a) = _ ∧ g_X12_ways_72 rd x1 p (nI i) (kSI X 28 b) = _ ∧ _
    rw [hC, hD]
    refine q_two (fun f2 k (_ : Unit) => lp (fun _ _ _ _ => none) (g_X6_keepFirst_20 rc UF VF) f2 p (nI i) (nI k) (kSI RW 2 a)) (fun f2 k (_ : Unit) => lp (fun _ _ _ _ _ => none) (g_X12_ways_83 rd) f2 x1 p (nI i) (nI k) (kSI X 28 b)) (fun k _ _ => ∀ m, m < k → p = nI m ∨ eN wr nm n (n - 1 - i) m = 0) (fun r1 r2 => ∃ a' b', r1 = some (kSI RW 2 a') ∧ r2 = g_X12_ways_127 x1 (kSI X 28 b') ∧ ∀ j, j < n → a' j = b' j) nm ?_ ?_ nm 0 2000 2000 () () (by omega) (by omega) (by omega) (fun m hm => absurd hm (Nat.not_lt_zero m))
    · intro f2 g2 k _ _ _ _ hk hno ih2
      have hkc : k ≤ cc := by
        by_cases h8 : k ≤ cc
        · exact h8
        · rcases hno cc (by omega) with h7 | h7
          · exact absurd h7 c2
          · exact absurd h7 c3
      simp only [q_lp]
      generalize lp _ (g_X6_keepFirst_20 rc UF VF) f2 = rc2 at ih2 ⊢
      generalize lp _ (g_X12_ways_83 rd) g2 = rd2 at ih2 ⊢
      rw [q_k20 (by omega) (by omega)]
      have hv := hV i hi k (by omega)
      have hx := hX i hi k hk
      have hl := hlt i hi k
      have h104 : g_X12_ways_104 rd rd2 x1 p (nI i) (nI k) (kSI X 28 b) = rd2 x1 p (nI i) (nI (k + 1)) (kSI X 28 b) := by
        unfold g_X12_ways_104
        simp only [↓q_m1, q_lit, ↓q_bd, nI_add]
      have h110 : g_X12_ways_110 rd x1 (nI i) (nI k) (kSI X 28 b) = rd x1 (nI k) (nI (i + 1)) (kSI X 28 (upd b i (nI k))) := by
        unfold g_X12_ways_110
        simp (disch := omega) only [↓q_m1, q_lit, ↓q_bd, q_lt, Nat.not_lt_zero, false_or, q_cl, show ¬ 9 ≤ i by omega, ↓reduceIte, q_SI, nI_add]
      have h41 : g_X6_keepFirst_41 rc rc2 UF VF p (nI i) (nI k) (kSI RW 2 a) = rc2 p (nI i) (nI (k + 1)) (kSI RW 2 a) := by
        unfold g_X6_keepFirst_41
        simp only [↓q_m1, q_lit, ↓q_bd, nI_add]
      have h47 : g_X6_keepFirst_47 rc UF VF (nI i) (nI k) (kSI RW 2 a) = rc (nI k) (nI (i + 1)) (kSI RW 2 (upd a i (nI k))) := by
        unfold g_X6_keepFirst_47
        simp (disch := omega) only [↓q_m1, q_lit, ↓q_bd, q_lt, Nat.not_lt_zero, false_or, q_cl, show ¬ 9 ≤ i by omega, ↓reduceIte, q_SI, nI_add]
      have h83 : g_X12_ways_83 rd rd2 x1 p (nI i) (nI k) (kSI X 28 b) = if nI k = p then rd2 x1 p (nI i) (nI (k + 1)) (kSI X 28 b) else if eN wr nm n (n - 1 - i) k = 0 then rd2 x1 p (nI i) (nI (k + 1)) (kSI X 28 b) else rd x1 (nI k) (nI (i + 1)) (kSI X 28 (upd b i (nI k))) := by
        unfold g_X12_ways_83
        rw [h104, h110]
        simp (disch := omega) only [↓q_m1, q_lit, ↓q_bd, pk_mul, nI_add, q_lt, Nat.not_lt_zero, false_or, q_cl, show ¬ 54 ≤ 6 * i + k by omega, ↓reduceIte, b27, hx, q_eq]
      rw [h83, h41, h47, hv]
      have hveq : (nI (eN wr nm n (n - 1 - i) k) = nI 0) = (eN wr nm n (n - 1 - i) k = 0) := q_eq hl (by omega)
      simp only [hveq]
      by_cases hcand : ¬ nI k = p ∧ ¬ eN wr nm n (n - 1 - i) k = 0
      · rw [if_neg hcand.1, if_neg hcand.2, if_neg hcand.1, if_neg hcand.2, ite_self]
        refine ih (nI k, upd a i (nI k)) (nI k, upd b i (nI k)) ⟨rfl, fun j hj => ?_, fun hi1 => ?_⟩
        · show upd a i (nI k) j = upd b i (nI k) j
          by_cases hji : j = i
          · subst hji; rw [up_eq, up_eq]
          · rw [up_ne hji, up_ne hji]; exact hab j (by omega)
        · have hnz : eN wr nm n (n - 1 - (i + 1) + 1) k ≠ 0 := by
            rw [show n - 1 - (i + 1) + 1 = n - 1 - i by omega]; exact hcand.2
          obtain ⟨q, q1, q2, q3⟩ := eN_nx hnz
          refine ⟨q, q1, fun h8 => ?_, q3⟩
          have h8 : nI k = nI q := h8
          rw [q_eq (by omega) (by omega)] at h8
          exact q2 h8.symm
      · have hkk : k < cc := by
          have hne : k ≠ cc := by
            intro h8
            subst h8
            exact hcand ⟨fun h7 => c2 h7.symm, c3⟩
          omega
        rw [if_neg (show ¬ 5 ≤ k by omega)]
        have hgo : p = nI k ∨ eN wr nm n (n - 1 - i) k = 0 := by
          by_cases h8 : nI k = p
          · exact Or.inl h8.symm
          · by_cases h7 : eN wr nm n (n - 1 - i) k = 0
            · exact Or.inr h7
            · exact absurd ⟨h8, h7⟩ hcand
        have hI2 : ∀ m, m < k + 1 → p = nI m ∨ eN wr nm n (n - 1 - i) m = 0 := by
          intro m hm
          by_cases hmk : m = k
          · subst hmk; exact hgo
          · exact hno m (by omega)
        by_cases h8 : nI k = p
        · rw [if_pos h8, if_pos h8]; exact ih2 () () hI2
        · rw [if_neg h8, if_neg h8]
          rcases hgo with h7 | h7
          · exact absurd h7.symm h8
          · rw [if_pos h7, if_pos h7]; exact ih2 () () hI2
    · intro f2 g2 _ _ hno
      rcases hno cc c1 with h7 | h7
      · exact absurd h7 c2
      · exact absurd h7 c3
  · rintro f g ⟨p, a⟩ ⟨p', b⟩ ⟨hpp, hab, _⟩
    have hab : ∀ j, j < n → a j = b j := hab
    refine ⟨a, b, ?_, ?_, hab⟩
    · simp only [q_lp]
      generalize lp _ (g_X6_keepFirst_4 UF VF) f = rc
      show g_X6_keepFirst_4 UF VF rc p (nI n) (kSI RW 2 a) = _
      unfold g_X6_keepFirst_4
      simp (disch := omega) only [↓q_m1, q_lit, r3, q_le, Nat.le_refl, ↓reduceIte]
    · simp only [q_lp]
      generalize lp _ g_X12_ways_72 g = rd
      show g_X12_ways_72 rd x1 p' (nI n) (kSI X 28 b) = _
      unfold g_X12_ways_72
      simp (disch := omega) only [↓q_m1, q_lit, b3, q_le, Nat.le_refl, ↓reduceIte]
/-- the most that one machine's ways are at a place -/
def mxN (wr : Nat → Nat → Bool) (nm n i : Nat) : Nat → Nat
  | 0 => 0
  | k + 1 => max (mxN wr nm n i k) (uN wr nm i k * eN wr nm n (n - 1 - i) k)
theorem ue_le {wr : Nat → Nat → Bool} {nm n i k : Nat} (hn : nm ≤ 6) (hi : i < n) (h9 : n ≤ 9) : uN wr nm i k * eN wr nm n (n - 1 - i) k ≤ 1679616 := by
  have h1 := Nat.mul_le_mul (uN_le (wr := wr) hn i k) (eN_le (wr := wr) (n := n) hn (n - 1 - i) k)
  rw [← Nat.pow_add, show i + (n - 1 - i) = n - 1 by omega] at h1
  exact Nat.le_trans h1 (Nat.le_trans (Nat.pow_le_pow_right (by omega) (show n - 1 ≤ 8 by omega)) (by decide))
theorem mxN_le {wr : Nat → Nat → Bool} {nm n i : Nat} (hn : nm ≤ 6) (hi : i < n) (h9 : n ≤ 9) : ∀ k, mxN wr nm n i k ≤ 1679616 := by
  intro k
  induction k with
  | zero => exact Nat.zero_le _
  | succ k ih => exact Nat.max_le.mpr ⟨ih, ue_le hn hi h9⟩
theorem mxN_cut {wr : Nat → Nat → Bool} {nm n i : Nat} (hn : nm ≤ 6) (hz : ∀ m, nm ≤ m → ∀ i, wr m i = false) : mxN wr nm n i 6 = mxN wr nm n i nm := by
  have h : ∀ d, nm + d ≤ 6 → mxN wr nm n i (nm + d) = mxN wr nm n i nm := by
    intro d
    induction d with
    | zero => intro _; rfl
    | succ d ih =>
      intro hd
      show max (mxN wr nm n i (nm + d)) (uN wr nm i (nm + d) * _) = _
      rw [uN_z (hz (nm + d) (by omega)), Nat.zero_mul, Nat.max_eq_left (Nat.zero_le _)]
      exact ih (by omega)
  have := h (6 - nm) (by omega)
  rw [show nm + (6 - nm) = 6 by omega] at this
  exact this
theorem q_mostC {rc : Int32 → Int32 → kD → Option kD} {wr : Nat → Nat → Bool} {UF VF : Nat → Nat → Int32} {RW : kD} {x1 : Int32} {i : Nat} (hn : nm ≤ 6) (hi : i < n) (h9 : n ≤ 9) (hz : ∀ m, nm ≤ m → ∀ i, wr m i = false) (hU : ∀ m, m < 6 → UF i m = nI (uN wr nm i m)) (hV : ∀ m, m < 6 → VF i m = nI (eN wr nm n (n - 1 - i) m)) :
    lp (fun _ _ _ _ _ => none) (g_X6_keepAskPlace_23 rc UF VF) 2000 x1 (nI i) (nI 0) (nI 0) RW = g_X6_keepAskPlace_60 rc UF VF x1 (nI i) (nI (mxN wr nm n i nm)) RW := by
  rw [← mxN_cut hn hz]
  refine q_one (fun f k (x : Nat) => lp (fun _ _ _ _ _ => none) (g_X6_keepAskPlace_23 rc UF VF) f x1 (nI i) (nI x) (nI k) RW) (fun k x => x = mxN wr nm n i k) (fun r => r = g_X6_keepAskPlace_60 rc UF VF x1 (nI i) (nI (mxN wr nm n i 6)) RW) 6 ?_ ?_ 6 0 2000 0 (by omega) (by omega) rfl
  · intro f k x _ hk hx ih
    simp only [q_lp]
    generalize lp _ (g_X6_keepAskPlace_23 rc UF VF) f = rc2 at ih ⊢
    have h1 := ue_le (wr := wr) (k := k) hn hi h9
    have h2 := mxN_le (wr := wr) hn hi h9 k
    rw [q_k23 (by omega) hk, hU k hk, hV k hk, pk_mul, (q_grt x _ (by omega) (by omega)).2]
    exact ih _ (by rw [hx]; rfl)
  · intro f x hx
    simp only [q_lp]
    generalize lp _ (g_X6_keepAskPlace_23 rc UF VF) f = rc2
    unfold g_X6_keepAskPlace_23
    simp (disch := omega) only [↓q_m1, q_lit, q_le, Nat.le_refl, ↓reduceIte, hx]
theorem q_mostM {wr : Nat → Nat → Bool} {X : kD} {i : Nat} (hn : nm ≤ 6) (hi : i < n) (h9 : n ≤ 9) (hw : WR n nm wr T O M) (x1 : X.1 1 = M.1 1) (x6 : X.1 6 = M.1 6) (x60 : M.1 6 0 = nI nm) (hU : ∀ m, m < nm → X.1 26 (6 * i + m) = nI (uN wr nm i m)) (hV : ∀ m, m < nm → X.1 27 (6 * i + m) = nI (eN wr nm n (n - 1 - i) m)) :
    f_X12_mostAt (nI i) X = some (nI (mxN wr nm n i nm)) := by
  have e60 : X.1 6 0 = nI nm := by rw [x6]; exact x60
  unfold f_X12_mostAt
  simp only [↓q_m1, q_lit]
  refine q_one (fun f k (x : Nat) => lp (fun _ _ _ => none) (g_X12_mostAt_4 X) f (nI i) (nI x) (nI k)) (fun k x => x = mxN wr nm n i k) (fun r => r = some (nI (mxN wr nm n i nm))) nm ?_ ?_ nm 0 2000 0 (by omega) (by omega) rfl
  · intro f k x _ hk hx ih
    simp only [q_lp]
    generalize lp _ (g_X12_mostAt_4 X) f = rc at ih ⊢
    have h1 := ue_le (wr := wr) (k := k) hn hi h9
    have h2 := mxN_le (wr := wr) hn hi h9 k
    have hwm := hw.2.1 k i hi hk X x1 x6
    have h51 : ∀ b, b < 2 ^ 31 → g_X12_mostAt_51 rc X (nI i) (nI k) (nI x) (nI b) = rc (nI i) (nI (max x b)) (nI (k + 1)) := by
      intro b hb
      unfold g_X12_mostAt_51
      simp only [↓q_m1, q_lit, ↓q_bd, (q_grt x b (by omega) hb).1, nI_add]
    unfold g_X12_mostAt_4
    simp (disch := omega) only [↓q_m1, q_lit, ↓q_bd, e60, q_cl, q_le, show ¬ nm ≤ k by omega, ↓reduceIte, hwm, ↓q_bo, q_qb, pk_mul, nI_add, q_lt, Nat.not_lt_zero, false_or, show ¬ 54 ≤ 6 * i + k by omega, hU k hk, hV k hk, h51]
    have hmx : mxN wr nm n i (k + 1) = max (mxN wr nm n i k) (uN wr nm i k * eN wr nm n (n - 1 - i) k) := rfl
    by_cases hb : wr k i = false
    · rw [if_pos hb]
      have hu0 : uN wr nm i k = 0 := by
        cases i with
        | zero => show (if wr k 0 then 1 else 0) = 0; rw [hb]; rfl
        | succ i => show (if wr k (i + 1) then _ else 0) = 0; rw [hb]; rfl
      exact ih _ (by rw [hmx, hu0, Nat.zero_mul, hx])
    · rw [if_neg hb]
      exact ih _ (by rw [hmx, hx])
  · intro f x hx
    simp only [q_lp]
    generalize lp _ (g_X12_mostAt_4 X) f = rc
    unfold g_X12_mostAt_4
    simp (disch := omega) only [↓q_m1, q_lit, e60, q_cl, q_le, Nat.le_refl, ↓reduceIte, hx]
theorem q_ask {wr : Nat → Nat → Bool} {RW X : kD} {UF VF : Nat → Nat → Int32} (x1 : Int32) (hn : nm ≤ 6) (h1 : 1 ≤ n) (h9 : n ≤ 9) (hw : WR n nm wr T O M) (xx1 : X.1 1 = M.1 1) (xx6 : X.1 6 = M.1 6) (x60 : M.1 6 0 = nI nm) (hU : ∀ i, i < n → ∀ m, m < 6 → UF i m = nI (uN wr nm i m)) (hV : ∀ i, i < n → ∀ m, m < 6 → VF i m = nI (eN wr nm n (n - 1 - i) m)) (hX26 : ∀ i, i < n → ∀ m, m < nm → X.1 26 (6 * i + m) = nI (uN wr nm i m)) (hX27 : ∀ i, i < n → ∀ m, m < nm → X.1 27 (6 * i + m) = nI (eN wr nm n (n - 1 - i) m)) (rw3 : RW.1 0 3 = nI n) (x03 : X.1 0 3 = nI n) :
    ∃ b, f_X6_keepAskPlace RW UF VF = some (kI RW 0 4 (nI b)) ∧ g_X12_ways_127 x1 X = some (x1, kI X 0 30 (nI b)) := by
  have hmC : ∀ i, i < n → ∀ rc x RW', lp (fun _ _ _ _ _ => none) (g_X6_keepAskPlace_23 rc UF VF) 2000 x (nI i) (nI 0) (nI 0) RW' = g_X6_keepAskPlace_60 rc UF VF x (nI i) (nI (mxN wr nm n i nm)) RW' := fun i hi rc x RW' => q_mostC hn hi h9 hw.2.2 (hU i hi) (hV i hi)
  have hmM : ∀ i, i < n → ∀ b, f_X12_mostAt (nI i) (kI X 0 30 (nI b)) = some (nI (mxN wr nm n i nm)) := fun i hi b => q_mostM (X := kI X 0 30 (nI b)) hn hi h9 hw xx1 xx6 x60 (hX26 i hi) (hX27 i hi)
  have hml : ∀ i, i < n → mxN wr nm n i nm < 2 ^ 31 := fun i hi => Nat.lt_of_le_of_lt (mxN_le hn hi h9 nm) (by decide)
  have r3 : ∀ b, (kI RW 0 4 (nI b)).1 0 3 = nI n := fun b => rw3
  have b3 : ∀ b, (kI X 0 30 (nI b)).1 0 3 = nI n := fun b => x03
  have key := q_two (fun f k (b : Nat) => lp (fun _ _ _ => none) (g_X6_keepAskPlace_4 UF VF) f (nI (mxN wr nm n b nm)) (nI (1 + k)) (kI RW 0 4 (nI b))) (fun f k (b : Nat) => lp (fun _ _ _ => none) g_X12_ways_134 f x1 (nI (1 + k)) (kI X 0 30 (nI b))) (fun _ b b' => b = b' ∧ b < n) (fun r1 r2 => ∃ b, r1 = some (kI RW 0 4 (nI b)) ∧ r2 = some (x1, kI X 0 30 (nI b))) (n - 1) ?_ ?_ (n - 1) 0 1999 2000 0 0 (by omega) (by omega) (by omega) ⟨rfl, by omega⟩
  · obtain ⟨b, k1, k2⟩ := key
    refine ⟨b, ?_, ?_⟩
    · unfold f_X6_keepAskPlace
      simp only [↓q_m1, q_lit]
      rw [← k1, q_lp]
      generalize lp _ (g_X6_keepAskPlace_4 UF VF) 1999 = rc
      have hst : g_X6_keepAskPlace_4 UF VF rc (nI 0) (nI 0) RW = lp (fun _ _ _ _ _ => none) (g_X6_keepAskPlace_23 rc UF VF) 2000 (nI 0) (nI 0) (nI 0) (nI 0) RW := by
        unfold g_X6_keepAskPlace_4
        simp (disch := omega) only [↓q_m1, q_lit, rw3, q_le, show ¬ n ≤ 0 by omega, ↓reduceIte, show ¬ 9 ≤ 0 by omega]
      rw [hst, hmC 0 (by omega)]
      unfold g_X6_keepAskPlace_60 g_X6_keepAskPlace_69 g_X6_keepAskPlace_76
      simp only [↓q_m1, q_lit, ↓q_bd, ↓reduceIte, nI_add]
    · unfold g_X12_ways_127
      simp only [↓q_m1, q_lit, ↓q_bd]
      exact k2
  · intro f g k b b' _ _ hk ⟨hbb, hbn⟩ ih
    subst hbb
    simp only [q_lp]
    generalize lp _ (g_X6_keepAskPlace_4 UF VF) f = rc at ih ⊢
    generalize lp _ g_X12_ways_134 g = rd at ih ⊢
    have hst : g_X6_keepAskPlace_4 UF VF rc (nI (mxN wr nm n b nm)) (nI (1 + k)) (kI RW 0 4 (nI b)) = lp (fun _ _ _ _ _ => none) (g_X6_keepAskPlace_23 rc UF VF) 2000 (nI (mxN wr nm n b nm)) (nI (1 + k)) (nI 0) (nI 0) (kI RW 0 4 (nI b)) := by
      unfold g_X6_keepAskPlace_4
      simp (disch := omega) only [↓q_m1, q_lit, r3, q_le, show ¬ n ≤ 1 + k by omega, ↓reduceIte, show ¬ 9 ≤ 1 + k by omega]
    have h30 : (kI X 0 30 (nI b)).1 0 30 = nI b := rfl
    have hb1 := hml (1 + k) (by omega)
    have hb2 := hml b hbn
    rw [hst, hmC (1 + k) (by omega)]
    unfold g_X6_keepAskPlace_60 g_X6_keepAskPlace_69 g_X6_keepAskPlace_76 g_X12_ways_134 g_X12_ways_163
    simp (disch := omega) only [↓q_m1, q_lit, ↓q_bd, b3, q_le, show ¬ n ≤ 1 + k by omega, ↓reduceIte, hmM (1 + k) (show 1 + k < n by omega), h30, hmM b hbn, ↓q_bo, q_eq, show ¬ 1 + k = 0 by omega, nI_add, show 1 + k + 1 = 1 + (k + 1) by omega, q_II]
    by_cases hcmp : mxN wr nm n b nm ≤ mxN wr nm n (1 + k) nm
    · rw [if_pos hcmp, if_pos hcmp]; exact ih b b ⟨rfl, hbn⟩
    · rw [if_neg hcmp, if_neg hcmp]; exact ih (1 + k) (1 + k) ⟨rfl, by omega⟩
  · intro f g b b' ⟨hbb, hbn⟩
    subst hbb
    refine ⟨b, ?_, ?_⟩
    · simp only [q_lp]
      generalize lp _ (g_X6_keepAskPlace_4 UF VF) f = rc
      unfold g_X6_keepAskPlace_4
      simp (disch := omega) only [r3, q_le, show n ≤ 1 + (n - 1) by omega, ↓reduceIte]
    · simp only [q_lp]
      generalize lp _ g_X12_ways_134 g = rd
      unfold g_X12_ways_134
      simp (disch := omega) only [b3, q_le, show n ≤ 1 + (n - 1) by omega, ↓reduceIte]
end ways
/-- what waysAt and ask look at -/
def RWR (RW M : kD) : Prop := ∃ n, n ≤ 9 ∧ RW.1 0 3 = nI n ∧ ((n = 0 → M.1 0 29 = mI) ∧ (n ≠ 0 → M.1 0 29 = nI n)) ∧ (∀ k, k < n → RW.1 2 k = M.1 28 k) ∧ (n = 0 → RW.1 0 4 = mI) ∧ (n ≠ 0 → RW.1 0 4 = M.1 0 30)
theorem q_nlt2 (a : Nat) (h : a < 2 ^ 31) : (mI - nI 1 < nI a) = True := by
  refine eq_true ?_
  rw [Int32.lt_iff_toInt_lt, nI_toInt h]
  have h2 : (mI - nI 1).toInt = -2 := rfl
  omega
theorem q_waysAt {RW M : kD} (h : RWR RW M) (K : kD) (a : Int32) : ∃ v, f_X11_waysAt a K RW = some v ∧ f_X12_waysAt a M = some (v, kI M 0 0 (nI 0)) := by
  obtain ⟨n, hn, h1, h2, h4, _, _⟩ := h
  unfold f_X11_waysAt f_X12_waysAt
  simp only [↓q_m1, q_lit, ↓q_bd]
  have e29 : (kI M 0 0 (nI 0)).1 0 29 = M.1 0 29 := rfl
  have e28 : (kI M 0 0 (nI 0)).1 28 = M.1 28 := rfl
  rw [h1, e29, e28]
  by_cases hn0 : n = 0
  · rw [h2.1 hn0]
    subst hn0
    have hin : f_X12_isIn a (nI 0) (mI - nI 1) = nI 0 := by
      unfold f_X12_isIn
      simp only [↓q_m1, q_lit]
      rcases q_arg a with h9 | ⟨j, hj, rfl⟩
      · rw [if_pos h9]
      · rw [if_neg (by rw [q_lt hj (by omega)]; omega), if_pos (by rw [q_nlt2 j hj]; trivial)]
    rw [hin, if_pos rfl]
    refine ⟨mI, ?_, rfl⟩
    rcases q_arg a with h9 | ⟨j, hj, rfl⟩
    · rw [if_pos h9]
    · rw [if_neg (by rw [q_lt hj (by omega)]; omega), if_pos (by rw [q_le (by omega) hj]; omega)]
  · rw [h2.2 hn0, q_sub (by omega)]
    rcases q_isIn 0 0 (n - 1) a (by omega) (by omega) with ⟨x, x1, x2, rfl, x3⟩ | ⟨x1, x3, x4⟩
    · rw [x3, if_neg n10]
      simp (disch := omega) only [q_lt, Nat.not_lt_zero, ↓reduceIte, q_le, show ¬ n ≤ x by omega, false_or, q_cl, show ¬ 9 ≤ x by omega]
      exact ⟨_, rfl, by rw [h4 x (by omega)]⟩
    · rw [x3, if_pos rfl]
      refine ⟨mI, ?_, rfl⟩
      rcases q_arg a with h9 | ⟨j, hj, rfl⟩
      · rw [if_pos h9]
      · rw [if_neg (by rw [q_lt hj (by omega)]; omega), if_pos ?_]
        rw [q_le (by omega) hj]
        by_cases h8 : n ≤ j
        · exact h8
        · exact absurd rfl (x1 j (by omega) (by omega))
theorem q_askC {RW M : kD} (h : RWR RW M) (K : kD) : f_X12_ask M = some (f_X11_ask K RW, kI M 0 0 (nI 0)) := by
  obtain ⟨n, hn, h1, h2, h4, h5, h6⟩ := h
  unfold f_X12_ask f_X11_ask
  simp only [↓q_m1, q_lit, ↓q_bd]
  have e29 : (kI M 0 0 (nI 0)).1 0 29 = M.1 0 29 := rfl
  have e30 : (kI M 0 0 (nI 0)).1 0 30 = M.1 0 30 := rfl
  rw [e29, e30]
  by_cases hn0 : n = 0
  · rw [h2.1 hn0, if_pos (by decide), h5 hn0]
  · rw [h2.2 hn0, if_neg (by rw [q_le (by omega) (by omega)]; omega), h6 hn0]
def MXy (M M' : kD) : Prop := M'.2 = M.2 ∧ (∀ b, b ≠ 0 → b ≠ 26 → b ≠ 27 → b ≠ 28 → M'.1 b = M.1 b) ∧ (∀ k, k ≠ 0 → k ≠ 2 → k ≠ 3 → k ≠ 4 → k ≠ 5 → k ≠ 29 → k ≠ 30 → M'.1 0 k = M.1 0 k) ∧ M'.1 0 2 = nI 0 ∧ M'.1 0 0 = nI 0
theorem q_ways {n nm np : Nat} {T : Nat → Int32} {K C O S N RW M : kD} {UF VF : Nat → Nat → Int32} (hR : RT n K T M) (ho : RO nm np O (M.1 6)) (hk : RWR RW M) :
    ∃ r RW' UF' VF' M', f_X11_ways K T C O S N RW UF VF = some (r, kI K 0 1 (nI 0), RW', UF', VF') ∧ f_X12_ways M = some (r, M') ∧ RT 0 (kI K 0 1 (nI 0)) T M' ∧ RWR RW' M' ∧ MXy M M' := by
  obtain ⟨M31, t1, t2, t3, t4, t5, t6⟩ := q_take hR (nI 940)
  obtain ⟨M31', u1, u2, u3, u4, u5, u6, u7, u8⟩ := q_taken (kI M 0 0 (nI 0)) n (nI 940) hR.2.2.1
  have e31 : M31' = M31 := by
    rw [t1] at u1
    exact (Option.some.inj u1).symm
  rw [e31] at u8
  have h00 : M31.1 0 0 = nI 0 := (u8 0 (by omega) (by omega) (by omega) (by omega)).trans rfl
  have h3 : M31.1 0 3 = nI n := t2.2.1
  have ho1 : RO nm np O (M31.1 6) := by rw [t3.2.1 6 (by omega)]; exact ho
  have hn := ho.1.1
  have hp := ho.1.2
  have h60 : M31.1 6 0 = nI nm := ho1.2.1.1
  have hk31 : RWR RW M31 := by
    obtain ⟨j, j1, j2, j3, j4, j5, j6⟩ := hk
    refine ⟨j, j1, j2, ?_, fun k hk => ?_, j5, fun h => ?_⟩
    · rw [t3.2.2.1 29 (by omega) (by omega) (by omega) (by omega) (by omega)]; exact j3
    · rw [t3.2.1 28 (by omega)]; exact j4 k hk
    · rw [t3.2.2.1 30 (by omega) (by omega) (by omega) (by omega) (by omega)]; exact j6 h
  have hX : MXy M M31 := ⟨t3.1, fun b b0 _ _ _ => t3.2.1 b b0, fun k k0 k2 k3 k4 k5 _ _ => t3.2.2.1 k k0 k2 k3 k4 k5, t3.2.2.2, h00⟩
  unfold f_X11_ways f_X12_ways
  rw [q_takeT hR.2.1]
  simp only [↓q_m1, q_lit, ↓q_bd, ↓q_bo2]
  rw [t1, q_bo]
  rcases q_tellsP (K := kI K 0 1 (nI 0)) (C := C) (S := S) (N := N) hp ho.2.1.2.2.2.1 ho1.2.1.2.1 t2 with ⟨hP, k1, k2⟩ | ⟨_, k1, k2⟩
  · rw [k1, k2, q_bo, q_bo, if_neg n10, if_neg n10]
    obtain ⟨wr, hw⟩ := q_WR ho1 t2 hP
    obtain ⟨hn1, hn9, hph⟩ := hP
    obtain ⟨UF', hU, hCU⟩ := q_measU (RW := RW) (UF := UF) (VF := VF) hn hn9 hw
    obtain ⟨VF', hV0, hCV⟩ := q_measV (RW := RW) (UF := UF') (VF := VF) hn hn1 hn9 hw
    obtain ⟨y, hy, hDU⟩ := q_laysU hn hn9 hw h3 h60
    obtain ⟨z, hz0, hDV⟩ := q_laysV (y := y) hn hn1 hn9 hw h3 h60
    have hV : ∀ i, i < n → ∀ m, m < 6 → VF' i m = nI (eN wr nm n (n - 1 - i) m) := by
      intro i hi m hm
      have := hV0 (n - 1 - i) (by omega) m hm
      rw [show n - 1 - (n - 1 - i) = i by omega] at this
      exact this
    have hz : ∀ i, i < n → ∀ m, m < nm → z (6 * i + m) = nI (eN wr nm n (n - 1 - i) m) := by
      intro i hi m hm
      have := hz0 (n - 1 - i) (by omega) m hm
      rw [show n - 1 - (n - 1 - i) = i by omega] at this
      exact this
    have hall : smN (eN wr nm n (n - 1)) nm ≤ 10077696 := by
      refine Nat.le_trans (smN_le6 _ nm 1679616 hn (fun k _ => ?_)) (by decide)
      exact Nat.le_trans (eN_le hn (n - 1) k) (Nat.le_trans (Nat.pow_le_pow_right (by omega) (show n - 1 ≤ 8 by omega)) (by decide))
    have hmeas : f_X6_measure (nI n) 940 RW UF VF O T = g_X6_measure_185 940 O T (nI n) RW UF' VF' := by
      rw [← hCV, ← hCU]
      unfold f_X6_measure
      simp (disch := omega) only [↓q_m1, q_lit, q_of, q_lt, show ¬ n < 1 by omega, show ¬ 9 < n by omega, q_le, show n ≤ 940 by omega, ↓reduceIte]
    have hsumC : f_X11_sumOf 6 (VF' 0) = some (nI (smN (eN wr nm n (n - 1)) nm)) := by
      rw [q_sum 6 (VF' 0) (by omega), smI_N (VF' 0) (eN wr nm n (n - 1)) 6 (fun m hm => by
        have := hV 0 (by omega) m hm
        rw [Nat.sub_zero] at this
        exact this), smN_cut _ nm 6 hn (fun k h1 _ => eN_z (hw.2.2 k h1))]
    have hlays : f_X12_laysWays M31 = some (kSI (kSI M31 26 y) 27 z) := by
      unfold f_X12_laysWays
      simp only [↓q_m1, q_lit]
      rw [hDU, hDV]
    have e6 : (kSI (kSI M31 26 y) 27 z).1 6 0 = nI nm := h60
    have hsumM : lp (fun _ _ _ => none) g_X12_ways_29 2000 (nI 0) (nI 0) (kSI (kSI M31 26 y) 27 z) = g_X12_ways_54 (nI (smN (eN wr nm n (n - 1)) nm)) (kSI (kSI M31 26 y) 27 z) := by
      refine q_one (fun f k (x : Nat) => lp (fun _ _ _ => none) g_X12_ways_29 f (nI x) (nI k) (kSI (kSI M31 26 y) 27 z)) (fun k x => x = smN (eN wr nm n (n - 1)) k) (fun r => r = g_X12_ways_54 (nI (smN (eN wr nm n (n - 1)) nm)) (kSI (kSI M31 26 y) 27 z)) nm ?_ ?_ nm 0 2000 0 (by omega) (by omega) rfl
      · intro f k x _ hk hx ih
        simp only [q_lp]
        generalize lp _ g_X12_ways_29 f = rc at ih ⊢
        have hzk : (kSI (kSI M31 26 y) 27 z).1 27 k = nI (eN wr nm n (n - 1) k) := by
          have := hz 0 (by omega) k hk
          rw [Nat.mul_zero, Nat.zero_add, Nat.sub_zero] at this
          exact this
        unfold g_X12_ways_29
        simp (disch := omega) only [↓q_m1, q_lit, ↓q_bd, e6, q_cl, q_le, show ¬ nm ≤ k by omega, ↓reduceIte, q_lt, Nat.not_lt_zero, false_or, show ¬ 54 ≤ k by omega, hzk, nI_add]
        exact ih _ (by rw [hx]; rfl)
      · intro f x hx
        simp only [q_lp]
        generalize lp _ g_X12_ways_29 f = rc
        unfold g_X12_ways_29
        simp (disch := omega) only [↓q_m1, q_lit, e6, q_cl, q_le, Nat.le_refl, ↓reduceIte, hx]
    rw [hmeas, hlays, q_bo, hsumM]
    unfold g_X6_measure_185 g_X12_ways_54
    simp (disch := omega) only [↓q_m1, q_lit, ↓q_bd, hsumC, ↓q_bo, q_le, q_eq]
    by_cases ha : smN (eN wr nm n (n - 1)) nm = 0
    · rw [if_pos (show smN (eN wr nm n (n - 1)) nm ≤ 0 by omega), if_pos ha, ha]
      refine ⟨nI 0, RW, UF', VF', _, rfl, rfl, t6, hk31, ⟨t3.1, fun b b0 b26 b27 b28 => ?_, hX.2.2.1, hX.2.2.2.1, h00⟩⟩
      simp only [q_kSI, if_neg b27, if_neg b26]
      exact t3.2.1 b b0
    · rw [if_neg (show ¬ smN (eN wr nm n (n - 1)) nm ≤ 0 by omega), if_neg ha]
      generalize hX2 : kI (kSI (kSI M31 26 y) 27 z) 0 29 ((kSI (kSI M31 26 y) 27 z).1 0 3) = X2
      have x03 : X2.1 0 3 = nI n := by rw [← hX2]; exact h3
      have x27 : X2.1 27 = z := by rw [← hX2]; rfl
      have x26 : X2.1 26 = y := by rw [← hX2]; rfl
      have x1 : X2.1 1 = M31.1 1 := by rw [← hX2]; rfl
      have x6 : X2.1 6 = M31.1 6 := by rw [← hX2]; rfl
      have x0 : X2.1 0 = upd (M31.1 0) 29 (nI n) := by
        rw [← hX2]
        show upd (M31.1 0) 29 (M31.1 0 3) = _
        rw [h3]
      have xo : ∀ b, b ≠ 0 → b ≠ 26 → b ≠ 27 → X2.1 b = M31.1 b := by
        intro b b0 b26 b27
        rw [← hX2, q_kI, if_neg b0, q_kSI, if_neg b27, q_kSI, if_neg b26]
      have x2 : X2.2 = M31.2 := by rw [← hX2]; rfl
      obtain ⟨a, b, f1, f2, f3⟩ := q_first (RW := kI RW 0 3 (nI n)) (X := X2) (UF := UF') (VF := VF') (wr := wr) (nI (smN (eN wr nm n (n - 1)) nm)) hn hn1 hn9 hV (by rw [x27]; exact hz) rfl x03 (smN_nz _ _ ha)
      obtain ⟨bb, g1, g2⟩ := q_ask (RW := kSI (kI RW 0 3 (nI n)) 2 a) (X := kSI X2 28 b) (UF := UF') (VF := VF') (wr := wr) (nI (smN (eN wr nm n (n - 1)) nm)) hn hn1 hn9 hw x1 x6 h60 hU hV (by
        show ∀ i, i < n → ∀ m, m < nm → X2.1 26 (6 * i + m) = _
        rw [x26]; exact hy) (by
        show ∀ i, i < n → ∀ m, m < nm → X2.1 27 (6 * i + m) = _
        rw [x27]; exact hz) rfl x03
      rw [f1, q_bo, g1, q_bo, f2, g2]
      refine ⟨_, _, UF', VF', _, rfl, rfl, ?_, ⟨n, hn9, rfl, ⟨fun h => by omega, fun _ => ?_⟩, fun k hk => ?_, fun h => by omega, fun _ => rfl⟩, ⟨x2.trans t3.1, fun b' b0 b26 b27 b28 => ?_, fun k k0 k2 k3 k4 k5 k29 k30 => ?_, ?_, ?_⟩⟩
      · refine ⟨Nat.zero_le _, rfl, ?_, fun i hi => ?_⟩
        · show upd (X2.1 0) 30 (nI bb) 2 = _
          rw [up_ne (by omega), x0, up_ne (by omega)]; exact t3.2.2.2
        · show ∃ t, t < 256 ∧ T i = nI t ∧ X2.1 1 i &&& nI 255 = nI t
          rw [x1]; exact t6.2.2.2 i hi
      · show upd (X2.1 0) 30 (nI bb) 29 = _
        rw [up_ne (by omega), x0, up_eq]
      · exact f3 k hk
      · show (if b' = 0 then _ else if b' = 28 then _ else X2.1 b') = _
        rw [if_neg b0, if_neg b28, xo b' b0 b26 b27]; exact t3.2.1 b' b0
      · show upd (X2.1 0) 30 (nI bb) k = _
        rw [up_ne k30, x0, up_ne k29]; exact t3.2.2.1 k k0 k2 k3 k4 k5
      · show upd (X2.1 0) 30 (nI bb) 2 = _
        rw [up_ne (by omega), x0, up_ne (by omega)]; exact t3.2.2.2
      · show upd (X2.1 0) 30 (nI bb) 0 = _
        rw [up_ne (by omega), x0, up_ne (by omega)]; exact h00
  · rw [k1, k2, q_bo, q_bo, if_pos rfl, if_pos rfl]
    exact ⟨mI, RW, UF, VF, M31, rfl, rfl, t6, hk31, hX⟩
