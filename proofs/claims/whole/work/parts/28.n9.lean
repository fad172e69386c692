/-! machine-free: to clear -/
theorem q_twoF {ρ1 ρ2 σ1 σ2 : Type} (F : Nat → Nat → σ1 → ρ1) (G : Nat → Nat → σ2 → ρ2) (I : Nat → σ1 → σ2 → Prop) (Post : ρ1 → ρ2 → Prop) (n c : Nat)
    (hs : ∀ f g k x y, 0 < f → 0 < g → k < n → I k x y → (∀ x' y', I (k + 1) x' y' → Post (F f (k + 1) x') (G g (k + 1) y')) → Post (F (f + 1) k x) (G (g + 1) k y))
    (he : ∀ f g x y, c ≤ f → c ≤ g → I n x y → Post (F (f + 1) n x) (G (g + 1) n y)) : ∀ d k f g x y, k + d = n → d + c < f → d + c < g → I k x y → Post (F f k x) (G g k y) := by
  intro d
  induction d with
  | zero =>
    intro k f g x y hk hf hg hI
    obtain ⟨f, rfl⟩ : ∃ g, f = g + 1 := ⟨f - 1, by omega⟩
    obtain ⟨g, rfl⟩ : ∃ q, g = q + 1 := ⟨g - 1, by omega⟩
    have : k = n := by omega
    subst this
    exact he f g x y (by omega) (by omega) hI
  | succ d ih =>
    intro k f g x y hk hf hg hI
    obtain ⟨f, rfl⟩ : ∃ g, f = g + 1 := ⟨f - 1, by omega⟩
    obtain ⟨g, rfl⟩ : ∃ q, g = q + 1 := ⟨g - 1, by omega⟩
    exact hs f g k x y (by omega) (by omega) (by omega) hI (fun x' y' h' => ih (k + 1) f g x' y' (by omega) (by omega) (by omega) h')
def stC (X : Nat → Int32) (m k : Nat) : Nat → Int32 := upd (upd X (m * 6 + k) (X (m * 6 + k) - kMin (X (m * 6 + k)) (X (k * 6 + m)))) (k * 6 + m) (X (k * 6 + m) - kMin (X (m * 6 + k)) (X (k * 6 + m)))
theorem q_setD (S : kD) (X : Nat → Int32) {m k : Nat} (hm : m < 6) (hk : k < 6) (v : Int32) : f_X9_setDebt (nI m) (nI k) v (kSI S 8 X) = some (kSI S 8 (upd X (m * 6 + k) v)) := by
  unfold f_X9_setDebt
  simp (disch := omega) only [↓q_m1, q_lit, ↓q_bd, ↓reduceIte, q_lt, q_le, Nat.not_lt_zero, show ¬ 6 ≤ k by omega, show ¬ 6 ≤ m by omega, pk_mul, nI_add, false_or, q_cl, show ¬ 36 ≤ m * 6 + k by omega, q_SI]
theorem q_debtX (S : kD) (X : Nat → Int32) {m k : Nat} (hm : m < 6) (hk : k < 6) : f_X9_debtOf (nI m) (nI k) (kSI S 8 X) = some (X (m * 6 + k)) := q_debt (kSI S 8 X) hm hk
theorem q_stC (S : kD) (X : Nat → Int32) {rc : Int32 → kD → Option kD} {rc2 : Int32 → Int32 → kD → Option kD} {m k : Nat} (hm : m < 6) (hk : k < m) :
    g_X9_settle_10 rc rc2 (nI m) (nI k) (kSI S 8 X) = rc2 (nI m) (nI (k + 1)) (kSI S 8 (stC X m k)) := by
  unfold g_X9_settle_10
  simp (disch := omega) only [↓q_m1, q_lit, ↓q_bd, ↓reduceIte, q_le, show ¬ m ≤ k by omega, q_debtX, q_bo, q_setD, nI_add, pk_un]
  rfl
def stM (Y : Nat → Int32) (m k : Nat) : Nat → Int32 := upd (upd Y (62 + 6 * m + k) (Y (62 + 6 * m + k) - kMin (Y (62 + 6 * m + k)) (Y (62 + 6 * k + m)))) (62 + 6 * k + m) (Y (62 + 6 * k + m) - kMin (Y (62 + 6 * m + k)) (Y (62 + 6 * k + m)))
theorem q_stM (M : kD) (Y : Nat → Int32) {rc : Int32 → kD → Option kD} {rc2 : Int32 → Int32 → kD → Option kD} {m k : Nat} (hm : m < 6) (hk : k < m) :
    g_X12_evens_14 rc rc2 (nI m) (nI k) (kSI M 6 Y) = rc2 (nI m) (nI (k + 1)) (kSI M 6 (stM Y m k)) := by
  have hmu : f_X12_mutual (nI m) (nI k) (kSI M 6 Y) = some (kMin (Y (62 + 6 * m + k)) (Y (62 + 6 * k + m))) := by
    rw [q_mut hm (show k < 6 by omega), show 62 + 6 * m + k = 62 + (m * 6 + k) by omega, show 62 + 6 * k + m = 62 + (k * 6 + m) by omega]
    rfl
  unfold g_X12_evens_14
  simp (disch := omega) only [↓q_m1, q_lit, ↓q_bd, ↓reduceIte, q_le, show ¬ m ≤ k by omega, hmu, q_bo, nI_add, pk_mul, q_lt, Nat.not_lt_zero, false_or, q_cl, show ¬ 279 ≤ 62 + 6 * m + k by omega, show ¬ 279 ≤ 62 + 6 * k + m by omega, q_kSI, q_SI, pk_un]
  rfl
theorem q_mz : kMin (nI 0) (nI 0) = nI 0 := rfl
theorem q_zz : nI 0 - nI 0 = nI 0 := rfl
/-- where no MACHINE is, nothing is owed, and it stays so -/
theorem q_settleZ (S : kD) (X : Nat → Int32) {nm : Nat} (hn : nm ≤ 6) (hX : ∀ i, i < 36 → nm ≤ i / 6 ∨ nm ≤ i % 6 → X i = nI 0) (f : Nat) (hf : 6 - nm < f) :
    ∃ X', lp (fun _ _ => none) g_X9_settle_2 f (nI nm) (kSI S 8 X) = some (kSI S 8 X') ∧ ∀ i, i < 36 → X' i = X i := by
  refine q_one (fun f m (x : Nat → Int32) => lp (fun _ _ => none) g_X9_settle_2 f (nI m) (kSI S 8 x)) (fun m x => nm ≤ m ∧ ∀ i, i < 36 → x i = X i) (fun r => ∃ X', r = some (kSI S 8 X') ∧ ∀ i, i < 36 → X' i = X i) 6 ?_ ?_ (6 - nm) nm f X (by omega) (by omega) ⟨Nat.le_refl _, fun _ _ => rfl⟩
  · intro f m x _ hm ⟨hnm, hx⟩ ih
    simp only [q_lp]
    have hst : g_X9_settle_2 (lp (fun _ _ => none) g_X9_settle_2 f) (nI m) (kSI S 8 x) = lp (fun _ _ _ => none) (g_X9_settle_10 (lp (fun _ _ => none) g_X9_settle_2 f)) 2000 (nI m) (nI 0) (kSI S 8 x) := by
      generalize lp _ g_X9_settle_2 f = rc
      unfold g_X9_settle_2
      simp (disch := omega) only [↓q_m1, q_lit, ↓reduceIte, q_le, show ¬ 6 ≤ m by omega]
    rw [hst]
    refine q_one (fun f2 k (z : Nat → Int32) => lp (fun _ _ _ => none) (g_X9_settle_10 (lp (fun _ _ => none) g_X9_settle_2 f)) f2 (nI m) (nI k) (kSI S 8 z)) (fun k z => ∀ i, i < 36 → z i = X i) (fun r => ∃ X', r = some (kSI S 8 X') ∧ ∀ i, i < 36 → X' i = X i) m ?_ ?_ m 0 2000 x (by omega) (by omega) hx
    · intro f2 k z _ hk hz ih2
      simp only [q_lp]
      rw [q_stC S z hm hk]
      refine ih2 _ (fun i hi => ?_)
      have e1 : z (m * 6 + k) = nI 0 := by rw [hz _ (by omega)]; exact hX _ (by omega) (Or.inl (by omega))
      have e2 : z (k * 6 + m) = nI 0 := by rw [hz _ (by omega)]; exact hX _ (by omega) (Or.inr (by omega))
      unfold stC
      rw [e1, e2, q_mz, q_zz]
      by_cases h1 : i = k * 6 + m
      · subst h1; rw [pk_us, ← hz _ hi, e2]
      · rw [pk_un h1]
        by_cases h2 : i = m * 6 + k
        · subst h2; rw [pk_us, ← hz _ hi, e1]
        · rw [pk_un h2]; exact hz i hi
    · intro f2 z hz
      simp only [q_lp]
      generalize lp _ (g_X9_settle_10 (lp (fun _ _ => none) g_X9_settle_2 f)) f2 = rc2
      have : g_X9_settle_10 (lp (fun _ _ => none) g_X9_settle_2 f) rc2 (nI m) (nI m) (kSI S 8 z) = lp (fun _ _ => none) g_X9_settle_2 f (nI (m + 1)) (kSI S 8 z) := by
        generalize lp _ g_X9_settle_2 f = rc
        unfold g_X9_settle_10 g_X9_settle_65
        simp (disch := omega) only [↓q_m1, q_lit, ↓q_bd, ↓reduceIte, q_le, Nat.le_refl, nI_add]
      rw [this]
      exact ih z ⟨by omega, hz⟩
  · intro f x ⟨_, hx⟩
    refine ⟨x, ?_, hx⟩
    simp only [q_lp]
    generalize lp _ g_X9_settle_2 f = rc
    unfold g_X9_settle_2
    simp (disch := omega) only [↓q_m1, q_lit, ↓reduceIte, q_le, Nat.le_refl]
theorem q_settle {nm np d lt w h B : Nat} {O S M : kD} (ho : RO nm np O (M.1 6)) (hs : RS nm np d lt w h B S (M.1 6)) :
    ∃ S' s', f_X9_settle S = some S' ∧ f_X12_evens M = some (kSI M 6 s') ∧ RS nm np d lt w h B S' s' ∧ (∀ k, k < 39 → s' k = M.1 6 k) ∧ (∀ k, 98 ≤ k → s' k = M.1 6 k) := by
  have hn : nm ≤ 6 := ho.1.1
  have e0 : M.1 6 0 = nI nm := ho.2.1.1
  have hs0 := hs
  obtain ⟨hd, he, hink, hwr, hle, hdb⟩ := hs
  have key := q_twoF (fun f m (x : Nat → Int32) => lp (fun _ _ => none) g_X9_settle_2 f (nI m) (kSI S 8 x)) (fun g m (y : Nat → Int32) => lp (fun _ _ => none) g_X12_evens_2 g (nI m) (kSI M 6 y))
    (fun m x y => (∀ i, i < 36 → x i = y (62 + i) ∧ (nm ≤ i / 6 ∨ nm ≤ i % 6 → y (62 + i) = nI 0) ∧ ∃ v, v ≤ 9999 ∧ y (62 + i) = nI v) ∧ ∀ k, k < 62 ∨ 98 ≤ k → y k = M.1 6 k)
    (fun r1 r2 => ∃ x y, r1 = some (kSI S 8 x) ∧ r2 = some (kSI M 6 y) ∧ (∀ i, i < 36 → x i = y (62 + i) ∧ (nm ≤ i / 6 ∨ nm ≤ i % 6 → y (62 + i) = nI 0) ∧ ∃ v, v ≤ 9999 ∧ y (62 + i) = nI v) ∧ ∀ k, k < 62 ∨ 98 ≤ k → y k = M.1 6 k) nm 7 ?_ ?_ nm 0 2000 2000 (S.1 8) (M.1 6) (by omega) (by omega) (by omega) ⟨hdb, fun _ _ => rfl⟩
  · obtain ⟨x, y, h1, h2, h3, h4⟩ := key
    rw [q_SM] at h1 h2
    refine ⟨kSI S 8 x, y, h1, h2, ?_, fun k hk => h4 k (Or.inl (by omega)), fun k hk => h4 k (Or.inr hk)⟩
    obtain ⟨h0, h39, h1', h40, h2', h41, h3', h42, h4'⟩ := he
    refine ⟨hd, ⟨h0, by rw [h4 39 (Or.inl (by omega))]; exact h39, h1', by rw [h4 40 (Or.inl (by omega))]; exact h40, h2', by rw [h4 41 (Or.inl (by omega))]; exact h41, h3', by rw [h4 42 (Or.inl (by omega))]; exact h42, by rw [h4 43 (Or.inl (by omega))]; exact h4'⟩, fun m hm => ?_, fun m hm => ?_, fun m hm => ?_, h3⟩
    · rw [h4 (44 + m) (Or.inl (by omega))]; exact hink m hm
    · rw [h4 (50 + m) (Or.inl (by omega))]; exact hwr m hm
    · rw [h4 (56 + m) (Or.inl (by omega))]; exact hle m hm
  · intro f g m x y _ _ hm ⟨hx, hy⟩ ih
    simp only [q_lp]
    have hy0 : y 0 = nI nm := by rw [hy 0 (Or.inl (by omega))]; exact e0
    have hstC : g_X9_settle_2 (lp (fun _ _ => none) g_X9_settle_2 f) (nI m) (kSI S 8 x) = lp (fun _ _ _ => none) (g_X9_settle_10 (lp (fun _ _ => none) g_X9_settle_2 f)) 2000 (nI m) (nI 0) (kSI S 8 x) := by
      generalize lp _ g_X9_settle_2 f = rc
      unfold g_X9_settle_2
      simp (disch := omega) only [↓q_m1, q_lit, ↓reduceIte, q_le, show ¬ 6 ≤ m by omega]
    have hstM : g_X12_evens_2 (lp (fun _ _ => none) g_X12_evens_2 g) (nI m) (kSI M 6 y) = lp (fun _ _ _ => none) (g_X12_evens_14 (lp (fun _ _ => none) g_X12_evens_2 g)) 2000 (nI m) (nI 0) (kSI M 6 y) := by
      generalize lp _ g_X12_evens_2 g = rc
      unfold g_X12_evens_2
      simp (disch := omega) only [↓q_m1, q_lit, ↓reduceIte, q_cl, q_kSI, hy0, q_le, show ¬ nm ≤ m by omega]
    rw [hstC, hstM]
    refine q_two (fun f2 k (z : Nat → Int32) => lp (fun _ _ _ => none) (g_X9_settle_10 (lp (fun _ _ => none) g_X9_settle_2 f)) f2 (nI m) (nI k) (kSI S 8 z)) (fun g2 k (z : Nat → Int32) => lp (fun _ _ _ => none) (g_X12_evens_14 (lp (fun _ _ => none) g_X12_evens_2 g)) g2 (nI m) (nI k) (kSI M 6 z))
      (fun k x y => (∀ i, i < 36 → x i = y (62 + i) ∧ (nm ≤ i / 6 ∨ nm ≤ i % 6 → y (62 + i) = nI 0) ∧ ∃ v, v ≤ 9999 ∧ y (62 + i) = nI v) ∧ ∀ k, k < 62 ∨ 98 ≤ k → y k = M.1 6 k)
      (fun r1 r2 => ∃ x y, r1 = some (kSI S 8 x) ∧ r2 = some (kSI M 6 y) ∧ (∀ i, i < 36 → x i = y (62 + i) ∧ (nm ≤ i / 6 ∨ nm ≤ i % 6 → y (62 + i) = nI 0) ∧ ∃ v, v ≤ 9999 ∧ y (62 + i) = nI v) ∧ ∀ k, k < 62 ∨ 98 ≤ k → y k = M.1 6 k) m ?_ ?_ m 0 2000 2000 x y (by omega) (by omega) (by omega) ⟨hx, hy⟩
    · intro f2 g2 k z t _ _ hk ⟨hz, ht⟩ ih2
      simp only [q_lp]
      rw [q_stC S z (by omega) hk, q_stM M t (by omega) hk]
      refine ih2 _ _ ⟨fun i hi => ?_, fun j hj => ?_⟩
      · have e1 : z (m * 6 + k) = t (62 + 6 * m + k) := by rw [(hz (m * 6 + k) (by omega)).1]; exact congrArg t (by omega)
        have e2 : z (k * 6 + m) = t (62 + 6 * k + m) := by rw [(hz (k * 6 + m) (by omega)).1]; exact congrArg t (by omega)
        obtain ⟨va, hva, hva1⟩ := (hz (m * 6 + k) (by omega)).2.2
        obtain ⟨vb, hvb, hvb1⟩ := (hz (k * 6 + m) (by omega)).2.2
        rw [show 62 + (m * 6 + k) = 62 + 6 * m + k by omega] at hva1
        rw [show 62 + (k * 6 + m) = 62 + 6 * k + m by omega] at hvb1
        have hmn : min va vb ≤ va ∧ min va vb ≤ vb := ⟨Nat.min_le_left _ _, Nat.min_le_right _ _⟩
        unfold stC stM
        rw [e1, e2, hva1, hvb1, q_minN (by omega) (by omega), q_sub hmn.1, q_sub hmn.2]
        by_cases h1 : i = k * 6 + m
        · subst h1
          rw [pk_us, show 62 + (k * 6 + m) = 62 + 6 * k + m by omega, pk_us]
          exact ⟨rfl, fun h9 => by omega, vb - min va vb, by omega, rfl⟩
        · rw [pk_un h1, pk_un (show 62 + i ≠ 62 + 6 * k + m by omega)]
          by_cases h2 : i = m * 6 + k
          · subst h2
            rw [pk_us, show 62 + (m * 6 + k) = 62 + 6 * m + k by omega, pk_us]
            exact ⟨rfl, fun h9 => by omega, va - min va vb, by omega, rfl⟩
          · rw [pk_un h2, pk_un (show 62 + i ≠ 62 + 6 * m + k by omega)]
            exact hz i hi
      · unfold stM
        rw [pk_un (by omega), pk_un (by omega)]
        exact ht j hj
    · intro f2 g2 z t ⟨hz, ht⟩
      simp only [q_lp]
      generalize lp _ (g_X9_settle_10 (lp (fun _ _ => none) g_X9_settle_2 f)) f2 = rc2
      generalize lp _ (g_X12_evens_14 (lp (fun _ _ => none) g_X12_evens_2 g)) g2 = rd2
      have h1 : g_X9_settle_10 (lp (fun _ _ => none) g_X9_settle_2 f) rc2 (nI m) (nI m) (kSI S 8 z) = lp (fun _ _ => none) g_X9_settle_2 f (nI (m + 1)) (kSI S 8 z) := by
        generalize lp _ g_X9_settle_2 f = rc
        unfold g_X9_settle_10 g_X9_settle_65
        simp (disch := omega) only [↓q_m1, q_lit, ↓q_bd, ↓reduceIte, q_le, Nat.le_refl, nI_add]
      have h2 : g_X12_evens_14 (lp (fun _ _ => none) g_X12_evens_2 g) rd2 (nI m) (nI m) (kSI M 6 t) = lp (fun _ _ => none) g_X12_evens_2 g (nI (m + 1)) (kSI M 6 t) := by
        generalize lp _ g_X12_evens_2 g = rc
        unfold g_X12_evens_14 g_X12_evens_68
        simp (disch := omega) only [↓q_m1, q_lit, ↓q_bd, ↓reduceIte, q_le, Nat.le_refl, nI_add]
      rw [h1, h2]
      exact ih z t ⟨hz, ht⟩
  · intro f g x y hf _ ⟨hx, hy⟩
    have hy0 : y 0 = nI nm := by rw [hy 0 (Or.inl (by omega))]; exact e0
    obtain ⟨X', h1, h2⟩ := q_settleZ S x hn (fun i hi h9 => by rw [(hx i hi).1]; exact (hx i hi).2.1 h9) (f + 1) (by omega)
    refine ⟨X', y, h1, ?_, fun i hi => ⟨by rw [h2 i hi]; exact (hx i hi).1, (hx i hi).2⟩, hy⟩
    simp only [q_lp]
    generalize lp _ g_X12_evens_2 g = rc
    unfold g_X12_evens_2
    simp (disch := omega) only [↓q_m1, q_lit, ↓reduceIte, q_cl, q_kSI, hy0, q_le, Nat.le_refl]
