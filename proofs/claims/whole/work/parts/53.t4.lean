/-! machine-free: TOKENS: which word a run is -/
theorem q_of (n : Nat) : Int32.ofNat n = nI n := q_e (a := nI n) rfl _ rfl
def wB (w : Nat) : List Nat := (wByt.getD w []).map Int32.toNatClampNeg
theorem wB_len (w : Nat) : (wB w).length = wLn w := List.length_map ..
theorem wB_ch : ∀ w, w < 22 → wLn w ≤ 8 ∧ ∀ i, i < 8 → i < wLn w → wCh w i = nI ((wB w).getD i 0) ∧ (wB w).getD i 0 < 256 := by decide +kernel
def wFrom (l : List Nat) : Nat → Nat → Nat
  | _, 0 => 0
  | w, d + 1 => if wB w = l then w else wFrom l (w + 1) d
def wordIx (l : List Nat) : Nat := wFrom l 0 22
theorem wFrom_r (l : List Nat) : ∀ d w, wFrom l w d = 0 ∨ (w ≤ wFrom l w d ∧ wFrom l w d < w + d ∧ wB (wFrom l w d) = l) := by
  intro d
  induction d with
  | zero => intro w; exact Or.inl rfl
  | succ d ih =>
    intro w
    unfold wFrom
    by_cases h : wB w = l
    · rw [if_pos h]; exact Or.inr ⟨Nat.le_refl w, by omega, h⟩
    · rw [if_neg h]
      rcases ih (w + 1) with h1 | ⟨h1, h2, h3⟩
      · exact Or.inl h1
      · exact Or.inr ⟨by omega, by omega, h3⟩
theorem wordIx_lt (l : List Nat) : wordIx l < 22 := by
  rcases wFrom_r l 22 0 with h | ⟨_, h, _⟩
  · unfold wordIx; omega
  · unfold wordIx; omega
theorem wordIx_wB : ∀ w, w < 22 → wordIx (wB w) = w := by decide +kernel
theorem wordIx_eq {l : List Nat} {w : Nat} (h1 : 1 ≤ w) (h : w < 22) : wordIx l = w ↔ l = wB w := by
  constructor
  · intro h9
    rcases wFrom_r l 22 0 with h2 | ⟨_, _, h2⟩
    · unfold wordIx at h9; omega
    · unfold wordIx at h9; rw [h9] at h2; exact h2.symm
  · intro h9; rw [h9]; exact wordIx_wB w h
theorem sub_get (T : Nat → Int32) (q k i : Nat) (h : i < k) : (sub T q k).getD i 0 = tN T (q + i) := by
  unfold sub
  rw [List.getD_eq_getElem?_getD, List.getElem?_map, List.getElem?_range h]
  rfl
theorem list_getD {l m : List Nat} (h : l.length = m.length) (h2 : ∀ i, i < l.length → l.getD i 0 = m.getD i 0) : l = m := by
  refine List.ext_getElem h (fun i h3 h4 => ?_)
  have := h2 i h3
  rw [List.getD_eq_getElem?_getD, List.getD_eq_getElem?_getD, List.getElem?_eq_getElem h3, List.getElem?_eq_getElem h4] at this
  exact this
theorem q_wordIn {T : Nat → Int32} (hT : okT T) {n a m w : Nat} {R : kD} (hn : n ≤ 940) (ham : a + m ≤ n) (hw : w < 22) (h0 : R.1 0 0 = nI 1) (h1 : R.1 0 1 = nI n) (h5 : R.1 0 5 = nI a) (rc : Int32 → Option Int32) (c0 : Nat) (hc0 : c0 ≤ 1) (hcm : c0 = 1 ↔ wLn w = m) :
    lp (fun _ _ => none) (g_X4_wordOf_37 rc 940 R T (nI w)) 2000 (nI c0) (nI 0) = if wB w = sub T a m then some (nI w) else rc (nI (w + 1)) := by
  obtain ⟨hl8, hch⟩ := wB_ch w hw
  have hno : ∀ i, i < m → wLn w = m → ¬ wCh w i = T (a + i) → ¬ wB w = sub T a m := by
    intro i hi hm hne h9
    have h1 := (hch i (by omega) (by omega)).1
    rw [h9, sub_get T a m i hi] at h1
    exact hne (h1.trans (hT (a + i) (by omega)).1.symm)
  have h99 : ∀ c k : Nat, c = 0 → ¬ wB w = sub T a m → g_X4_wordOf_99 rc (nI w) (nI c) = if wB w = sub T a m then some (nI w) else rc (nI (w + 1)) := by
    intro c k hc hne
    unfold g_X4_wordOf_99
    simp (disch := omega) only [↓q_lit, ↓q_bd, q_eq, hc, ↓reduceIte, nI_add, hne]
  refine q_one (fun f k (c : Nat) => lp (fun _ _ => none) (g_X4_wordOf_37 rc 940 R T (nI w)) f (nI c) (nI k)) (fun k c => c ≤ 1 ∧ (c = 1 ↔ wLn w = m ∧ ∀ i, i < k → i < m → wCh w i = T (a + i))) (fun r => r = if wB w = sub T a m then some (nI w) else rc (nI (w + 1))) (wLn w) ?_ ?_ (wLn w - 0) 0 2000 c0 (by omega) (by omega) ⟨hc0, by rw [hcm]; exact ⟨fun h => ⟨h, fun i hi => absurd hi (Nat.not_lt_zero i)⟩, fun h => h.1⟩⟩
  · intro f k c _ hk ⟨hc1, hc⟩ ih
    simp only [q_lp]
    generalize lp _ (g_X4_wordOf_37 rc 940 R T (nI w)) f = rd at ih ⊢
    unfold g_X4_wordOf_37
    by_cases hz : c = 0
    · have hne : ¬ wB w = sub T a m := by
        intro h9
        have : c = 1 := hc.mpr ⟨by rw [← wB_len, h9, sub_len], fun i _ hi => Classical.byContradiction fun h8 => hno i hi (by rw [← wB_len, h9, sub_len]) h8 h9⟩
        omega
      simp (disch := omega) only [↓q_lit, q_eq, hz, ↓reduceIte]
      exact h99 0 k rfl hne
    · obtain ⟨hm, hal⟩ := hc.mp (by omega)
      obtain ⟨t1, t2⟩ := hT (a + k) (by omega)
      have hc2 : c = 1 := by omega
      have h91 : ∀ d : Nat, g_X4_wordOf_91 rd (nI k) (nI d) = rd (nI d) (nI (k + 1)) := by
        intro d
        unfold g_X4_wordOf_91
        simp only [↓q_lit, ↓q_bd, nI_add]
      have hck := (hch k (by omega) hk)
      simp (disch := omega) only [↓q_lit, ↓q_bd, q_eq, hz, ↓reduceIte, q_cl, q_of, q_le, show ¬ wLn w ≤ k by omega, h0, h1, h5, nI_add, show ¬ n ≤ a + k by omega, q_lt, Nat.not_lt_zero, false_or, not_true_eq_false, show ¬ 940 ≤ a + k by omega, h91]
      by_cases he : wCh w k = T (a + k)
      · rw [if_pos he]
        refine ih 1 ⟨by omega, fun _ => ⟨hm, fun i hi him => ?_⟩, fun _ => rfl⟩
        by_cases hik : i = k
        · subst hik; exact he
        · exact hal i (by omega) him
      · rw [if_neg he]
        refine ih 0 ⟨by omega, fun h => absurd h (by omega), fun h => absurd (h.2 k (by omega) (by omega)) he⟩
  · intro f c ⟨hc1, hc⟩
    simp only [q_lp]
    generalize lp _ (g_X4_wordOf_37 rc 940 R T (nI w)) f = rd
    unfold g_X4_wordOf_37
    by_cases hz : c = 0
    · have hne : ¬ wB w = sub T a m := by
        intro h9
        have : c = 1 := hc.mpr ⟨by rw [← wB_len, h9, sub_len], fun i _ hi => Classical.byContradiction fun h8 => hno i hi (by rw [← wB_len, h9, sub_len]) h8 h9⟩
        omega
      simp (disch := omega) only [↓q_lit, q_eq, hz, ↓reduceIte]
      exact h99 0 0 rfl hne
    · obtain ⟨hm, hal⟩ := hc.mp (by omega)
      have he : wB w = sub T a m := by
        refine list_getD (by rw [wB_len, sub_len, hm]) (fun i hi => ?_)
        rw [wB_len] at hi
        obtain ⟨k1, k2⟩ := hch i (by omega) hi
        obtain ⟨t1, t2⟩ := hT (a + i) (by omega)
        rw [sub_get T a m i (by omega)]
        have := hal i hi (by omega)
        rw [k1, t1] at this
        exact (nI_eq (by omega) (by omega)).mp this
      simp (disch := omega) only [↓q_lit, q_eq, hz, ↓reduceIte, q_cl, q_of, q_le, show wLn w ≤ wLn w by omega, he]
      unfold g_X4_wordOf_99
      simp (disch := omega) only [↓q_lit, q_eq, hz, ↓reduceIte]
theorem q_wordOf {T : Nat → Int32} (hT : okT T) {n a m : Nat} {R : kD} (hn : n ≤ 940) (ham : a + m ≤ n) (h0 : R.1 0 0 = nI 1) (h1 : R.1 0 1 = nI n) (h5 : R.1 0 5 = nI a) :
    f_X4_wordOf (nI m) 940 R T = some (nI (wordIx (sub T a m))) := by
  unfold f_X4_wordOf
  refine q_one (fun f w (_ : Unit) => lp (fun _ => none) (g_X4_wordOf_2 940 R T (nI m)) f (nI w)) (fun w _ => wordIx (sub T a m) = wFrom (sub T a m) w (22 - w)) (fun r => r = some (nI (wordIx (sub T a m)))) 22 ?_ ?_ (22 - 0) 0 2000 () (by omega) (by omega) rfl
  · intro f w _ _ hw hI ih
    simp only [q_lp]
    generalize lp _ (g_X4_wordOf_2 940 R T (nI m)) f = rc at ih ⊢
    have hI : wordIx (sub T a m) = wFrom (sub T a m) w (22 - w) := hI
    rw [show 22 - w = (22 - (w + 1)) + 1 by omega] at hI
    unfold wFrom at hI
    have hout : (if wB w = sub T a m then some (nI w) else rc (nI (w + 1))) = some (nI (wordIx (sub T a m))) := by
      by_cases he : wB w = sub T a m
      · rw [if_pos he]; rw [if_pos he] at hI; rw [hI]
      · rw [if_neg he]; rw [if_neg he] at hI
        exact ih () hI
    have hlw := (wB_ch w hw).1
    show g_X4_wordOf_2 940 R T (nI m) rc (nI w) = _
    unfold g_X4_wordOf_2 g_X4_wordOf_32
    simp (disch := omega) only [↓q_lit, q_le, show ¬ 22 ≤ w by omega, ↓reduceIte, q_lt, Nat.not_lt_zero, false_or, q_cl, q_of, q_eq]
    by_cases hm : wLn w = m
    · rw [if_pos hm, q_wordIn hT hn ham hw h0 h1 h5 rc 1 (by omega) ⟨fun _ => hm, fun _ => rfl⟩]
      exact hout
    · rw [if_neg hm, q_wordIn hT hn ham hw h0 h1 h5 rc 0 (by omega) ⟨fun h => absurd h (by omega), fun h => absurd h hm⟩]
      exact hout
  · intro f _ hI
    simp only [q_lp]
    generalize lp _ (g_X4_wordOf_2 940 R T (nI m)) f = rc
    unfold g_X4_wordOf_2
    simp (disch := omega) only [↓q_lit, q_le, show 22 ≤ 22 by omega, ↓reduceIte]
    have hI : wordIx (sub T a m) = wFrom (sub T a m) 22 0 := hI
    rw [hI]; rfl
