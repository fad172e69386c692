/-! machine-free: longs, names as numbers -/
theorem q_litL (n : Nat) : (OfNat.ofNat n : Int64) = lN (OfNat.ofNat n) := q_e (a := lN n) rfl _ rfl
theorem l_tn {n : Nat} (h : n < 2 ^ 64) : (lN n).toBitVec.toNat = n := Nat.mod_eq_of_lt h
theorem l_of (y : Int64) (t : Nat) (ht : t < 2 ^ 64) (h : y.toBitVec.toNat = t) : y = lN t := by
  refine Int64.toBitVec_inj.mp (BitVec.eq_of_toNat_eq ?_)
  rw [h, l_tn ht]
theorem l_cmp0 (x y : Int64) : (lg_cmp x y = nI 0) = (x = y) := by
  unfold lg_cmp
  by_cases h : x = y
  · subst h
    rw [if_neg Int64.lt_irrefl, if_pos rfl]
    exact propext ⟨fun _ => rfl, fun _ => rfl⟩
  · refine propext ⟨fun h9 => ?_, fun h9 => absurd h9 h⟩
    by_cases h2 : x > y
    · rw [if_pos h2] at h9
      exact absurd h9 (by decide)
    · rw [if_neg h2, if_neg h] at h9
      exact absurd h9 (by decide)
theorem l_sm : ∀ s, s < 64 → (((nI s).toInt64 &&& lN 63).toBitVec.smod 64).toNat = s := by decide +kernel
theorem l_um : ∀ s, s < 64 → (((nI s).toInt64.toUInt64 &&& Int64.toUInt64 63).toBitVec % 64).toNat = s := by decide +kernel
theorem l_shr {n s : Nat} (hn : n < 2 ^ 63) (hs : s < 64) : lN n >>> ((nI s).toInt64 &&& lN 63) = lN (n / 2 ^ s) := by
  apply Int64.toInt_inj.mp
  have h2 : n / 2 ^ s ≤ n := Nat.div_le_self _ _
  show ((lN n).toBitVec.sshiftRight (((nI s).toInt64 &&& lN 63).toBitVec.smod 64).toNat).toInt = _
  rw [l_sm s hs, BitVec.toInt_sshiftRight]
  show (lN n).toInt >>> s = _
  rw [pk_lT hn, pk_lT (by omega), Int.shiftRight_eq_div_pow]
  rfl
theorem l_ushr {n s : Nat} (hn : n < 2 ^ 63) (hs : s < 64) : kUshrL (lN n) (nI s) = lN (n / 2 ^ s) := by
  have h2 : n / 2 ^ s ≤ n := Nat.div_le_self _ _
  refine l_of _ _ (by omega) ?_
  have e : (kUshrL (lN n) (nI s)).toBitVec = (lN n).toBitVec >>> ((((nI s).toInt64.toUInt64 &&& Int64.toUInt64 63).toBitVec % 64).toNat) := UInt64.toBitVec_shiftRight (lN n).toUInt64 ((nI s).toInt64.toUInt64 &&& Int64.toUInt64 63)
  rw [l_um s hs] at e
  rw [e, BitVec.toNat_ushiftRight, Nat.shiftRight_eq_div_pow, l_tn (by omega)]
theorem l_and {n : Nat} (hn : n < 2 ^ 63) : lN n &&& lN 255 = lN (n % 256) := by
  have := Nat.mod_lt n (show 0 < 256 by omega)
  refine l_of _ _ (by omega) ?_
  rw [Int64.toBitVec_and, BitVec.toNat_and, l_tn (by omega), l_tn (by omega), show (255 : Nat) = 2 ^ 8 - 1 from rfl, Nat.and_two_pow_sub_one_eq_mod]
theorem l_shl {n s : Nat} (hs : s < 64) (h : n * 2 ^ s < 2 ^ 63) : lN n <<< ((nI s).toInt64 &&& lN 63) = lN (n * 2 ^ s) := by
  have hn : n < 2 ^ 64 := Nat.lt_of_le_of_lt (Nat.le_mul_of_pos_right n (Nat.two_pow_pos s)) (Nat.lt_trans h (by decide))
  refine l_of _ _ (Nat.lt_trans h (by decide)) ?_
  show ((lN n).toBitVec <<< (((nI s).toInt64 &&& lN 63).toBitVec.smod 64).toNat).toNat = _
  rw [l_sm s hs, BitVec.toNat_shiftLeft, Nat.shiftLeft_eq, l_tn hn, Nat.mod_eq_of_lt (Nat.lt_trans h (by decide))]
theorem l_or {a b : Nat} (ha : a < 2 ^ 63) (hb : b < 2 ^ 63) : lN a ||| lN b = lN (a ||| b) := by
  refine l_of _ _ (Nat.lt_trans (Nat.or_lt_two_pow ha hb) (by decide)) ?_
  rw [Int64.toBitVec_or, BitVec.toNat_or, l_tn (by omega), l_tn (by omega)]
/-- letters as one number, the first one highest -/
def encR (l : List Nat) : Nat := l.foldl (fun a c => a * 256 + c) 0
theorem encR_add (l : List Nat) (c : Nat) : encR (l ++ [c]) = encR l * 256 + c := by
  unfold encR
  rw [List.foldl_append]
  rfl
def okL (l : List Nat) : Prop := 1 ≤ l.length ∧ l.length ≤ 7 ∧ ∀ c, c ∈ l → 97 ≤ c ∧ c ≤ 122
theorem l_rev {P : List Nat → Prop} (h0 : P []) (hs : ∀ l c, P l → P (l ++ [c])) (l : List Nat) : P l := by
  have h : ∀ m : List Nat, P m.reverse := by
    intro m
    induction m with
    | nil => exact h0
    | cons c m ih => rw [List.reverse_cons]; exact hs _ _ ih
  have := h l.reverse
  rw [List.reverse_reverse] at this
  exact this
theorem encR_lt (l : List Nat) (h : ∀ c, c ∈ l → c < 256) : encR l < 256 ^ l.length := by
  revert h
  refine l_rev (P := fun l => (∀ c, c ∈ l → c < 256) → encR l < 256 ^ l.length) (fun _ => Nat.one_pos) (fun l c ih h => ?_) l
  have h1 := ih (fun z hz => h z (List.mem_append.mpr (Or.inl hz)))
  have h2 := h c (List.mem_append.mpr (Or.inr (List.mem_singleton.mpr rfl)))
  rw [encR_add, List.length_append, List.length_singleton, Nat.pow_succ]
  omega
/-- its letters, from behind -/
theorem encR_dg (l : List Nat) (h : ∀ c, c ∈ l → c < 256) : ∀ k, k < l.length → encR l / 256 ^ k % 256 = l.getD (l.length - 1 - k) 0 := by
  revert h
  refine l_rev (P := fun l => (∀ c, c ∈ l → c < 256) → ∀ k, k < l.length → encR l / 256 ^ k % 256 = l.getD (l.length - 1 - k) 0) (fun _ k hk => by cases hk) (fun l c ih h k hk => ?_) l
  have h2 := h c (List.mem_append.mpr (Or.inr (List.mem_singleton.mpr rfl)))
  rw [encR_add, List.length_append, List.length_singleton]
  cases k with
  | zero =>
    rw [Nat.pow_zero, Nat.div_one, show l.length + 1 - 1 - 0 = l.length by omega]
    have : (l ++ [c]).getD l.length 0 = c := by simp
    rw [this]
    omega
  | succ k =>
    rw [List.length_append, List.length_singleton] at hk
    have h1 := ih (fun z hz => h z (List.mem_append.mpr (Or.inl hz))) k (by omega)
    have e : (encR l * 256 + c) / 256 ^ (k + 1) = encR l / 256 ^ k := by
      rw [Nat.pow_succ, Nat.mul_comm (256 ^ k), ← Nat.div_div_eq_div_mul, show (encR l * 256 + c) / 256 = encR l by omega]
    rw [e, h1, show l.length + 1 - 1 - (k + 1) = l.length - 1 - k by omega]
    have hlt : l.length - 1 - k < l.length := by omega
    simp [List.getD, List.getElem?_append, hlt]
def NM (l : List Nat) (a b : Int64) : Prop := okL l ∧ a = lN (encR l * 256 ^ (7 - l.length)) ∧ b = lN (encR l)
theorem okL_c {l : List Nat} (h : okL l) : ∀ c, c ∈ l → c < 256 := fun c hc => by have := h.2.2 c hc; omega
theorem okL_lt {l : List Nat} (h : okL l) : encR l * 256 ^ (7 - l.length) < 2 ^ 56 ∧ encR l < 2 ^ 56 := by
  have h1 := encR_lt l (okL_c h)
  have h2 : 256 ^ l.length * 256 ^ (7 - l.length) = 2 ^ 56 := by
    rw [← Nat.pow_add, show l.length + (7 - l.length) = 7 by have := h.2.1; omega]
  have h3 : 0 < 256 ^ (7 - l.length) := Nat.pow_pos (by omega)
  refine ⟨?_, ?_⟩
  · rw [← h2]
    exact Nat.mul_lt_mul_of_pos_right h1 h3
  · refine Nat.lt_of_lt_of_le h1 ?_
    rw [← h2]
    exact Nat.le_mul_of_pos_right _ h3
/-- the class's letter at a place -/
theorem NM_dgC {l : List Nat} (h : okL l) {i : Nat} (hi : i < 7) : encR l * 256 ^ (7 - l.length) / 256 ^ (6 - i) % 256 = l.getD i 0 := by
  have h1 := h.1
  have h2 := h.2.1
  by_cases hil : i < l.length
  · have e : encR l * 256 ^ (7 - l.length) / 256 ^ (6 - i) = encR l / 256 ^ (l.length - 1 - i) := by
      rw [show 6 - i = (7 - l.length) + (l.length - 1 - i) by omega, Nat.pow_add, ← Nat.div_div_eq_div_mul, Nat.mul_div_cancel _ (Nat.pow_pos (by omega))]
    rw [e, encR_dg l (okL_c h) (l.length - 1 - i) (by omega), show l.length - 1 - (l.length - 1 - i) = i by omega]
  · have e : encR l * 256 ^ (7 - l.length) / 256 ^ (6 - i) = encR l * 256 ^ (i - l.length) * 256 := by
      rw [show 7 - l.length = (i - l.length + 1) + (6 - i) by omega, Nat.pow_add, ← Nat.mul_assoc, Nat.mul_div_cancel _ (Nat.pow_pos (by omega)), Nat.pow_succ, ← Nat.mul_assoc]
    rw [e, Nat.mul_mod_left]
    simp [List.getD, List.getElem?_eq_none (show l.length ≤ i by omega)]
theorem okL_nz {l : List Nat} (h : okL l) {i : Nat} (hi : i < l.length) : 97 ≤ l.getD i 0 ∧ l.getD i 0 ≤ 122 := by
  have : l.getD i 0 = l[i] := by simp [List.getD, List.getElem?_eq_getElem hi]
  rw [this]
  exact h.2.2 _ (List.getElem_mem hi)
theorem NM_len {l m : List Nat} (hl : okL l) (hm : okL m) (h : ∀ i, i < 7 → l.getD i 0 = m.getD i 0) : l = m := by
  have hlen : l.length = m.length := by
    by_cases h1 : l.length < m.length
    · have h2 := h l.length (by have := hm.2.1; omega)
      have h3 := okL_nz hm h1
      have h4 : l.getD l.length 0 = 0 := by simp [List.getD]
      omega
    · by_cases h1 : m.length < l.length
      · have h2 := h m.length (by have := hl.2.1; omega)
        have h3 := okL_nz hl h1
        have h4 : m.getD m.length 0 = 0 := by simp [List.getD]
        omega
      · omega
  refine List.ext_getElem hlen fun i h1 h2 => ?_
  have h3 := h i (by have := hl.2.1; omega)
  simp [List.getD, List.getElem?_eq_getElem h1, List.getElem?_eq_getElem h2] at h3
  exact h3
/-- alike names are alike numbers, on both sides -/
theorem NM_eqC {l m : List Nat} {a b c d : Int64} (h1 : NM l a b) (h2 : NM m c d) : (a = c) = (l = m) := by
  obtain ⟨hl, rfl, rfl⟩ := h1
  obtain ⟨hm, rfl, rfl⟩ := h2
  have b1 := (okL_lt hl).1
  have b2 := (okL_lt hm).1
  refine propext ⟨fun h => ?_, fun h => by rw [h]⟩
  have h := (pk_lEQ (by omega) (by omega)).mp h
  refine NM_len hl hm fun i hi => ?_
  rw [← NM_dgC hl hi, ← NM_dgC hm hi, h]
theorem NM_eqM {l m : List Nat} {a b c d : Int64} (h1 : NM l a b) (h2 : NM m c d) : (b = d) = (l = m) := by
  obtain ⟨hl, rfl, rfl⟩ := h1
  obtain ⟨hm, rfl, rfl⟩ := h2
  have b1 := (okL_lt hl).2
  have b2 := (okL_lt hm).2
  refine propext ⟨fun h => ?_, fun h => by rw [h]⟩
  have h := (pk_lEQ (by omega) (by omega)).mp h
  have hlo : ∀ {l : List Nat}, okL l → 256 ^ (l.length - 1) ≤ encR l := by
    intro l hl
    have h3 := encR_dg l (okL_c hl) (l.length - 1) (by have := hl.1; omega)
    have h4 := okL_nz hl (i := l.length - 1 - (l.length - 1)) (by have := hl.1; omega)
    by_cases h5 : encR l < 256 ^ (l.length - 1)
    · rw [Nat.div_eq_of_lt h5] at h3
      omega
    · omega
  have hlen : l.length = m.length := by
    have u1 := encR_lt l (okL_c hl)
    have u2 := encR_lt m (okL_c hm)
    have u3 := hlo hl
    have u4 := hlo hm
    by_cases h6 : l.length < m.length
    · have := Nat.pow_le_pow_right (show 0 < 256 by omega) (show l.length ≤ m.length - 1 by omega)
      omega
    · by_cases h7 : m.length < l.length
      · have := Nat.pow_le_pow_right (show 0 < 256 by omega) (show m.length ≤ l.length - 1 by omega)
        omega
      · omega
  refine NM_len hl hm fun i hi => ?_
  by_cases hil : i < l.length
  · have h3 := encR_dg l (okL_c hl) (l.length - 1 - i) (by omega)
    have h4 := encR_dg m (okL_c hm) (m.length - 1 - i) (by omega)
    rw [show l.length - 1 - (l.length - 1 - i) = i by omega] at h3
    rw [show m.length - 1 - (m.length - 1 - i) = i by omega] at h4
    rw [← h3, ← h4, h, hlen]
  · simp [List.getD, List.getElem?_eq_none (show l.length ≤ i by omega), List.getElem?_eq_none (show m.length ≤ i by omega)]
