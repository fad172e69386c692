/-! machine-free: what comes: the class's own measure -/
def inV (V : Nat → Nat) (x : Nat) : Nat := if V x = 0 then 0 else 1
theorem smN_up (f : Nat → Nat) (n j v : Nat) (hj : j < n) (h0 : f j = 0) : smN (fun k => if k = j then v else f k) n = smN f n + v := by
  induction n with
  | zero => omega
  | succ n ih =>
    show smN _ n + (if n = j then v else f n) = smN f n + f n + v
    by_cases hjn : j = n
    · subst hjn
      rw [if_pos rfl, h0]
      have : smN (fun k => if k = j then v else f k) j = smN f j := by
        have : ∀ m, m ≤ j → smN (fun k => if k = j then v else f k) m = smN f m := by
          intro m
          induction m with
          | zero => intro _; rfl
          | succ m ihm =>
            intro hm
            show smN _ m + (if m = j then v else f m) = smN f m + f m
            rw [ihm (by omega), if_neg (by omega)]
        exact this j (Nat.le_refl _)
      omega
    · rw [if_neg (by omega), ih (by omega)]
      omega
theorem inV_up (V : Nat → Nat) (j v : Nat) (hv : v ≠ 0) : inV (fun k => if k = j then v else V k) = fun k => if k = j then 1 else inV V k := by
  funext k
  unfold inV
  by_cases h : k = j
  · simp only [h, if_true, if_neg hv]
  · simp only [h, if_false]
theorem inV_all {V : Nat → Nat} (h : smN (inV V) 48 = 48) {x : Nat} (hx : x < 48) : V x ≠ 0 := by
  intro h0
  have h1 := smN_lt (inV V) (fun _ => 1) 48 x (fun k _ => by unfold inV; split <;> omega) hx (by unfold inV; rw [if_pos h0]; omega)
  have h2 := smN_le (fun _ => 1) 48 1 (fun _ _ => Nat.le_refl _)
  omega
/-- the rows of a Route in the making -/
def mkP (P : kD) (a b : Nat → Int32) : kD := kSI (kSI P 100 a) 1 b
theorem mkP_a (P : kD) (a b : Nat → Int32) (k : Nat) (v : Int32) : kI (mkP P a b) 100 k v = mkP P (upd a k v) b := by
  refine kD_ext (fun c => ?_) rfl
  unfold mkP
  simp only [q_kI, q_kSI]
  by_cases h1 : c = 100
  · subst h1; simp only [Nat.reduceEqDiff, ↓reduceIte]
  · by_cases h2 : c = 1
    · subst h2; simp only [Nat.reduceEqDiff, ↓reduceIte]
    · simp only [h1, h2, ↓reduceIte]
theorem mkP_b (P : kD) (a b : Nat → Int32) (k : Nat) (v : Int32) : kI (mkP P a b) 1 k v = mkP P a (upd b k v) := by
  unfold mkP
  rw [q_SI]
theorem mkP_100 (P : kD) (a b : Nat → Int32) : (mkP P a b).1 100 = a := rfl
theorem mkP_1 (P : kD) (a b : Nat → Int32) : (mkP P a b).1 1 = b := rfl
/-- the invariant of the queue: n queued, i looked at -/
def BI (g : Nat) (c : Nat → Bool) (E : Nat → Nat → Bool) (V Q : Nat → Nat) (n i z : Nat) : Prop :=
  (∀ x, x < 48 → V x ≠ 0 → c x = true ∧ PP g E (V x - 1) x) ∧ (∀ j, j < n → Q j < 48 ∧ V (Q j) ≠ 0) ∧ (∀ x, x < 48 → V x ≠ 0 → ∃ j, j < n ∧ Q j = x) ∧ smN (inV V) 48 = n ∧
  (∀ j k, j ≤ k → k < n → V (Q j) ≤ V (Q k)) ∧ (i < n → ∀ k, k < n → V (Q k) ≤ V (Q i) + 1) ∧
  (∀ j, j < i → j < n → ∀ y, y < 48 → c y = true → E y (Q j) = true → V y ≠ 0 ∧ V y ≤ V (Q j) + 1) ∧
  (∀ x, x < 48 → c x = true → x % 8 = g → V x = 1) ∧ (i < n → ∀ y, y < z → y < 48 → c y = true → E y (Q i) = true → V y ≠ 0 ∧ V y ≤ V (Q i) + 1) ∧ (∀ k, k < n → V (Q k) ≤ k + 1)
theorem BI_n {g : Nat} {c : Nat → Bool} {E : Nat → Nat → Bool} {V Q : Nat → Nat} {n i z : Nat} (h : BI g c E V Q n i z) : n ≤ 48 := by
  have h1 := h.2.2.2.1
  have h2 := smN_le (inV V) 48 1 (fun k _ => by unfold inV; split <;> omega)
  omega
theorem BI_next {g : Nat} {c : Nat → Bool} {E : Nat → Nat → Bool} {V Q : Nat → Nat} {n i : Nat} (h : BI g c E V Q n i 48) (hi : i < n) : BI g c E V Q n (i + 1) 0 := by
  obtain ⟨b1, b2, b3, b4, b5, b6, b7, b8, b9, b10⟩ := h
  refine ⟨b1, b2, b3, b4, b5, fun h1 k hk => ?_, fun j hj hjn y hy hc hE => ?_, b8, (fun _ y hy => by omega), b10⟩
  · have h2 := b6 hi k hk
    have h3 := b5 i (i + 1) (by omega) h1
    omega
  · by_cases hji : j = i
    · subst hji; exact b9 hi y hy hy hc hE
    · exact b7 j (by omega) hjn y hy hc hE
/-- one that is there already is near enough -/
theorem BI_set {g : Nat} {c : Nat → Bool} {E : Nat → Nat → Bool} {V Q : Nat → Nat} {n i z : Nat} (h : BI g c E V Q n i z) (hi : i < n) (hz : z < 48) (hV : V z ≠ 0) : BI g c E V Q n i (z + 1) := by
  obtain ⟨b1, b2, b3, b4, b5, b6, b7, b8, b9, b10⟩ := h
  refine ⟨b1, b2, b3, b4, b5, b6, b7, b8, fun _ y hy hy48 hc hE => ?_, b10⟩
  by_cases hyz : y = z
  · subst hyz
    obtain ⟨j, hj, e⟩ := b3 y hz hV
    have := b6 hi j hj
    rw [e] at this
    exact ⟨hV, this⟩
  · exact b9 hi y (by omega) hy48 hc hE
theorem BI_no {g : Nat} {c : Nat → Bool} {E : Nat → Nat → Bool} {V Q : Nat → Nat} {n i z : Nat} (h : BI g c E V Q n i z) (hn : c z = true → E z (Q i) = true → False) : BI g c E V Q n i (z + 1) := by
  obtain ⟨b1, b2, b3, b4, b5, b6, b7, b8, b9, b10⟩ := h
  refine ⟨b1, b2, b3, b4, b5, b6, b7, b8, fun hi y hy hy48 hc hE => ?_, b10⟩
  by_cases hyz : y = z
  · subst hyz; exact (hn hc hE).elim
  · exact b9 hi y (by omega) hy48 hc hE
theorem BI_add {g : Nat} {c : Nat → Bool} {E : Nat → Nat → Bool} {V Q : Nat → Nat} {n i z : Nat} (h : BI g c E V Q n i z) (hi : i < n) (hz : z < 48) (hV : V z = 0) (hc : c z = true) (hE : E z (Q i) = true) :
    BI g c E (fun k => if k = z then V (Q i) + 1 else V k) (fun k => if k = n then z else Q k) (n + 1) i (z + 1) := by
  obtain ⟨b1, b2, b3, b4, b5, b6, b7, b8, b9, b10⟩ := h
  have hQz : ∀ j, j < n → Q j ≠ z := fun j hj e => (b2 j hj).2 (by rw [e]; exact hV)
  have eQ : ∀ j, j < n → (if j = n then z else Q j) = Q j := fun j hj => if_neg (by omega)
  have eV : ∀ x, x ≠ z → (if x = z then V (Q i) + 1 else V x) = V x := fun x hx => if_neg hx
  have eVQ : ∀ j, j < n → (if (if j = n then z else Q j) = z then V (Q i) + 1 else V (if j = n then z else Q j)) = V (Q j) := fun j hj => by rw [eQ j hj, eV _ (hQz j hj)]
  have hVi := (b2 i hi).2
  refine ⟨fun x hx h1 => ?_, fun j hj => ?_, fun x hx h1 => ?_, ?_, fun j k hjk hk => ?_, fun _ k hk => ?_, fun j hji hjn y hy hcy hEy => ?_, fun x hx hcx hxg => ?_, fun _ y hy hy48 hcy hEy => ?_, fun k hk => ?_⟩
  · by_cases hxz : x = z
    · subst hxz
      refine ⟨hc, ?_⟩
      show PP g E ((if x = x then V (Q i) + 1 else V x) - 1) x
      rw [if_pos rfl, Nat.add_sub_cancel]
      obtain ⟨m, hm⟩ : ∃ m, V (Q i) = m + 1 := ⟨V (Q i) - 1, by omega⟩
      rw [hm]
      refine ⟨Q i, (b2 i hi).1, hE, ?_⟩
      have := (b1 (Q i) (b2 i hi).1 hVi).2
      rw [hm, Nat.add_sub_cancel] at this
      exact this
    · simp only [eV x hxz] at h1 ⊢
      exact b1 x hx h1
  · by_cases hjn : j = n
    · subst hjn
      simp only [if_true]
      exact ⟨hz, by omega⟩
    · have hj' : j < n := by omega
      refine ⟨?_, ?_⟩
      · show (if j = n then z else Q j) < 48
        rw [eQ j hj']; exact (b2 j hj').1
      · show (if (if j = n then z else Q j) = z then V (Q i) + 1 else V (if j = n then z else Q j)) ≠ 0
        rw [eVQ j hj']; exact (b2 j hj').2
  · by_cases hxz : x = z
    · exact ⟨n, by omega, by show (if n = n then z else Q n) = x; rw [if_pos rfl, hxz]⟩
    · simp only [eV x hxz] at h1
      obtain ⟨j, hj, e⟩ := b3 x hx h1
      exact ⟨j, by omega, by show (if j = n then z else Q j) = x; rw [eQ j hj]; exact e⟩
  · rw [inV_up V z _ (by omega), smN_up (inV V) 48 z 1 hz (by unfold inV; rw [if_pos hV]), b4]
  · by_cases hkn : k = n
    · subst hkn
      simp only [if_true]
      by_cases hjn : j = k
      · subst hjn; simp only [if_true]; exact Nat.le_refl _
      · simp only [eVQ j (by omega)]
        exact b6 hi j (by omega)
    · simp only [eVQ k (by omega), eVQ j (by omega)]
      exact b5 j k hjk (by omega)
  · simp only [eVQ i hi]
    by_cases hkn : k = n
    · subst hkn; simp only [if_true]; exact Nat.le_refl _
    · simp only [eVQ k (by omega)]
      exact b6 hi k (by omega)
  · have hj : j < n := by omega
    simp only [eQ j hj] at hEy
    simp only [eVQ j hj]
    have h1 := b7 j hji hj y hy hcy hEy
    by_cases hyz : y = z
    · subst hyz; exact absurd hV h1.1
    · simp only [eV y hyz]; exact h1
  · have h1 := b8 x hx hcx hxg
    by_cases hxz : x = z
    · subst hxz; omega
    · simp only [eV x hxz]; exact h1
  · simp only [eQ i hi] at hEy
    simp only [eVQ i hi]
    by_cases hyz : y = z
    · subst hyz; simp only [if_true]; exact ⟨by omega, Nat.le_refl _⟩
    · simp only [eV y hyz]
      exact b9 hi y (by omega) hy48 hcy hEy
  · by_cases hkn : k = n
    · subst hkn
      simp only [if_true]
      have := b10 i hi
      omega
    · simp only [eVQ k (by omega)]
      exact b10 k (by omega)
theorem BI_full {g : Nat} {c : Nat → Bool} {E : Nat → Nat → Bool} {V Q : Nat → Nat} {i z : Nat} (h : BI g c E V Q 48 i z) (hi : i < 48) : BI g c E V Q 48 i 48 := by
  have hall := h.2.2.2.1
  obtain ⟨b1, b2, b3, b4, b5, b6, b7, b8, b9, b10⟩ := h
  refine ⟨b1, b2, b3, b4, b5, b6, b7, b8, fun _ y _ hy hc hE => ?_, b10⟩
  have hV := inV_all hall hy
  obtain ⟨j, hj, e⟩ := b3 y hy hV
  have := b6 hi j hj
  rw [e] at this
  exact ⟨hV, this⟩
theorem BI_end {g : Nat} {c : Nat → Bool} {E : Nat → Nat → Bool} {V Q : Nat → Nat} {n : Nat} (h : BI g c E V Q n n 0) (hEc : ∀ x y, E x y = true → c y = true) :
    ∀ x, x < 48 → (V x ≠ 0 → c x = true ∧ isMd g E x (V x - 1)) ∧ (c x = true → ∀ m, PP g E m x → V x ≠ 0 ∧ V x ≤ m + 1) := by
  obtain ⟨b1, b2, b3, b4, b5, b6, b7, b8, b9, b10⟩ := h
  have key : ∀ m x, x < 48 → c x = true → PP g E m x → V x ≠ 0 ∧ V x ≤ m + 1 := by
    intro m
    induction m with
    | zero =>
      intro x hx hc hP
      have := b8 x hx hc hP
      omega
    | succ m ih =>
      intro x hx hc ⟨y, hy, hE, hP⟩
      have h1 := ih y hy (hEc x y hE) hP
      obtain ⟨j, hj, e⟩ := b3 y hy h1.1
      have h2 := b7 j hj hj x hx hc (by rw [e]; exact hE)
      rw [e] at h2
      omega
  intro x hx
  refine ⟨fun hV => ⟨(b1 x hx hV).1, (b1 x hx hV).2, fun j hj hP => ?_⟩, fun hc m hP => key m x hx hc hP⟩
  have := key j x hx (b1 x hx hV).1 hP
  omega
theorem BI_lt {g : Nat} {c : Nat → Bool} {E : Nat → Nat → Bool} {V Q : Nat → Nat} {n i z : Nat} (h : BI g c E V Q n i z) {x : Nat} (hx : x < 48) : V x ≤ 48 := by
  have hn := BI_n h
  obtain ⟨b1, b2, b3, b4, b5, b6, b7, b8, b9, b10⟩ := h
  by_cases hV : V x = 0
  · omega
  · obtain ⟨j, hj, e⟩ := b3 x hx hV
    have := b10 j hj
    rw [e] at this
    omega
