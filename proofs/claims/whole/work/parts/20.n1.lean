/-! machine-free: numbers, rows, loops -/
theorem q_e {α : Type} {a b : α} (h : a = b) : ∀ c : α, c = a → c = b := fun c e => e.trans h
theorem q_lit (n : Nat) : (OfNat.ofNat n : Int32) = nI (OfNat.ofNat n) := q_e (a := nI n) rfl _ rfl
def mI : Int32 := -1
theorem q_m1 : (-1 : Int32) = mI := q_e (a := mI) rfl _ rfl
theorem q_kI {M : kD} {a k : Nat} {v : Int32} {b : Nat} : (kI M a k v).1 b = if b = a then upd (M.1 a) k v else M.1 b := rfl
theorem q_kI2 {M : kD} {a k : Nat} {v : Int32} : (kI M a k v).2 = M.2 := rfl
theorem q_kL {M : kD} {a k : Nat} {v : Int64} {b : Nat} : (kL M a k v).2 b = if b = a then vp_updL (M.2 a) k v else M.2 b := rfl
theorem q_kL1 {M : kD} {a k : Nat} {v : Int64} : (kL M a k v).1 = M.1 := rfl
theorem q_kSI {M : kD} {a : Nat} {f : Nat → Int32} {b : Nat} : (kSI M a f).1 b = if b = a then f else M.1 b := rfl
theorem q_kSI2 {M : kD} {a : Nat} {f : Nat → Int32} : (kSI M a f).2 = M.2 := rfl
theorem q_kSL {M : kD} {a : Nat} {f : Nat → Int64} {b : Nat} : (kSL M a f).2 b = if b = a then f else M.2 b := rfl
theorem q_kSL1 {M : kD} {a : Nat} {f : Nat → Int64} : (kSL M a f).1 = M.1 := rfl
theorem q_up {f : Nat → Int32} {k j : Nat} {x : Int32} : upd f k x j = if j = k then x else f j := rfl
theorem q_upL {f : Nat → Int64} {k j : Nat} {x : Int64} : vp_updL f k x j = if j = k then x else f j := rfl
theorem q_kI_S (M : kD) (a k : Nat) (v : Int32) : kI M a k v = kSI M a (upd (M.1 a) k v) := rfl
theorem q_SS (M : kD) (a : Nat) (f g : Nat → Int32) : kSI (kSI M a f) a g = kSI M a g := by
  unfold kSI
  simp only [Prod.mk.injEq, and_true]
  funext b
  split <;> simp_all
theorem q_SM (M : kD) (a : Nat) : kSI M a (M.1 a) = M := by
  unfold kSI
  refine Prod.ext ?_ rfl
  funext b
  show (if b = a then M.1 a else M.1 b) = M.1 b
  split
  · next h => rw [h]
  · rfl
theorem q_SI (M : kD) (a : Nat) (f : Nat → Int32) (k : Nat) (v : Int32) : kI (kSI M a f) a k v = kSI M a (upd f k v) := by
  rw [q_kI_S, q_SS]
  show kSI M a (upd (if a = a then f else M.1 a) k v) = _
  rw [if_pos rfl]
theorem q_bd {α β : Type} (x : α) (k : α → β) : bd1 x k = k x := q_e rfl _ rfl
theorem q_bo {α β : Type} (x : α) (k : α → Option β) : bo (some x) k = k x := q_e rfl _ rfl
theorem q_bo2 {α β γ : Type} (x : α) (y : β) (k : α → β → Option γ) : bo2 (some (x, y)) k = k x y := q_e rfl _ rfl
theorem q_bo3 {α β γ δ : Type} (x : α) (y : β) (z : γ) (k : α → β → γ → Option δ) : bo3 (some (x, y, z)) k = k x y z := q_e rfl _ rfl
theorem q_lp {T : Type} (z : T) (b : T → T) (n : Nat) : lp z b (n + 1) = b (lp z b n) := q_e rfl _ rfl
theorem q_cl {n : Nat} (h : n < 2 ^ 31) : (nI n).toNatClampNeg = n := nI_clamp h
theorem q_lt {a b : Nat} (ha : a < 2 ^ 31) (hb : b < 2 ^ 31) : (nI a < nI b) = (a < b) := propext (nI_ltI ha hb)
theorem q_le {a b : Nat} (ha : a < 2 ^ 31) (hb : b < 2 ^ 31) : (nI a ≤ nI b) = (a ≤ b) := propext (nI_leI ha hb)
theorem q_eq {a b : Nat} (ha : a < 2 ^ 31) (hb : b < 2 ^ 31) : (nI a = nI b) = (a = b) := propext (nI_eq ha hb)
theorem q_sub {a b : Nat} (h : b ≤ a) : nI a - nI b = nI (a - b) := pk_sub h
theorem q_rem {a d : Nat} (ha : a < 2 ^ 31) (h0 : 0 < d) (hd : d < 2 ^ 31) : kRem (nI a) (nI d) = nI (a % d) := pk_rem ha h0 hd
theorem q_neg (a : Nat) (h : a < 2 ^ 31) : (nI a = mI) = False := by
  refine eq_false fun e => ?_
  have h1 := congrArg Int32.toInt e
  rw [nI_toInt h] at h1
  have h2 : mI.toInt = -1 := rfl
  omega
theorem q_neg' (a : Nat) (h : a < 2 ^ 31) : (mI = nI a) = False := by
  refine eq_false fun e => ?_
  exact (q_neg a h).mp e.symm
theorem q_ltn (a : Nat) (h : a < 2 ^ 31) : (nI a < mI) = False := by
  refine eq_false fun e => ?_
  rw [Int32.lt_iff_toInt_lt, nI_toInt h] at e
  have h2 : mI.toInt = -1 := rfl
  omega
theorem q_nlt (a : Nat) (h : a < 2 ^ 31) : (mI < nI a) = True := by
  refine eq_true ?_
  rw [Int32.lt_iff_toInt_lt, nI_toInt h]
  have h2 : mI.toInt = -1 := rfl
  omega
theorem q_nle (a : Nat) (h : a < 2 ^ 31) : (mI ≤ nI a) = True := by
  refine eq_true ?_
  rw [Int32.le_iff_toInt_le, nI_toInt h]
  have h2 : mI.toInt = -1 := rfl
  omega
theorem q_len (a : Nat) (h : a < 2 ^ 31) : (nI a ≤ mI) = False := by
  refine eq_false fun e => ?_
  rw [Int32.le_iff_toInt_le, nI_toInt h] at e
  have h2 : mI.toInt = -1 := rfl
  omega
theorem q_0m1 : nI 0 - nI 1 = mI := rfl
theorem q_nlt0 : (mI < nI 0) = True := q_nlt 0 (by omega)
/-- an argument: below 0, or a number -/
theorem q_arg (a : Int32) : (a < nI 0) ∨ ∃ j, j < 2 ^ 31 ∧ a = nI j := by
  by_cases h : a < 0
  · exact Or.inl h
  · exact Or.inr (nI_of h)
theorem q_pred_lt (n j : Nat) (hn : n < 2 ^ 31) (hj : j < 2 ^ 31) : (nI n - nI 1 < nI j) = (n ≤ j) := by
  cases n with
  | zero => rw [q_0m1, q_nlt j hj]; exact (eq_true (Nat.zero_le j)).symm
  | succ n => rw [q_sub (by omega), q_lt (by omega) hj]; exact propext (by omega)
/-! loops -/
theorem q_one {ρ σ : Type} (F : Nat → Nat → σ → ρ) (I : Nat → σ → Prop) (Post : ρ → Prop) (n : Nat)
    (hs : ∀ f k x, 0 < f → k < n → I k x → (∀ x', I (k + 1) x' → Post (F f (k + 1) x')) → Post (F (f + 1) k x))
    (he : ∀ f x, I n x → Post (F (f + 1) n x)) : ∀ d k f x, k + d = n → d < f → I k x → Post (F f k x) := by
  intro d
  induction d with
  | zero =>
    intro k f x hk hf hI
    obtain ⟨f, rfl⟩ : ∃ g, f = g + 1 := ⟨f - 1, by omega⟩
    have : k = n := by omega
    subst this
    exact he f x hI
  | succ d ih =>
    intro k f x hk hf hI
    obtain ⟨f, rfl⟩ : ∃ g, f = g + 1 := ⟨f - 1, by omega⟩
    exact hs f k x (by omega) (by omega) hI (fun x' h' => ih (k + 1) f x' (by omega) (by omega) h')
theorem q_two {ρ1 ρ2 σ1 σ2 : Type} (F : Nat → Nat → σ1 → ρ1) (G : Nat → Nat → σ2 → ρ2) (I : Nat → σ1 → σ2 → Prop) (Post : ρ1 → ρ2 → Prop) (n : Nat)
    (hs : ∀ f g k x y, 0 < f → 0 < g → k < n → I k x y → (∀ x' y', I (k + 1) x' y' → Post (F f (k + 1) x') (G g (k + 1) y')) → Post (F (f + 1) k x) (G (g + 1) k y))
    (he : ∀ f g x y, I n x y → Post (F (f + 1) n x) (G (g + 1) n y)) : ∀ d k f g x y, k + d = n → d < f → d < g → I k x y → Post (F f k x) (G g k y) := by
  intro d
  induction d with
  | zero =>
    intro k f g x y hk hf hg hI
    obtain ⟨f, rfl⟩ : ∃ g, f = g + 1 := ⟨f - 1, by omega⟩
    obtain ⟨g, rfl⟩ : ∃ q, g = q + 1 := ⟨g - 1, by omega⟩
    have : k = n := by omega
    subst this
    exact he f g x y hI
  | succ d ih =>
    intro k f g x y hk hf hg hI
    obtain ⟨f, rfl⟩ : ∃ g, f = g + 1 := ⟨f - 1, by omega⟩
    obtain ⟨g, rfl⟩ : ∃ q, g = q + 1 := ⟨g - 1, by omega⟩
    exact hs f g k x y (by omega) (by omega) (by omega) hI (fun x' y' h' => ih (k + 1) f g x' y' (by omega) (by omega) (by omega) h')
/-! sets as bits -/
def stO (p : Nat → Bool) : Nat → Nat
  | 0 => 0
  | k + 1 => if p k then stO p k ||| 2 ^ k else stO p k
theorem stO_bit (p : Nat → Bool) (n k : Nat) : (stO p n).testBit k = (decide (k < n) && p k) := by
  induction n with
  | zero => simp [stO]
  | succ n ih =>
    unfold stO
    by_cases hp : p n
    · rw [if_pos hp, Nat.testBit_or, ih, Nat.testBit_two_pow]
      by_cases hk : k = n
      · subst hk; simp [hp]
      · rw [show decide (k < n + 1) = decide (k < n) from decide_eq_decide.mpr (by omega), show decide (n = k) = false from decide_eq_false (by omega), Bool.or_false]
    · rw [if_neg hp, ih]
      by_cases hk : k = n
      · subst hk; simp [hp]
      · rw [show decide (k < n + 1) = decide (k < n) from decide_eq_decide.mpr (by omega)]
theorem stO_lt (p : Nat → Bool) (n : Nat) : stO p n < 2 ^ n := by
  refine Nat.lt_pow_two_of_testBit _ fun i hi => ?_
  rw [stO_bit, show decide (i < n) = false from decide_eq_false (by omega), Bool.false_and]
theorem stO_step (p : Nat → Bool) (k : Nat) : stO p (k + 1) = if p k then stO p k ||| 2 ^ k else stO p k := rfl
def q_b (b : Bool) : Int32 := if b then nI 1 else nI 0
theorem q_bit : ∀ x, x < 256 → ∀ k, k < 8 → f_X11_hasBit (nI x) (nI k) = q_b (x.testBit k) ∧ f_X12_bitOf (nI x) (nI k) = q_b (x.testBit k) := by decide +kernel
theorem q_or : ∀ x, x < 256 → ∀ k, k < 8 → nI x ||| (nI 1 <<< (nI k &&& nI 31)) = nI (x ||| 2 ^ k) := by decide +kernel
theorem q_or0 : ∀ x, x < 256 → nI x ||| nI 0 = nI x := by decide +kernel
theorem q_xor1 : ∀ x, x < 64 → ∀ k, k < 6 → nI x ^^^ (nI 1 <<< (nI k &&& nI 31)) = nI (x ^^^ 2 ^ k) := by decide +kernel
theorem q_hor : ∀ x, x < 64 → ∀ k, k < 6 → x.testBit k = false → nI x ||| (nI 1 <<< (nI k &&& nI 31)) = nI (x ^^^ 2 ^ k) := by decide +kernel
theorem q_hand : ∀ x, x < 64 → ∀ k, k < 6 → x.testBit k = true → nI x &&& ((nI 1 <<< (nI k &&& nI 31)) ^^^ mI) = nI (x ^^^ 2 ^ k) := by decide +kernel
theorem q_xlt : ∀ n, n ≤ 6 → ∀ x, x < 2 ^ n → ∀ k, k < n → x ^^^ 2 ^ k < 2 ^ n := by
  intro n _ x hx k hk
  exact Nat.xor_lt_two_pow hx (Nat.pow_lt_pow_right (by omega) hk)
