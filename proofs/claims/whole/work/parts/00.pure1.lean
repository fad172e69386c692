abbrev kD : Type := (Nat → Nat → Int32) × (Nat → Nat → Int64)
def kI (M : kD) (a k : Nat) (v : Int32) : kD := (fun b => if b = a then upd (M.1 a) k v else M.1 b, M.2)
def kL (M : kD) (a k : Nat) (v : Int64) : kD := (M.1, fun b => if b = a then vp_updL (M.2 a) k v else M.2 b)
def bd1 {α β : Type} (x : α) (k : α → β) : β := k x
theorem bd1_e {α β : Type} {x : α} {k : α → β} {r : β} (h : bd1 x k = r) : ∃ y, y = x ∧ k y = r := ⟨x, rfl, h⟩
def bo {α β : Type} (o : Option α) (k : α → Option β) : Option β := match o with
  | none => none
  | some a => k a
def bo2 {α β γ : Type} (o : Option (α × β)) (k : α → β → Option γ) : Option γ := match o with
  | none => none
  | some a => k a.1 a.2
theorem bo_e {α β : Type} {o : Option α} {k : α → Option β} {r : β} (h : bo o k = some r) : ∃ a, o = some a ∧ k a = some r := by
  cases o with
  | none => cases h
  | some a => exact ⟨a, rfl, h⟩
theorem bo2_e {α β γ : Type} {o : Option (α × β)} {k : α → β → Option γ} {r : γ} (h : bo2 o k = some r) : ∃ a b, o = some (a, b) ∧ k a b = some r := by
  cases o with
  | none => cases h
  | some a => exact ⟨a.1, a.2, rfl, h⟩
theorem ck_e {c : Prop} [Decidable c] {α : Type} {o : Option α} {r : α} (h : (if c then none else o) = some r) : ¬ c ∧ o = some r := by
  by_cases hc : c
  · rw [if_pos hc] at h; cases h
  · rw [if_neg hc] at h; exact ⟨hc, h⟩
noncomputable def lp {T : Type} (z : T) (b : T → T) : Nat → T := fun n => Nat.rec z (fun _ ih => b ih) n
theorem lp_ind {T : Type} {z : T} {b : T → T} (P : T → Prop) (h0 : P z) (hs : ∀ rc, P rc → P (b rc)) (n : Nat) : P (lp z b n) := by
  induction n with
  | zero => exact h0
  | succ n ih => exact hs _ ih
def kRem (a b : Int32) : Int32 := a - a / b * b
def kUshr (x y : Int32) : Int32 := (x.toUInt32 >>> (y.toUInt32 &&& Int32.toUInt32 31)).toInt32
def kI2b (x : Int32) : Int32 := x.toInt8.toInt32
def kI2c (x : Int32) : Int32 := (x.toUInt32 % 65536).toInt32
def zD : kD := (fun _ _ => 0, fun _ _ => 0)
def kSI (M : kD) (a : Nat) (f : Nat → Int32) : kD := (fun b => if b = a then f else M.1 b, M.2)
def kSL (M : kD) (a : Nat) (f : Nat → Int64) : kD := (M.1, fun b => if b = a then f else M.2 b)
def kRemL (a b : Int64) : Int64 := a - a / b * b
def kUshrL (x : Int64) (y : Int32) : Int64 := (x.toUInt64 >>> (y.toInt64.toUInt64 &&& Int64.toUInt64 63)).toInt64
def kMin (x y : Int32) : Int32 := if y < x then y else x
def kMax (x y : Int32) : Int32 := if x < y then y else x
def bo3 {α β γ δ : Type} (o : Option (α × β × γ)) (k : α → β → γ → Option δ) : Option δ := match o with
  | none => none
  | some a => k a.1 a.2.1 a.2.2
theorem bo3_e {α β γ δ : Type} {o : Option (α × β × γ)} {k : α → β → γ → Option δ} {r : δ} (h : bo3 o k = some r) : ∃ a b c, o = some (a, b, c) ∧ k a b c = some r := by
  cases o with
  | none => cases h
  | some a => exact ⟨a.1, a.2.1, a.2.2, rfl, h⟩
def upF (F : Nat → kD) (j : Nat) (d : kD) : Nat → kD := fun i => if i = j then d else F i
def bo4 {t0 t1 t2 t3 δ : Type} (o : Option (t0 × t1 × t2 × t3)) (k : t0 → t1 → t2 → t3 → Option δ) : Option δ := match o with
  | none => none
  | some a => k a.1 a.2.1 a.2.2.1 a.2.2.2
theorem bo4_e {t0 t1 t2 t3 δ : Type} {o : Option (t0 × t1 × t2 × t3)} {k : t0 → t1 → t2 → t3 → Option δ} {r : δ} (h : bo4 o k = some r) : ∃ a0 a1 a2 a3, o = some (a0, a1, a2, a3) ∧ k a0 a1 a2 a3 = some r := by
  cases o with
  | none => cases h
  | some a => exact ⟨a.1, a.2.1, a.2.2.1, a.2.2.2, rfl, h⟩
def bo5 {t0 t1 t2 t3 t4 δ : Type} (o : Option (t0 × t1 × t2 × t3 × t4)) (k : t0 → t1 → t2 → t3 → t4 → Option δ) : Option δ := match o with
  | none => none
  | some a => k a.1 a.2.1 a.2.2.1 a.2.2.2.1 a.2.2.2.2
theorem bo5_e {t0 t1 t2 t3 t4 δ : Type} {o : Option (t0 × t1 × t2 × t3 × t4)} {k : t0 → t1 → t2 → t3 → t4 → Option δ} {r : δ} (h : bo5 o k = some r) : ∃ a0 a1 a2 a3 a4, o = some (a0, a1, a2, a3, a4) ∧ k a0 a1 a2 a3 a4 = some r := by
  cases o with
  | none => cases h
  | some a => exact ⟨a.1, a.2.1, a.2.2.1, a.2.2.2.1, a.2.2.2.2, rfl, h⟩
def bo6 {t0 t1 t2 t3 t4 t5 δ : Type} (o : Option (t0 × t1 × t2 × t3 × t4 × t5)) (k : t0 → t1 → t2 → t3 → t4 → t5 → Option δ) : Option δ := match o with
  | none => none
  | some a => k a.1 a.2.1 a.2.2.1 a.2.2.2.1 a.2.2.2.2.1 a.2.2.2.2.2
theorem bo6_e {t0 t1 t2 t3 t4 t5 δ : Type} {o : Option (t0 × t1 × t2 × t3 × t4 × t5)} {k : t0 → t1 → t2 → t3 → t4 → t5 → Option δ} {r : δ} (h : bo6 o k = some r) : ∃ a0 a1 a2 a3 a4 a5, o = some (a0, a1, a2, a3, a4, a5) ∧ k a0 a1 a2 a3 a4 a5 = some r := by
  cases o with
  | none => cases h
  | some a => exact ⟨a.1, a.2.1, a.2.2.1, a.2.2.2.1, a.2.2.2.2.1, a.2.2.2.2.2, rfl, h⟩
def bo7 {t0 t1 t2 t3 t4 t5 t6 δ : Type} (o : Option (t0 × t1 × t2 × t3 × t4 × t5 × t6)) (k : t0 → t1 → t2 → t3 → t4 → t5 → t6 → Option δ) : Option δ := match o with
  | none => none
  | some a => k a.1 a.2.1 a.2.2.1 a.2.2.2.1 a.2.2.2.2.1 a.2.2.2.2.2.1 a.2.2.2.2.2.2
theorem bo7_e {t0 t1 t2 t3 t4 t5 t6 δ : Type} {o : Option (t0 × t1 × t2 × t3 × t4 × t5 × t6)} {k : t0 → t1 → t2 → t3 → t4 → t5 → t6 → Option δ} {r : δ} (h : bo7 o k = some r) : ∃ a0 a1 a2 a3 a4 a5 a6, o = some (a0, a1, a2, a3, a4, a5, a6) ∧ k a0 a1 a2 a3 a4 a5 a6 = some r := by
  cases o with
  | none => cases h
  | some a => exact ⟨a.1, a.2.1, a.2.2.1, a.2.2.2.1, a.2.2.2.2.1, a.2.2.2.2.2.1, a.2.2.2.2.2.2, rfl, h⟩
def bo8 {t0 t1 t2 t3 t4 t5 t6 t7 δ : Type} (o : Option (t0 × t1 × t2 × t3 × t4 × t5 × t6 × t7)) (k : t0 → t1 → t2 → t3 → t4 → t5 → t6 → t7 → Option δ) : Option δ := match o with
  | none => none
  | some a => k a.1 a.2.1 a.2.2.1 a.2.2.2.1 a.2.2.2.2.1 a.2.2.2.2.2.1 a.2.2.2.2.2.2.1 a.2.2.2.2.2.2.2
theorem bo8_e {t0 t1 t2 t3 t4 t5 t6 t7 δ : Type} {o : Option (t0 × t1 × t2 × t3 × t4 × t5 × t6 × t7)} {k : t0 → t1 → t2 → t3 → t4 → t5 → t6 → t7 → Option δ} {r : δ} (h : bo8 o k = some r) : ∃ a0 a1 a2 a3 a4 a5 a6 a7, o = some (a0, a1, a2, a3, a4, a5, a6, a7) ∧ k a0 a1 a2 a3 a4 a5 a6 a7 = some r := by
  cases o with
  | none => cases h
  | some a => exact ⟨a.1, a.2.1, a.2.2.1, a.2.2.2.1, a.2.2.2.2.1, a.2.2.2.2.2.1, a.2.2.2.2.2.2.1, a.2.2.2.2.2.2.2, rfl, h⟩
def bo9 {t0 t1 t2 t3 t4 t5 t6 t7 t8 δ : Type} (o : Option (t0 × t1 × t2 × t3 × t4 × t5 × t6 × t7 × t8)) (k : t0 → t1 → t2 → t3 → t4 → t5 → t6 → t7 → t8 → Option δ) : Option δ := match o with
  | none => none
  | some a => k a.1 a.2.1 a.2.2.1 a.2.2.2.1 a.2.2.2.2.1 a.2.2.2.2.2.1 a.2.2.2.2.2.2.1 a.2.2.2.2.2.2.2.1 a.2.2.2.2.2.2.2.2
theorem bo9_e {t0 t1 t2 t3 t4 t5 t6 t7 t8 δ : Type} {o : Option (t0 × t1 × t2 × t3 × t4 × t5 × t6 × t7 × t8)} {k : t0 → t1 → t2 → t3 → t4 → t5 → t6 → t7 → t8 → Option δ} {r : δ} (h : bo9 o k = some r) : ∃ a0 a1 a2 a3 a4 a5 a6 a7 a8, o = some (a0, a1, a2, a3, a4, a5, a6, a7, a8) ∧ k a0 a1 a2 a3 a4 a5 a6 a7 a8 = some r := by
  cases o with
  | none => cases h
  | some a => exact ⟨a.1, a.2.1, a.2.2.1, a.2.2.2.1, a.2.2.2.2.1, a.2.2.2.2.2.1, a.2.2.2.2.2.2.1, a.2.2.2.2.2.2.2.1, a.2.2.2.2.2.2.2.2, rfl, h⟩
def bo10 {t0 t1 t2 t3 t4 t5 t6 t7 t8 t9 δ : Type} (o : Option (t0 × t1 × t2 × t3 × t4 × t5 × t6 × t7 × t8 × t9)) (k : t0 → t1 → t2 → t3 → t4 → t5 → t6 → t7 → t8 → t9 → Option δ) : Option δ := match o with
  | none => none
  | some a => k a.1 a.2.1 a.2.2.1 a.2.2.2.1 a.2.2.2.2.1 a.2.2.2.2.2.1 a.2.2.2.2.2.2.1 a.2.2.2.2.2.2.2.1 a.2.2.2.2.2.2.2.2.1 a.2.2.2.2.2.2.2.2.2
theorem bo10_e {t0 t1 t2 t3 t4 t5 t6 t7 t8 t9 δ : Type} {o : Option (t0 × t1 × t2 × t3 × t4 × t5 × t6 × t7 × t8 × t9)} {k : t0 → t1 → t2 → t3 → t4 → t5 → t6 → t7 → t8 → t9 → Option δ} {r : δ} (h : bo10 o k = some r) : ∃ a0 a1 a2 a3 a4 a5 a6 a7 a8 a9, o = some (a0, a1, a2, a3, a4, a5, a6, a7, a8, a9) ∧ k a0 a1 a2 a3 a4 a5 a6 a7 a8 a9 = some r := by
  cases o with
  | none => cases h
  | some a => exact ⟨a.1, a.2.1, a.2.2.1, a.2.2.2.1, a.2.2.2.2.1, a.2.2.2.2.2.1, a.2.2.2.2.2.2.1, a.2.2.2.2.2.2.2.1, a.2.2.2.2.2.2.2.2.1, a.2.2.2.2.2.2.2.2.2, rfl, h⟩
def bo11 {t0 t1 t2 t3 t4 t5 t6 t7 t8 t9 t10 δ : Type} (o : Option (t0 × t1 × t2 × t3 × t4 × t5 × t6 × t7 × t8 × t9 × t10)) (k : t0 → t1 → t2 → t3 → t4 → t5 → t6 → t7 → t8 → t9 → t10 → Option δ) : Option δ := match o with
  | none => none
  | some a => k a.1 a.2.1 a.2.2.1 a.2.2.2.1 a.2.2.2.2.1 a.2.2.2.2.2.1 a.2.2.2.2.2.2.1 a.2.2.2.2.2.2.2.1 a.2.2.2.2.2.2.2.2.1 a.2.2.2.2.2.2.2.2.2.1 a.2.2.2.2.2.2.2.2.2.2
theorem bo11_e {t0 t1 t2 t3 t4 t5 t6 t7 t8 t9 t10 δ : Type} {o : Option (t0 × t1 × t2 × t3 × t4 × t5 × t6 × t7 × t8 × t9 × t10)} {k : t0 → t1 → t2 → t3 → t4 → t5 → t6 → t7 → t8 → t9 → t10 → Option δ} {r : δ} (h : bo11 o k = some r) : ∃ a0 a1 a2 a3 a4 a5 a6 a7 a8 a9 a10, o = some (a0, a1, a2, a3, a4, a5, a6, a7, a8, a9, a10) ∧ k a0 a1 a2 a3 a4 a5 a6 a7 a8 a9 a10 = some r := by
  cases o with
  | none => cases h
  | some a => exact ⟨a.1, a.2.1, a.2.2.1, a.2.2.2.1, a.2.2.2.2.1, a.2.2.2.2.2.1, a.2.2.2.2.2.2.1, a.2.2.2.2.2.2.2.1, a.2.2.2.2.2.2.2.2.1, a.2.2.2.2.2.2.2.2.2.1, a.2.2.2.2.2.2.2.2.2.2, rfl, h⟩
def bo12 {t0 t1 t2 t3 t4 t5 t6 t7 t8 t9 t10 t11 δ : Type} (o : Option (t0 × t1 × t2 × t3 × t4 × t5 × t6 × t7 × t8 × t9 × t10 × t11)) (k : t0 → t1 → t2 → t3 → t4 → t5 → t6 → t7 → t8 → t9 → t10 → t11 → Option δ) : Option δ := match o with
  | none => none
  | some a => k a.1 a.2.1 a.2.2.1 a.2.2.2.1 a.2.2.2.2.1 a.2.2.2.2.2.1 a.2.2.2.2.2.2.1 a.2.2.2.2.2.2.2.1 a.2.2.2.2.2.2.2.2.1 a.2.2.2.2.2.2.2.2.2.1 a.2.2.2.2.2.2.2.2.2.2.1 a.2.2.2.2.2.2.2.2.2.2.2
theorem bo12_e {t0 t1 t2 t3 t4 t5 t6 t7 t8 t9 t10 t11 δ : Type} {o : Option (t0 × t1 × t2 × t3 × t4 × t5 × t6 × t7 × t8 × t9 × t10 × t11)} {k : t0 → t1 → t2 → t3 → t4 → t5 → t6 → t7 → t8 → t9 → t10 → t11 → Option δ} {r : δ} (h : bo12 o k = some r) : ∃ a0 a1 a2 a3 a4 a5 a6 a7 a8 a9 a10 a11, o = some (a0, a1, a2, a3, a4, a5, a6, a7, a8, a9, a10, a11) ∧ k a0 a1 a2 a3 a4 a5 a6 a7 a8 a9 a10 a11 = some r := by
  cases o with
  | none => cases h
  | some a => exact ⟨a.1, a.2.1, a.2.2.1, a.2.2.2.1, a.2.2.2.2.1, a.2.2.2.2.2.1, a.2.2.2.2.2.2.1, a.2.2.2.2.2.2.2.1, a.2.2.2.2.2.2.2.2.1, a.2.2.2.2.2.2.2.2.2.1, a.2.2.2.2.2.2.2.2.2.2.1, a.2.2.2.2.2.2.2.2.2.2.2, rfl, h⟩
def bo13 {t0 t1 t2 t3 t4 t5 t6 t7 t8 t9 t10 t11 t12 δ : Type} (o : Option (t0 × t1 × t2 × t3 × t4 × t5 × t6 × t7 × t8 × t9 × t10 × t11 × t12)) (k : t0 → t1 → t2 → t3 → t4 → t5 → t6 → t7 → t8 → t9 → t10 → t11 → t12 → Option δ) : Option δ := match o with
  | none => none
  | some a => k a.1 a.2.1 a.2.2.1 a.2.2.2.1 a.2.2.2.2.1 a.2.2.2.2.2.1 a.2.2.2.2.2.2.1 a.2.2.2.2.2.2.2.1 a.2.2.2.2.2.2.2.2.1 a.2.2.2.2.2.2.2.2.2.1 a.2.2.2.2.2.2.2.2.2.2.1 a.2.2.2.2.2.2.2.2.2.2.2.1 a.2.2.2.2.2.2.2.2.2.2.2.2
theorem bo13_e {t0 t1 t2 t3 t4 t5 t6 t7 t8 t9 t10 t11 t12 δ : Type} {o : Option (t0 × t1 × t2 × t3 × t4 × t5 × t6 × t7 × t8 × t9 × t10 × t11 × t12)} {k : t0 → t1 → t2 → t3 → t4 → t5 → t6 → t7 → t8 → t9 → t10 → t11 → t12 → Option δ} {r : δ} (h : bo13 o k = some r) : ∃ a0 a1 a2 a3 a4 a5 a6 a7 a8 a9 a10 a11 a12, o = some (a0, a1, a2, a3, a4, a5, a6, a7, a8, a9, a10, a11, a12) ∧ k a0 a1 a2 a3 a4 a5 a6 a7 a8 a9 a10 a11 a12 = some r := by
  cases o with
  | none => cases h
  | some a => exact ⟨a.1, a.2.1, a.2.2.1, a.2.2.2.1, a.2.2.2.2.1, a.2.2.2.2.2.1, a.2.2.2.2.2.2.1, a.2.2.2.2.2.2.2.1, a.2.2.2.2.2.2.2.2.1, a.2.2.2.2.2.2.2.2.2.1, a.2.2.2.2.2.2.2.2.2.2.1, a.2.2.2.2.2.2.2.2.2.2.2.1, a.2.2.2.2.2.2.2.2.2.2.2.2, rfl, h⟩
def wNm : List String := ["OTHER", "MACHINE", "PHRASE", "KNOWS", "ANSWERS", "WRITES", "SITS", "LEAVES", "RIBBON", "CLEAR", "DAY", "OR", "AND", "NOT", "HELD", "LATEST", "MUTE", "ABLE", "OWES", "INK", "WROTE", "NUMBER"]
def wBeg : List Int32 := [0, 0, 0, 0, 0, 0, 0, 0, 0, 0, 0, 0, 0, 1, 1, 1, 1, 1, 1, 1, 1, 1]
def kBeg (v : Int32) : Int32 := wBeg.getD v.toNatClampNeg 0
def wByt : List (List Int32) := [[], [109, 97, 99, 104, 105, 110, 101], [112, 104, 114, 97, 115, 101], [107, 110, 111, 119, 115], [97, 110, 115, 119, 101, 114, 115], [119, 114, 105, 116, 101, 115], [115, 105, 116, 115], [108, 101, 97, 118, 101, 115], [114, 105, 98, 98, 111, 110], [99, 108, 101, 97, 114], [100, 97, 121], [111, 114], [97, 110, 100], [110, 111, 116], [104, 101, 108, 100], [108, 97, 116, 101, 115, 116], [109, 117, 116, 101], [97, 98, 108, 101], [111, 119, 101, 115], [105, 110, 107], [119, 114, 111, 116, 101], [110, 117, 109, 98, 101, 114]]
def wLn (i : Nat) : Nat := (wByt.getD i []).length
def wCh (i j : Nat) : Int32 := (wByt.getD i []).getD j 0
noncomputable def f_X12_thrown  (M : kD) : Int32 :=
  (M.1 0 0)
noncomputable def f_X12_throwsIf (a0 : Int32) (M : kD) : Option (Int32 × kD) :=
  if a0 = 0 then
  bd1 (kI M 0 0 (0 : Int32)) fun M1 =>
  if ¬ (a0 = 0 ∨ a0 = 1) then none else
  some (a0, M1)
  else
  bd1 (kI M 0 0 (1 : Int32)) fun M3 =>
  if ¬ (a0 = 0 ∨ a0 = 1) then none else
  some (a0, M3)
noncomputable def g_X12_four_3 (rc_3 : Int32 → Int32 → kD → Option kD) (x1_3 : Int32) (x2_3 : Int32) (M_3 : kD) : Option kD :=
  if x2_3 < 0 then
  some M_3
  else
  if (M_3.1 0 2) < 0 ∨ 940 ≤ (M_3.1 0 2).toNatClampNeg then none else
  bd1 (kI M_3 1 (M_3.1 0 2).toNatClampNeg (vp_nar .byte (kI2b (x1_3 >>> (x2_3 &&& 31))))) fun M2 =>
  bd1 (kI M2 0 2 ((M2.1 0 2) + (1 : Int32))) fun M3 =>
  bd1 (x2_3 + (-8 : Int32)) fun v4 =>
  rc_3 x1_3 v4 M3
noncomputable def f_X12_four (a0 : Int32) (M : kD) : Option kD :=
  lp (fun _ _ _ => none) (g_X12_four_3) 2000 a0 (24 : Int32) M
noncomputable def f_X12_feed (a0 : Int32) (a1 : Int32) (a2 : Int32) (a3 : Int32) (a4 : Int32) (M : kD) : Option (Int32 × kD) :=
  bd1 (kI M 0 0 (0 : Int32)) fun M1 =>
  if ((M1.1 0 2) + (20 : Int32)) ≤ (940 : Int32) then
  bo (f_X12_four a0 M1) fun M2 =>
  bo (f_X12_four a1 M2) fun M4 =>
  bo (f_X12_four a2 M4) fun M6 =>
  bo (f_X12_four a3 M6) fun M8 =>
  bo (f_X12_four a4 M8) fun M10 =>
  some ((M10.1 0 2), M10)
  else
  some ((-1 : Int32), M1)
noncomputable def f_X12_end (a0 : Int32) (M : kD) : Option (Int32 × kD) :=
  bd1 (kI M 0 0 (0 : Int32)) fun M1 =>
  if a0 < 0 then
  some ((0 : Int32), M1)
  else
  if a0 ≤ (M1.1 0 2) then
  bd1 (kI M1 0 2 a0) fun M2 =>
  some ((1 : Int32), M2)
  else
  some ((0 : Int32), M1)
noncomputable def f_X12_taken (a0 : Int32) (M : kD) : Option kD :=
  bd1 (kI M 0 3 (M.1 0 2)) fun M1 =>
  bd1 (kI M1 0 2 (0 : Int32)) fun M2 =>
  bd1 (kI M2 0 4 (0 : Int32)) fun M3 =>
  bd1 (kI M3 0 5 a0) fun M4 =>
  some M4
noncomputable def f_X12_isIn (a0 : Int32) (a1 : Int32) (a2 : Int32) : Int32 :=
  if a0 < a1 then
  (0 : Int32)
  else
  if a2 < a0 then
  (0 : Int32)
  else
  (1 : Int32)
noncomputable def f_X12_bitOf (a0 : Int32) (a1 : Int32) : Int32 :=
  if ((a0 >>> (a1 &&& 31)) &&& (1 : Int32)) = (1 : Int32) then
  (1 : Int32)
  else
  (0 : Int32)
noncomputable def f_X12_lesser (a0 : Int32) (a1 : Int32) : Int32 :=
  if a1 ≤ a0 then
  a1
  else
  a0
noncomputable def f_X12_greater (a0 : Int32) (a1 : Int32) : Int32 :=
  if a0 ≤ a1 then
  a1
  else
  a0
noncomputable def f_X12_octet (a0 : Int32) (M : kD) : Option Int32 :=
  if a0 < 0 ∨ 940 ≤ a0.toNatClampNeg then none else
  some ((M.1 1 a0.toNatClampNeg) &&& (255 : Int32))
noncomputable def g_X12_clears_2 (rc_2 : Int32 → kD → Option kD) (x1_2 : Int32) (M_2 : kD) : Option kD :=
  if (39 : Int32) ≤ x1_2 then
  some M_2
  else
  if x1_2 < 0 ∨ 39 ≤ x1_2.toNatClampNeg then none else
  bd1 (kI M_2 7 x1_2.toNatClampNeg (0 : Int32)) fun M2 =>
  bd1 (x1_2 + (1 : Int32)) fun v3 =>
  rc_2 v3 M2
noncomputable def f_X12_clears  (M : kD) : Option kD :=
  lp (fun _ _ => none) (g_X12_clears_2) 2000 (0 : Int32) M
noncomputable def f_X12_peek  (M : kD) : Option Int32 :=
  if (M.1 0 3) ≤ (M.1 0 4) then
  some (-1 : Int32)
  else
  bd1 (M.1 0 4) fun v1 =>
  if v1 < 0 ∨ 940 ≤ v1.toNatClampNeg then none else
  some ((M.1 1 v1.toNatClampNeg) &&& (255 : Int32))
noncomputable def f_X12_isSmall (a0 : Int32) : Int32 :=
  if a0 < (97 : Int32) then
  (0 : Int32)
  else
  if (122 : Int32) < a0 then
  (0 : Int32)
  else
  (1 : Int32)
noncomputable def f_X12_isDigit (a0 : Int32) : Int32 :=
  if a0 < (48 : Int32) then
  (0 : Int32)
  else
  if (57 : Int32) < a0 then
  (0 : Int32)
  else
  (1 : Int32)
noncomputable def g_X12_next_317 (x2_317 : Int32) (t1_317 : Int32) (t2_317 : Int32) (M_317 : kD) : Option kD :=
  if t1_317 ≤ t2_317 then
  if x2_317 = 0 then
  bd1 (kI M_317 0 11 (2 : Int32)) fun M1 =>
  some M1
  else
  bd1 (kI M_317 0 11 (1 : Int32)) fun M2 =>
  some M2
  else
  bd1 (kI M_317 0 11 (4 : Int32)) fun M4 =>
  some M4
noncomputable def g_X12_next_298 (x2_298 : Int32) (x3_298 : Int32) (M_298 : kD) : Option kD :=
  if x3_298 = 0 then
  bd1 (kI M_298 0 11 (4 : Int32)) fun M6 =>
  some M6
  else
  if x2_298 = 0 then
  g_X12_next_317 x2_298 (M_298.1 0 13) (3 : Int32) M_298
  else
  g_X12_next_317 x2_298 (M_298.1 0 13) (7 : Int32) M_298
noncomputable def g_X12_next_275 (rc_181 : Int32 → Int32 → kD → Option kD) (x2_275 : Int32) (x3_275 : Int32) (M_275 : kD) : Option kD :=
  bd1 (kI M_275 0 13 ((M_275.1 0 13) + (1 : Int32))) fun M9 =>
  bd1 (kI M9 0 4 ((M9.1 0 4) + (1 : Int32))) fun M10 =>
  rc_181 x2_275 x3_275 M10
noncomputable def g_X12_next_248 (rc_181 : Int32 → Int32 → kD → Option kD) (x2_248 : Int32) (x3_248 : Int32) (M_248 : kD) : Option kD :=
  if (3 : Int32) ≤ (M_248.1 0 13) then
  g_X12_next_275 rc_181 x2_248 x3_248 M_248
  else
  bo (f_X12_peek M_248) fun v11 =>
  bd1 (kI M_248 0 14 ((((10 : Int32) * (M_248.1 0 14)) + v11) - (48 : Int32))) fun M13 =>
  g_X12_next_275 rc_181 x2_248 x3_248 M13
noncomputable def g_X12_next_221 (rc_181 : Int32 → Int32 → kD → Option kD) (x2_221 : Int32) (t0_221 : Int32) (M_221 : kD) : Option kD :=
  if (7 : Int32) ≤ (M_221.1 0 13) then
  g_X12_next_248 rc_181 x2_221 t0_221 M_221
  else
  bo (f_X12_peek M_221) fun v15 =>
  bd1 (kL M_221 0 17 (((M_221.2 0 17) <<< ((8 : Int32).toInt64 &&& 63)) ||| v15.toInt64)) fun M17 =>
  g_X12_next_248 rc_181 x2_221 t0_221 M17
noncomputable def g_X12_next_220 (rc_181 : Int32 → Int32 → kD → Option kD) (x2_220 : Int32) (M_220 : kD) : Option kD :=
  g_X12_next_221 rc_181 x2_220 (0 : Int32) M_220
noncomputable def g_X12_next_201 (rc_181 : Int32 → Int32 → kD → Option kD) (x2_201 : Int32) (x3_201 : Int32) (M_201 : kD) : Option kD :=
  if x3_201 = 0 then
  g_X12_next_220 rc_181 x2_201 M_201
  else
  bo (f_X12_peek M_201) fun v19 =>
  if (f_X12_isSmall v19) = x2_201 then
  g_X12_next_221 rc_181 x2_201 (1 : Int32) M_201
  else
  g_X12_next_220 rc_181 x2_201 M_201
noncomputable def g_X12_next_181 (rc_181 : Int32 → Int32 → kD → Option kD) (x2_181 : Int32) (x3_181 : Int32) (M_181 : kD) : Option kD :=
  bo (f_X12_peek M_181) fun v23 =>
  if (f_X12_isSmall v23) = 0 then
  bo (f_X12_peek M_181) fun v25 =>
  if (f_X12_isDigit v25) = 0 then
  g_X12_next_298 x2_181 x3_181 M_181
  else
  g_X12_next_201 rc_181 x2_181 x3_181 M_181
  else
  g_X12_next_201 rc_181 x2_181 x3_181 M_181
noncomputable def g_X12_next_164 (x1_164 : Int32) (M_164 : kD) : Option kD :=
  bd1 (f_X12_isSmall x1_164) fun v29 =>
  bd1 (kL M_164 0 17 (0 : Int64)) fun M30 =>
  bd1 (kI M30 0 14 (0 : Int32)) fun M31 =>
  lp (fun _ _ _ => none) (g_X12_next_181) 2000 v29 (1 : Int32) M31
noncomputable def g_X12_next_145 (x1_145 : Int32) (t1_145 : Int32) (M_145 : kD) : Option kD :=
  bd1 (kI M_145 0 11 t1_145) fun M32 =>
  bd1 (kI M32 0 14 x1_145) fun M33 =>
  bd1 (kI M33 0 4 ((M33.1 0 4) + (1 : Int32))) fun M34 =>
  some M34
noncomputable def g_X12_next_140 (x1_140 : Int32) (M_140 : kD) : Option kD :=
  g_X12_next_145 x1_140 (3 : Int32) M_140
noncomputable def g_X12_next_144 (x1_144 : Int32) (M_144 : kD) : Option kD :=
  g_X12_next_145 x1_144 (4 : Int32) M_144
noncomputable def g_X12_next_80 (M_80 : kD) : Option kD :=
  bo (f_X12_peek M_80) fun v35 =>
  if 0 ≤ v35 then
  if (f_X12_isSmall v35) = 0 then
  if (f_X12_isDigit v35) = 0 then
  if v35 = (59 : Int32) then
  g_X12_next_140 v35 M_80
  else
  if v35 = (40 : Int32) then
  g_X12_next_140 v35 M_80
  else
  if v35 = (41 : Int32) then
  g_X12_next_140 v35 M_80
  else
  if v35 < (60 : Int32) then
  g_X12_next_144 v35 M_80
  else
  if (62 : Int32) < v35 then
  g_X12_next_144 v35 M_80
  else
  g_X12_next_140 v35 M_80
  else
  g_X12_next_164 v35 M_80
  else
  g_X12_next_164 v35 M_80
  else
  bd1 (kI M_80 0 11 (0 : Int32)) fun M44 =>
  some M44
noncomputable def g_X12_next_31 (M_31 : kD) : Option kD :=
  bd1 (kI M_31 0 12 (M_31.1 0 4)) fun M46 =>
  bd1 (kI M46 0 13 (0 : Int32)) fun M47 =>
  if (M47.1 0 3) ≤ (M47.1 0 5) then
  g_X12_next_80  M47
  else
  if (M47.1 0 4) < (M47.1 0 5) then
  g_X12_next_80  M47
  else
  bd1 (kI M47 0 12 (M47.1 0 5)) fun M48 =>
  bd1 (kI M48 0 11 (4 : Int32)) fun M49 =>
  some M49
noncomputable def g_X12_next_18 (rc_0 : kD → Option kD) (M_18 : kD) : Option kD :=
  bd1 (kI M_18 0 4 ((M_18.1 0 4) + (1 : Int32))) fun M52 =>
  rc_0  M52
noncomputable def g_X12_next_0 (rc_0 : kD → Option kD) (M_0 : kD) : Option kD :=
  bo (f_X12_peek M_0) fun v53 =>
  if v53 = (32 : Int32) then
  g_X12_next_18 rc_0  M_0
  else
  bo (f_X12_peek M_0) fun v55 =>
  if v55 = (10 : Int32) then
  g_X12_next_18 rc_0  M_0
  else
  g_X12_next_31  M_0
noncomputable def f_X12_next  (M : kD) : Option kD :=
  lp (fun _ => none) (g_X12_next_0) 2000  M
noncomputable def f_X12_bad (a0 : Int32) (M : kD) : Option (Int32 × kD) :=
  bd1 (kI M 0 15 a0) fun M1 =>
  bd1 (kI M1 0 16 (M1.1 0 12)) fun M2 =>
  some ((0 : Int32), M2)
noncomputable def f_X12_isWord (a0 : Int64) (M : kD) : Int32 :=
  if (M.1 0 11) = (1 : Int32) then
  if (lg_cmp (M.2 0 17) a0) = 0 then
  (1 : Int32)
  else
  (0 : Int32)
  else
  (0 : Int32)
noncomputable def f_X12_isSign (a0 : Int32) (M : kD) : Int32 :=
  if (M.1 0 11) = (3 : Int32) then
  if (M.1 0 14) = a0 then
  (1 : Int32)
  else
  (0 : Int32)
  else
  (0 : Int32)
noncomputable def f_X12_sign (a0 : Int32) (M : kD) : Option (Int32 × kD) :=
  if (f_X12_isSign a0 M) = 0 then
  bo2 (f_X12_bad (1 : Int32) M) fun v4 M3 =>
  if ¬ (v4 = 0 ∨ v4 = 1) then none else
  some (v4, M3)
  else
  bo (f_X12_next M) fun M1 =>
  some ((1 : Int32), M1)
noncomputable def g_X12_isName_45 (rc_16 : Int32 → Int32 → Option Int32) (M : kD) (x2_45 : Int32) (t0_45 : Int32) : Option Int32 :=
  bd1 (x2_45 + (1 : Int32)) fun v1 =>
  rc_16 t0_45 v1
noncomputable def g_X12_isName_44 (rc_16 : Int32 → Int32 → Option Int32) (M : kD) (x2_44 : Int32) : Option Int32 :=
  g_X12_isName_45 rc_16 M x2_44 (0 : Int32)
noncomputable def g_X12_isName_16 (M : kD) (rc_16 : Int32 → Int32 → Option Int32) (x1_16 : Int32) (x2_16 : Int32) : Option Int32 :=
  if (21 : Int32) ≤ x2_16 then
  if ¬ (x1_16 = 0 ∨ x1_16 = 1) then none else
  some x1_16
  else
  if x1_16 = 0 then
  g_X12_isName_44 rc_16 M x2_16
  else
  if x2_16 < 0 ∨ 21 ≤ x2_16.toNatClampNeg then none else
  if (lg_cmp (M.2 0 17) (M.2 10 x2_16.toNatClampNeg)) = 0 then
  g_X12_isName_44 rc_16 M x2_16
  else
  g_X12_isName_45 rc_16 M x2_16 (1 : Int32)
noncomputable def g_X12_isName_13 (M : kD) (t0_13 : Int32) : Option Int32 :=
  lp (fun _ _ => none) (g_X12_isName_16 M) 2000 t0_13 (0 : Int32)
noncomputable def f_X12_isName  (M : kD) : Option Int32 :=
  if (M.1 0 11) = (1 : Int32) then
  g_X12_isName_13 M (1 : Int32)
  else
  g_X12_isName_13 M (0 : Int32)
noncomputable def f_X12_takes (a0 : Int32) (a1 : Int32) (M : kD) : Option (Int32 × kD) :=
  if (M.1 0 11) = (2 : Int32) then
  if (f_X12_isIn (M.1 0 14) a0 a1) = 0 then
  bo2 (f_X12_bad (2 : Int32) M) fun v5 M4 =>
  if ¬ (v5 = 0 ∨ v5 = 1) then none else
  some (v5, M4)
  else
  bd1 (kI M 0 18 (M.1 0 14)) fun M1 =>
  bo (f_X12_next M1) fun M2 =>
  some ((1 : Int32), M2)
  else
  bo2 (f_X12_bad (1 : Int32) M) fun v10 M9 =>
  if ¬ (v10 = 0 ∨ v10 = 1) then none else
  some (v10, M9)
noncomputable def f_X12_puts (a0 : Int32) (a1 : Int32) (a2 : Int32) (M : kD) : Option (Int32 × kD) :=
  bo2 (f_X12_takes a1 a2 M) fun v2 M1 =>
  if v2 = 0 then
  some ((0 : Int32), M1)
  else
  if a0 < 0 ∨ 39 ≤ a0.toNatClampNeg then none else
  bd1 (kI M1 7 a0.toNatClampNeg (M1.1 0 18)) fun M5 =>
  some ((1 : Int32), M5)
noncomputable def g_X12_seek_2 (M : kD) (rc_2 : Int32 → Int32 → Int32 → Option Int32) (x1_2 : Int32) (x2_2 : Int32) (x3_2 : Int32) : Option Int32 :=
  if x2_2 ≤ x3_2 then
  some (-1 : Int32)
  else
  bd1 (x1_2 + x3_2) fun v1 =>
  if v1 < 0 ∨ 28 ≤ v1.toNatClampNeg then none else
  if (lg_cmp (M.2 9 v1.toNatClampNeg) (M.2 0 17)) = 0 then
  some x3_2
  else
  bd1 (x3_2 + (1 : Int32)) fun v3 =>
  rc_2 x1_2 x2_2 v3
noncomputable def f_X12_seek (a0 : Int32) (a1 : Int32) (M : kD) : Option Int32 :=
  lp (fun _ _ _ => none) (g_X12_seek_2 M) 2000 a0 a1 (0 : Int32)
noncomputable def g_X12_fresh_43 (M_43 : kD) : Option (Int32 × kD) :=
  bo2 (f_X12_bad (3 : Int32) M_43) fun v2 M1 =>
  if ¬ (v2 = 0 ∨ v2 = 1) then none else
  some (v2, M1)
noncomputable def f_X12_fresh (a0 : Int32) (M : kD) : Option (Int32 × kD) :=
  bo (f_X12_isName M) fun v5 =>
  if v5 = 0 then
  bo2 (f_X12_bad (1 : Int32) M) fun v18 M17 =>
  if ¬ (v18 = 0 ∨ v18 = 1) then none else
  some (v18, M17)
  else
  bo (f_X12_seek (14 : Int32) (M.1 7 (0 : Int32).toNatClampNeg) M) fun v7 =>
  if 0 ≤ v7 then
  g_X12_fresh_43  M
  else
  bo (f_X12_seek (20 : Int32) (M.1 7 (1 : Int32).toNatClampNeg) M) fun v9 =>
  if v9 < 0 then
  if a0 < 0 ∨ 28 ≤ a0.toNatClampNeg then none else
  bd1 (kL M 9 a0.toNatClampNeg (M.2 0 17)) fun M12 =>
  bo (f_X12_next M12) fun M13 =>
  some ((1 : Int32), M13)
  else
  g_X12_fresh_43  M
noncomputable def f_X12_looksAt (a0 : Int32) (a1 : Int32) (M : kD) : Option (Int32 × kD) :=
  bo (f_X12_isName M) fun v1 =>
  if v1 = 0 then
  bo2 (f_X12_bad (1 : Int32) M) fun v12 M11 =>
  if ¬ (v12 = 0 ∨ v12 = 1) then none else
  some (v12, M11)
  else
  bo (f_X12_seek a0 a1 M) fun v3 =>
  bd1 (kI M 0 18 v3) fun M5 =>
  if 0 ≤ (M5.1 0 18) then
  some ((1 : Int32), M5)
  else
  bo2 (f_X12_bad (3 : Int32) M5) fun v7 M6 =>
  if v7 = 0 then
  some ((0 : Int32), M6)
  else
  some ((1 : Int32), M6)
noncomputable def f_X12_takesName (a0 : Int32) (a1 : Int32) (M : kD) : Option (Int32 × kD) :=
  bo2 (f_X12_looksAt a0 a1 M) fun v2 M1 =>
  if v2 = 0 then
  some ((0 : Int32), M1)
  else
  bo (f_X12_next M1) fun M4 =>
  some ((1 : Int32), M4)
noncomputable def f_X12_readMachine  (M : kD) : Option (Int32 × kD) :=
  bd1 (M.1 7 (0 : Int32).toNatClampNeg) fun v1 =>
  if v1 = (6 : Int32) then
  bo2 (f_X12_bad (4 : Int32) M) fun v14 M13 =>
  if ¬ (v14 = 0 ∨ v14 = 1) then none else
  some (v14, M13)
  else
  bo (f_X12_next M) fun M2 =>
  bo2 (f_X12_fresh ((14 : Int32) + v1) M2) fun v5 M4 =>
  if v5 = 0 then
  some ((0 : Int32), M4)
  else
  bo2 (f_X12_puts ((3 : Int32) + v1) (0 : Int32) (999 : Int32) M4) fun v8 M7 =>
  if v8 = 0 then
  some ((0 : Int32), M7)
  else
  bd1 (kI M7 7 (0 : Int32).toNatClampNeg ((M7.1 7 (0 : Int32).toNatClampNeg) + (1 : Int32))) fun M10 =>
  some ((1 : Int32), M10)
noncomputable def f_X12_readPhrase  (M : kD) : Option (Int32 × kD) :=
  bd1 (M.1 7 (1 : Int32).toNatClampNeg) fun v1 =>
  if v1 = (8 : Int32) then
  bo2 (f_X12_bad (4 : Int32) M) fun v18 M17 =>
  if ¬ (v18 = 0 ∨ v18 = 1) then none else
  some (v18, M17)
  else
  bo (f_X12_next M) fun M2 =>
  bo2 (f_X12_fresh ((20 : Int32) + v1) M2) fun v5 M4 =>
  if v5 = 0 then
  some ((0 : Int32), M4)
  else
  bo2 (f_X12_puts ((15 : Int32) + v1) (1 : Int32) (40 : Int32) M4) fun v8 M7 =>
  if v8 = 0 then
  some ((0 : Int32), M7)
  else
  bo2 (f_X12_puts ((23 : Int32) + v1) (0 : Int32) (99 : Int32) M7) fun v11 M10 =>
  if v11 = 0 then
  some ((0 : Int32), M10)
  else
  bd1 (kI M10 7 (1 : Int32).toNatClampNeg ((M10.1 7 (1 : Int32).toNatClampNeg) + (1 : Int32))) fun M13 =>
  some ((1 : Int32), M13)
noncomputable def f_X12_readKnows  (M : kD) : Option (Int32 × kD) :=
  bo (f_X12_next M) fun M1 =>
  bo2 (f_X12_takesName (14 : Int32) (M1.1 7 (0 : Int32).toNatClampNeg) M1) fun v4 M3 =>
  if v4 = 0 then
  some ((0 : Int32), M3)
  else
  bd1 (M3.1 0 18) fun v6 =>
  bo2 (f_X12_looksAt (20 : Int32) (M3.1 7 (1 : Int32).toNatClampNeg) M3) fun v8 M7 =>
  if v8 = 0 then
  some ((0 : Int32), M7)
  else
  bd1 ((9 : Int32) + v6) fun v10 =>
  if v10 < 0 ∨ 39 ≤ v10.toNatClampNeg then none else
  if (f_X12_bitOf (M7.1 7 v10.toNatClampNeg) (M7.1 0 18)) = 0 then
  bd1 ((9 : Int32) + v6) fun v12 =>
  if v12 < 0 ∨ 39 ≤ v12.toNatClampNeg then none else
  if v12 < 0 ∨ 39 ≤ v12.toNatClampNeg then none else
  bd1 (kI M7 7 v12.toNatClampNeg ((M7.1 7 v12.toNatClampNeg) ||| ((1 : Int32) <<< ((M7.1 0 18) &&& 31)))) fun M15 =>
  bo (f_X12_next M15) fun M16 =>
  some ((1 : Int32), M16)
  else
  bo2 (f_X12_bad (3 : Int32) M7) fun v19 M18 =>
  if ¬ (v19 = 0 ∨ v19 = 1) then none else
  some (v19, M18)
noncomputable def f_X12_readAnswers  (M : kD) : Option (Int32 × kD) :=
  bo (f_X12_next M) fun M1 =>
  bo2 (f_X12_takesName (20 : Int32) (M1.1 7 (1 : Int32).toNatClampNeg) M1) fun v4 M3 =>
  if v4 = 0 then
  some ((0 : Int32), M3)
  else
  bd1 (M3.1 0 18) fun v6 =>
  bo2 (f_X12_looksAt (20 : Int32) (M3.1 7 (1 : Int32).toNatClampNeg) M3) fun v8 M7 =>
  if v8 = 0 then
  some ((0 : Int32), M7)
  else
  bd1 ((31 : Int32) + (M7.1 0 18)) fun v10 =>
  if v10 < 0 ∨ 39 ≤ v10.toNatClampNeg then none else
  if (f_X12_bitOf (M7.1 7 v10.toNatClampNeg) v6) = 0 then
  bd1 ((31 : Int32) + (M7.1 0 18)) fun v12 =>
  if v12 < 0 ∨ 39 ≤ v12.toNatClampNeg then none else
  if v12 < 0 ∨ 39 ≤ v12.toNatClampNeg then none else
  bd1 (kI M7 7 v12.toNatClampNeg ((M7.1 7 v12.toNatClampNeg) ||| ((1 : Int32) <<< (v6 &&& 31)))) fun M15 =>
  bd1 (kI M15 7 (2 : Int32).toNatClampNeg ((M15.1 7 (2 : Int32).toNatClampNeg) + (1 : Int32))) fun M16 =>
  bo (f_X12_next M16) fun M17 =>
  some ((1 : Int32), M17)
  else
  bo2 (f_X12_bad (3 : Int32) M7) fun v20 M19 =>
  if ¬ (v20 = 0 ∨ v20 = 1) then none else
  some (v20, M19)
noncomputable def f_X12_readLine  (M : kD) : Option (Int32 × kD) :=
  if (f_X12_isWord (30787852042858085 : Int64) M) = 0 then
  if (f_X12_isWord (123593897898853 : Int64) M) = 0 then
  if (f_X12_isWord (461414299507 : Int64) M) = 0 then
  if (f_X12_isWord (27424514944365171 : Int64) M) = 0 then
  bo2 (f_X12_bad (1 : Int32) M) fun v2 M1 =>
  if ¬ (v2 = 0 ∨ v2 = 1) then none else
  some (v2, M1)
  else
  bo2 (f_X12_readAnswers M) fun v6 M5 =>
  if ¬ (v6 = 0 ∨ v6 = 1) then none else
  some (v6, M5)
  else
  bo2 (f_X12_readKnows M) fun v11 M10 =>
  if ¬ (v11 = 0 ∨ v11 = 1) then none else
  some (v11, M10)
  else
  bo2 (f_X12_readPhrase M) fun v16 M15 =>
  if ¬ (v16 = 0 ∨ v16 = 1) then none else
  some (v16, M15)
  else
  bo2 (f_X12_readMachine M) fun v21 M20 =>
  if ¬ (v21 = 0 ∨ v21 = 1) then none else
  some (v21, M20)
noncomputable def g_X12_office_170 (M_170 : kD) : Option (Int32 × kD) :=
  bd1 (kI M_170 0 22 (0 : Int32)) fun M1 =>
  some ((M1.1 0 19), M1)
noncomputable def g_X12_office_141 (rc_141 : Int32 → kD → Option (Int32 × kD)) (x1_141 : Int32) (M_141 : kD) : Option (Int32 × kD) :=
  if (6 : Int32) ≤ x1_141 then
  g_X12_office_170  M_141
  else
  bd1 ((3 : Int32) + x1_141) fun v2 =>
  if v2 < 0 ∨ 279 ≤ v2.toNatClampNeg then none else
  if ((44 : Int32) + x1_141) < 0 ∨ 279 ≤ ((44 : Int32) + x1_141).toNatClampNeg then none else
  bd1 (kI M_141 6 ((44 : Int32) + x1_141).toNatClampNeg (M_141.1 6 v2.toNatClampNeg)) fun M5 =>
  bd1 (x1_141 + (1 : Int32)) fun v6 =>
  rc_141 v6 M5
noncomputable def g_X12_office_139 (M_139 : kD) : Option (Int32 × kD) :=
  lp (fun _ _ => none) (g_X12_office_141) 2000 (0 : Int32) M_139
noncomputable def g_X12_office_112 (rc_112 : Int32 → kD → Option (Int32 × kD)) (x1_112 : Int32) (M_112 : kD) : Option (Int32 × kD) :=
  if (14 : Int32) ≤ x1_112 then
  g_X12_office_139  M_112
  else
  bd1 ((14 : Int32) + x1_112) fun v8 =>
  if v8 < 0 ∨ 28 ≤ v8.toNatClampNeg then none else
  if x1_112 < 0 ∨ 28 ≤ x1_112.toNatClampNeg then none else
  bd1 (kL M_112 9 x1_112.toNatClampNeg (M_112.2 9 v8.toNatClampNeg)) fun M11 =>
  bd1 (x1_112 + (1 : Int32)) fun v12 =>
  rc_112 v12 M11
noncomputable def g_X12_office_110 (M_110 : kD) : Option (Int32 × kD) :=
  lp (fun _ _ => none) (g_X12_office_112) 2000 (0 : Int32) M_110
noncomputable def g_X12_office_103 (rc_75 : Int32 → kD → Option (Int32 × kD)) (x1_103 : Int32) (t1_103 : Int32) (t2_103 : Int32) (M_103 : kD) : Option (Int32 × kD) :=
  if t1_103 < 0 ∨ 279 ≤ t1_103.toNatClampNeg then none else
  bd1 (kI M_103 6 t1_103.toNatClampNeg t2_103) fun M15 =>
  bd1 (x1_103 + (1 : Int32)) fun v16 =>
  rc_75 v16 M15
noncomputable def g_X12_office_75 (rc_75 : Int32 → kD → Option (Int32 × kD)) (x1_75 : Int32) (M_75 : kD) : Option (Int32 × kD) :=
  if (279 : Int32) ≤ x1_75 then
  g_X12_office_110  M_75
  else
  if (39 : Int32) ≤ x1_75 then
  g_X12_office_103 rc_75 x1_75 x1_75 (0 : Int32) M_75
  else
  if x1_75 < 0 ∨ 39 ≤ x1_75.toNatClampNeg then none else
  g_X12_office_103 rc_75 x1_75 x1_75 (M_75.1 7 x1_75.toNatClampNeg) M_75
noncomputable def g_X12_office_73 (M_73 : kD) : Option (Int32 × kD) :=
  lp (fun _ _ => none) (g_X12_office_75) 2000 (0 : Int32) M_73
noncomputable def g_X12_office_30 (rc_30 : kD → Option (Int32 × kD)) (M_30 : kD) : Option (Int32 × kD) :=
  if (M_30.1 0 11) = 0 then
  g_X12_office_73  M_30
  else
  bo2 (f_X12_readLine M_30) fun v21 M20 =>
  if v21 = 0 then
  some (((-1 : Int32) - (M20.1 0 16)), M20)
  else
  bo2 (f_X12_sign (59 : Int32) M20) fun v24 M23 =>
  if v24 = 0 then
  some (((-1 : Int32) - (M23.1 0 16)), M23)
  else
  bd1 (kI M23 0 19 ((M23.1 0 19) + (1 : Int32))) fun M26 =>
  rc_30  M26
noncomputable def f_X12_office  (M : kD) : Option (Int32 × kD) :=
  bd1 (kI M 0 0 (0 : Int32)) fun M30 =>
  bo (f_X12_taken (900 : Int32) M30) fun M31 =>
  bd1 (kI M31 0 15 (0 : Int32)) fun M33 =>
  bd1 (kI M33 0 19 (0 : Int32)) fun M34 =>
  bo (f_X12_clears M34) fun M35 =>
  bo (f_X12_next M35) fun M37 =>
  lp (fun _ => none) (g_X12_office_30) 2000  M37
noncomputable def f_X12_fault  (M : kD) : Option (Int32 × kD) :=
  bd1 (kI M 0 0 (0 : Int32)) fun M1 =>
  some ((M1.1 0 15), M1)
noncomputable def f_X12_isMachine (a0 : Int32) (M : kD) : Option Int32 :=
  some (f_X12_isIn a0 (0 : Int32) ((M.1 6 (0 : Int32).toNatClampNeg) - (1 : Int32)))
noncomputable def f_X12_isPhrase (a0 : Int32) (M : kD) : Option Int32 :=
  some (f_X12_isIn a0 (0 : Int32) ((M.1 6 (1 : Int32).toNatClampNeg) - (1 : Int32)))
noncomputable def f_X12_isHeld (a0 : Int32) (M : kD) : Option Int32 :=
  some (f_X12_bitOf (M.1 6 (42 : Int32).toNatClampNeg) a0)
noncomputable def f_X12_isAnswer (a0 : Int32) (a1 : Int32) (M : kD) : Option Int32 :=
  bd1 ((31 : Int32) + a1) fun v1 =>
  if v1 < 0 ∨ 279 ≤ v1.toNatClampNeg then none else
  some (f_X12_bitOf (M.1 6 v1.toNatClampNeg) a0)
noncomputable def g_X12_whyWrite_72 (M : kD) (x1_72 : Int32) (x2_72 : Int32) : Option Int32 :=
  bd1 ((44 : Int32) + x1_72) fun v1 =>
  if v1 < 0 ∨ 279 ≤ v1.toNatClampNeg then none else
  bd1 ((15 : Int32) + x2_72) fun v3 =>
  if v3 < 0 ∨ 279 ≤ v3.toNatClampNeg then none else
  if (M.1 6 v3.toNatClampNeg) ≤ (M.1 6 v1.toNatClampNeg) then
  some (0 : Int32)
  else
  some (5 : Int32)
noncomputable def f_X12_whyWrite (a0 : Int32) (a1 : Int32) (M : kD) : Option Int32 :=
  bo (f_X12_isHeld a0 M) fun v6 =>
  if v6 = 0 then
  if (M.1 6 (41 : Int32).toNatClampNeg) = (a0 + (1 : Int32)) then
  some (2 : Int32)
  else
  bd1 ((9 : Int32) + a0) fun v8 =>
  if v8 < 0 ∨ 279 ≤ v8.toNatClampNeg then none else
  if (f_X12_bitOf (M.1 6 v8.toNatClampNeg) a1) = 0 then
  some (3 : Int32)
  else
  if (M.1 6 (40 : Int32).toNatClampNeg) ≤ 0 then
  g_X12_whyWrite_72 M a0 a1
  else
  bo (f_X12_isAnswer a1 ((M.1 6 (40 : Int32).toNatClampNeg) - (1 : Int32)) M) fun v10 =>
  if v10 = 0 then
  some (4 : Int32)
  else
  g_X12_whyWrite_72 M a0 a1
  else
  some (1 : Int32)
noncomputable def g_X12_couldWrite_31 (rc_4 : Int32 → Int32 → Int32 → Option Int32) (M : kD) (x1_31 : Int32) (x3_31 : Int32) (t0_31 : Int32) (t1_31 : Int32) : Option Int32 :=
  bd1 (t0_31 ||| t1_31) fun v1 =>
  bd1 (x3_31 + (1 : Int32)) fun v2 =>
  rc_4 x1_31 v1 v2
noncomputable def g_X12_couldWrite_4 (M : kD) (rc_4 : Int32 → Int32 → Int32 → Option Int32) (x1_4 : Int32) (x2_4 : Int32) (x3_4 : Int32) : Option Int32 :=
  if (M.1 6 (1 : Int32).toNatClampNeg) ≤ x3_4 then
  some x2_4
  else
  bo (f_X12_whyWrite x1_4 x3_4 M) fun v3 =>
  if v3 = 0 then
  g_X12_couldWrite_31 rc_4 M x1_4 x3_4 x2_4 ((1 : Int32) <<< (x3_4 &&& 31))
  else
  g_X12_couldWrite_31 rc_4 M x1_4 x3_4 x2_4 (0 : Int32)
noncomputable def f_X12_couldWrite (a0 : Int32) (M : kD) : Option Int32 :=
  lp (fun _ _ _ => none) (g_X12_couldWrite_4 M) 2000 a0 (0 : Int32) (0 : Int32)
noncomputable def g_X12_sumOf_4 (M : kD) (rc_4 : Int32 → Int32 → Int32 → Option Int32) (x1_4 : Int32) (x2_4 : Int32) (x3_4 : Int32) : Option Int32 :=
  if (M.1 6 (0 : Int32).toNatClampNeg) ≤ x3_4 then
  some x2_4
  else
  bd1 (x1_4 + x3_4) fun v1 =>
  if v1 < 0 ∨ 279 ≤ v1.toNatClampNeg then none else
  bd1 (x2_4 + (M.1 6 v1.toNatClampNeg)) fun v3 =>
  bd1 (x3_4 + (1 : Int32)) fun v4 =>
  rc_4 x1_4 v3 v4
noncomputable def f_X12_sumOf (a0 : Int32) (M : kD) : Option Int32 :=
  lp (fun _ _ _ => none) (g_X12_sumOf_4 M) 2000 a0 (0 : Int32) (0 : Int32)
noncomputable def g_X12_owedBy_54 (rc_5 : Int32 → Int32 → Int32 → Int32 → Option Int32) (M : kD) (x1_54 : Int32) (x2_54 : Int32) (x4_54 : Int32) (t0_54 : Int32) (t1_54 : Int32) : Option Int32 :=
  bd1 (t0_54 + t1_54) fun v1 =>
  bd1 (x4_54 + (1 : Int32)) fun v2 =>
  rc_5 x1_54 x2_54 v1 v2
noncomputable def g_X12_owedBy_5 (M : kD) (rc_5 : Int32 → Int32 → Int32 → Int32 → Option Int32) (x1_5 : Int32) (x2_5 : Int32) (x3_5 : Int32) (x4_5 : Int32) : Option Int32 :=
  if (M.1 6 (0 : Int32).toNatClampNeg) ≤ x4_5 then
  some x3_5
  else
  if x2_5 = 0 then
  bd1 (((62 : Int32) + ((6 : Int32) * x4_5)) + x1_5) fun v3 =>
  if v3 < 0 ∨ 279 ≤ v3.toNatClampNeg then none else
  g_X12_owedBy_54 rc_5 M x1_5 x2_5 x4_5 x3_5 (M.1 6 v3.toNatClampNeg)
  else
  bd1 (((62 : Int32) + ((6 : Int32) * x1_5)) + x4_5) fun v5 =>
  if v5 < 0 ∨ 279 ≤ v5.toNatClampNeg then none else
  g_X12_owedBy_54 rc_5 M x1_5 x2_5 x4_5 x3_5 (M.1 6 v5.toNatClampNeg)
noncomputable def f_X12_owedBy (a0 : Int32) (a1 : Int32) (M : kD) : Option Int32 :=
  lp (fun _ _ _ _ => none) (g_X12_owedBy_5 M) 2000 a0 a1 (0 : Int32) (0 : Int32)
noncomputable def g_X12_machine_143 (t1_143 : Int32) (t2_143 : Int32) (M_143 : kD) : Option (Int32 × kD) :=
  bo (f_X12_owedBy t1_143 t2_143 M_143) fun v1 =>
  some (v1, M_143)
noncomputable def g_X12_machine_24 (x1_24 : Int32) (x2_24 : Int32) (t1_24 : Int32) (M_24 : kD) : Option (Int32 × kD) :=
  bo2 (f_X12_throwsIf t1_24 M_24) fun v4 M3 =>
  if v4 = 0 then
  if x2_24 = 0 then
  bd1 ((44 : Int32) + x1_24) fun v6 =>
  if v6 < 0 ∨ 279 ≤ v6.toNatClampNeg then none else
  some ((M3.1 6 v6.toNatClampNeg), M3)
  else
  if x2_24 = 1 then
  bd1 ((9 : Int32) + x1_24) fun v9 =>
  if v9 < 0 ∨ 279 ≤ v9.toNatClampNeg then none else
  some ((M3.1 6 v9.toNatClampNeg), M3)
  else
  if x2_24 = 2 then
  some ((((M3.1 6 (42 : Int32).toNatClampNeg) >>> (x1_24 &&& 31)) &&& (1 : Int32)), M3)
  else
  if x2_24 = 3 then
  bd1 ((50 : Int32) + x1_24) fun v13 =>
  if v13 < 0 ∨ 279 ≤ v13.toNatClampNeg then none else
  some ((M3.1 6 v13.toNatClampNeg), M3)
  else
  if x2_24 = 4 then
  bd1 ((56 : Int32) + x1_24) fun v16 =>
  if v16 < 0 ∨ 279 ≤ v16.toNatClampNeg then none else
  some ((M3.1 6 v16.toNatClampNeg), M3)
  else
  if x2_24 = 5 then
  bo (f_X12_couldWrite x1_24 M3) fun v19 =>
  some (v19, M3)
  else
  if x2_24 = (6 : Int32) then
  g_X12_machine_143 x1_24 (1 : Int32) M3
  else
  g_X12_machine_143 x1_24 (0 : Int32) M3
  else
  some ((0 : Int32), M3)
noncomputable def g_X12_machine_19 (x1_19 : Int32) (x2_19 : Int32) (M_19 : kD) : Option (Int32 × kD) :=
  g_X12_machine_24 x1_19 x2_19 (1 : Int32) M_19
noncomputable def f_X12_machine (a0 : Int32) (a1 : Int32) (M : kD) : Option (Int32 × kD) :=
  bo (f_X12_isMachine a0 M) fun v24 =>
  if v24 = 0 then
  g_X12_machine_19 a0 a1 M
  else
  if (f_X12_isIn a1 (0 : Int32) (7 : Int32)) = 0 then
  g_X12_machine_19 a0 a1 M
  else
  g_X12_machine_24 a0 a1 (0 : Int32) M
noncomputable def g_X12_phrase_111 (x1_111 : Int32) (x2_111 : Int32) (x3_111 : Int32) (x4_111 : Int32) (M_111 : kD) : Option (Int32 × kD) :=
  if x2_111 = 0 then
  bd1 ((15 : Int32) + x1_111) fun v1 =>
  if v1 < 0 ∨ 279 ≤ v1.toNatClampNeg then none else
  some ((M_111.1 6 v1.toNatClampNeg), M_111)
  else
  if x2_111 = 1 then
  bd1 ((23 : Int32) + x1_111) fun v4 =>
  if v4 < 0 ∨ 279 ≤ v4.toNatClampNeg then none else
  some ((M_111.1 6 v4.toNatClampNeg), M_111)
  else
  if x2_111 = 2 then
  bd1 ((31 : Int32) + x1_111) fun v7 =>
  if v7 < 0 ∨ 279 ≤ v7.toNatClampNeg then none else
  some ((M_111.1 6 v7.toNatClampNeg), M_111)
  else
  if x2_111 = 3 then
  some (x3_111, M_111)
  else
  if x2_111 = 4 then
  some (x4_111, M_111)
  else
  some ((-1 : Int32), M_111)
noncomputable def g_X12_phrase_102 (rc_64 : Int32 → Int32 → Int32 → Int32 → Int32 → kD → Option (Int32 × kD)) (x1_102 : Int32) (x2_102 : Int32) (x3_102 : Int32) (x5_102 : Int32) (t0_102 : Int32) (t1_102 : Int32) (M_102 : kD) : Option (Int32 × kD) :=
  bd1 (t0_102 ||| t1_102) fun v12 =>
  bd1 (x5_102 + (1 : Int32)) fun v13 =>
  rc_64 x1_102 x2_102 x3_102 v12 v13 M_102
noncomputable def g_X12_phrase_64 (rc_64 : Int32 → Int32 → Int32 → Int32 → Int32 → kD → Option (Int32 × kD)) (x1_64 : Int32) (x2_64 : Int32) (x3_64 : Int32) (x4_64 : Int32) (x5_64 : Int32) (M_64 : kD) : Option (Int32 × kD) :=
  if (M_64.1 6 (0 : Int32).toNatClampNeg) ≤ x5_64 then
  g_X12_phrase_111 x1_64 x2_64 x3_64 x4_64 M_64
  else
  bd1 ((9 : Int32) + x5_64) fun v14 =>
  if v14 < 0 ∨ 279 ≤ v14.toNatClampNeg then none else
  if (f_X12_bitOf (M_64.1 6 v14.toNatClampNeg) x1_64) = 0 then
  g_X12_phrase_102 rc_64 x1_64 x2_64 x3_64 x5_64 x4_64 (0 : Int32) M_64
  else
  g_X12_phrase_102 rc_64 x1_64 x2_64 x3_64 x5_64 x4_64 ((1 : Int32) <<< (x5_64 &&& 31)) M_64
noncomputable def g_X12_phrase_61 (x1_61 : Int32) (x2_61 : Int32) (x3_61 : Int32) (x4_61 : Int32) (M_61 : kD) : Option (Int32 × kD) :=
  lp (fun _ _ _ _ _ _ => none) (g_X12_phrase_64) 2000 x1_61 x2_61 x3_61 x4_61 (0 : Int32) M_61
noncomputable def g_X12_phrase_53 (rc_23 : Int32 → Int32 → Int32 → Int32 → Int32 → kD → Option (Int32 × kD)) (x1_53 : Int32) (x2_53 : Int32) (x4_53 : Int32) (x5_53 : Int32) (t0_53 : Int32) (t1_53 : Int32) (M_53 : kD) : Option (Int32 × kD) :=
  bd1 (t0_53 ||| t1_53) fun v18 =>
  bd1 (x5_53 + (1 : Int32)) fun v19 =>
  rc_23 x1_53 x2_53 v18 x4_53 v19 M_53
noncomputable def g_X12_phrase_23 (rc_23 : Int32 → Int32 → Int32 → Int32 → Int32 → kD → Option (Int32 × kD)) (x1_23 : Int32) (x2_23 : Int32) (x3_23 : Int32) (x4_23 : Int32) (x5_23 : Int32) (M_23 : kD) : Option (Int32 × kD) :=
  if (M_23.1 6 (1 : Int32).toNatClampNeg) ≤ x5_23 then
  g_X12_phrase_61 x1_23 x2_23 x3_23 x4_23 M_23
  else
  bo (f_X12_isAnswer x1_23 x5_23 M_23) fun v20 =>
  if v20 = 0 then
  g_X12_phrase_53 rc_23 x1_23 x2_23 x4_23 x5_23 x3_23 (0 : Int32) M_23
  else
  g_X12_phrase_53 rc_23 x1_23 x2_23 x4_23 x5_23 x3_23 ((1 : Int32) <<< (x5_23 &&& 31)) M_23
noncomputable def f_X12_phrase (a0 : Int32) (a1 : Int32) (M : kD) : Option (Int32 × kD) :=
  bd1 (kI M 0 0 (0 : Int32)) fun M24 =>
  bo (f_X12_isPhrase a0 M24) fun v25 =>
  if v25 = 0 then
  some ((-1 : Int32), M24)
  else
  lp (fun _ _ _ _ _ _ => none) (g_X12_phrase_23) 2000 a0 a1 (0 : Int32) (0 : Int32) (0 : Int32) M24
noncomputable def f_X12_owes (a0 : Int32) (a1 : Int32) (M : kD) : Option (Int32 × kD) :=
  bd1 (kI M 0 0 (0 : Int32)) fun M1 =>
  bo (f_X12_isMachine a0 M1) fun v2 =>
  if v2 = 0 then
  some ((-1 : Int32), M1)
  else
  bo (f_X12_isMachine a1 M1) fun v4 =>
  if v4 = 0 then
  some ((-1 : Int32), M1)
  else
  if a0 = a1 then
  some ((-1 : Int32), M1)
  else
  bd1 (((62 : Int32) + ((6 : Int32) * a0)) + a1) fun v6 =>
  if v6 < 0 ∨ 279 ≤ v6.toNatClampNeg then none else
  some ((M1.1 6 v6.toNatClampNeg), M1)
noncomputable def g_X12_now_34 (x1_34 : Int32) (x2_34 : Int32) (M_34 : kD) : Option (Int32 × kD) :=
  if x1_34 = 0 then
  some ((M_34.1 6 (39 : Int32).toNatClampNeg), M_34)
  else
  if x1_34 = 1 then
  some (((M_34.1 6 (40 : Int32).toNatClampNeg) - (1 : Int32)), M_34)
  else
  if x1_34 = 2 then
  some (((M_34.1 6 (41 : Int32).toNatClampNeg) - (1 : Int32)), M_34)
  else
  if x1_34 = 3 then
  some ((M_34.1 6 (42 : Int32).toNatClampNeg), M_34)
  else
  if x1_34 = 4 then
  bo (f_X12_sumOf (50 : Int32) M_34) fun v5 =>
  some (v5, M_34)
  else
  if x1_34 = 5 then
  bo (f_X12_sumOf (56 : Int32) M_34) fun v8 =>
  some (v8, M_34)
  else
  if x1_34 = 6 then
  some ((M_34.1 6 (43 : Int32).toNatClampNeg), M_34)
  else
  if x1_34 = 7 then
  some (x2_34, M_34)
  else
  some ((-1 : Int32), M_34)
noncomputable def g_X12_now_9 (rc_9 : Int32 → Int32 → Int32 → kD → Option (Int32 × kD)) (x1_9 : Int32) (x2_9 : Int32) (x3_9 : Int32) (M_9 : kD) : Option (Int32 × kD) :=
  if (M_9.1 6 (0 : Int32).toNatClampNeg) ≤ x3_9 then
  g_X12_now_34 x1_9 x2_9 M_9
  else
  bo (f_X12_owedBy x3_9 (1 : Int32) M_9) fun v13 =>
  bd1 (x2_9 + v13) fun v15 =>
  bd1 (x3_9 + (1 : Int32)) fun v16 =>
  rc_9 x1_9 v15 v16 M_9
noncomputable def f_X12_now (a0 : Int32) (M : kD) : Option (Int32 × kD) :=
  bd1 (kI M 0 0 (0 : Int32)) fun M18 =>
  lp (fun _ _ _ _ => none) (g_X12_now_9) 2000 a0 (0 : Int32) (0 : Int32) M18
noncomputable def g_X12_types_111 (x1_111 : Int32) (x2_111 : Int32) (M_111 : kD) : Option kD :=
  bd1 (kI M_111 6 (40 : Int32).toNatClampNeg (x2_111 + (1 : Int32))) fun M1 =>
  bd1 (kI M1 6 (41 : Int32).toNatClampNeg (x1_111 + (1 : Int32))) fun M2 =>
  some M2
noncomputable def f_X12_types (a0 : Int32) (a1 : Int32) (M : kD) : Option kD :=
  bd1 ((44 : Int32) + a0) fun v3 =>
  if v3 < 0 ∨ 279 ≤ v3.toNatClampNeg then none else
  bd1 ((15 : Int32) + a1) fun v5 =>
  if v5 < 0 ∨ 279 ≤ v5.toNatClampNeg then none else
  if v3 < 0 ∨ 279 ≤ v3.toNatClampNeg then none else
  bd1 (kI M 6 v3.toNatClampNeg ((M.1 6 v3.toNatClampNeg) - (M.1 6 v5.toNatClampNeg))) fun M8 =>
  bd1 ((50 : Int32) + a0) fun v9 =>
  if v9 < 0 ∨ 279 ≤ v9.toNatClampNeg then none else
  if v9 < 0 ∨ 279 ≤ v9.toNatClampNeg then none else
  bd1 (kI M8 6 v9.toNatClampNeg ((M8.1 6 v9.toNatClampNeg) + (1 : Int32))) fun M12 =>
  bd1 ((56 : Int32) + a0) fun v13 =>
  if v13 < 0 ∨ 279 ≤ v13.toNatClampNeg then none else
  bd1 ((15 : Int32) + a1) fun v15 =>
  if v15 < 0 ∨ 279 ≤ v15.toNatClampNeg then none else
  if v13 < 0 ∨ 279 ≤ v13.toNatClampNeg then none else
  bd1 (kI M12 6 v13.toNatClampNeg ((M12.1 6 v13.toNatClampNeg) + (M12.1 6 v15.toNatClampNeg))) fun M18 =>
  if (M18.1 6 (40 : Int32).toNatClampNeg) ≤ 0 then
  g_X12_types_111 a0 a1 M18
  else
  bd1 (((62 : Int32) + ((6 : Int32) * ((M18.1 6 (41 : Int32).toNatClampNeg) - (1 : Int32)))) + a0) fun v19 =>
  if v19 < 0 ∨ 279 ≤ v19.toNatClampNeg then none else
  bd1 ((23 : Int32) + a1) fun v21 =>
  if v21 < 0 ∨ 279 ≤ v21.toNatClampNeg then none else
  if v19 < 0 ∨ 279 ≤ v19.toNatClampNeg then none else
  bd1 (kI M18 6 v19.toNatClampNeg (f_X12_lesser (9999 : Int32) ((M18.1 6 v19.toNatClampNeg) + (M18.1 6 v21.toNatClampNeg)))) fun M24 =>
  g_X12_types_111 a0 a1 M24
noncomputable def f_X12_mutual (a0 : Int32) (a1 : Int32) (M : kD) : Option Int32 :=
  bd1 (((62 : Int32) + ((6 : Int32) * a0)) + a1) fun v1 =>
  if v1 < 0 ∨ 279 ≤ v1.toNatClampNeg then none else
  bd1 (((62 : Int32) + ((6 : Int32) * a1)) + a0) fun v3 =>
  if v3 < 0 ∨ 279 ≤ v3.toNatClampNeg then none else
  some (f_X12_lesser (M.1 6 v1.toNatClampNeg) (M.1 6 v3.toNatClampNeg))
noncomputable def g_X12_whyClear_36 (rc_2 : Int32 → Option Int32) (M : kD) (x1_36 : Int32) : Option Int32 :=
  bd1 (x1_36 + (1 : Int32)) fun v1 =>
  rc_2 v1
noncomputable def g_X12_whyClear_14 (rc_2 : Int32 → Option Int32) (M : kD) (rc_14 : Int32 → Int32 → Option Int32) (x1_14 : Int32) (x2_14 : Int32) : Option Int32 :=
  if x1_14 ≤ x2_14 then
  g_X12_whyClear_36 rc_2 M x1_14
  else
  bo (f_X12_mutual x1_14 x2_14 M) fun v2 =>
  if v2 ≤ 0 then
  bd1 (x2_14 + (1 : Int32)) fun v4 =>
  rc_14 x1_14 v4
  else
  some (0 : Int32)
noncomputable def g_X12_whyClear_2 (M : kD) (rc_2 : Int32 → Option Int32) (x1_2 : Int32) : Option Int32 :=
  if (M.1 6 (0 : Int32).toNatClampNeg) ≤ x1_2 then
  some (1 : Int32)
  else
  lp (fun _ _ => none) (g_X12_whyClear_14 rc_2 M) 2000 x1_2 (0 : Int32)
noncomputable def f_X12_whyClear  (M : kD) : Option Int32 :=
  lp (fun _ => none) (g_X12_whyClear_2 M) 2000 (0 : Int32)
noncomputable def g_X12_evens_68 (rc_2 : Int32 → kD → Option kD) (x1_68 : Int32) (M_68 : kD) : Option kD :=
  bd1 (x1_68 + (1 : Int32)) fun v1 =>
  rc_2 v1 M_68
noncomputable def g_X12_evens_14 (rc_2 : Int32 → kD → Option kD) (rc_14 : Int32 → Int32 → kD → Option kD) (x1_14 : Int32) (x2_14 : Int32) (M_14 : kD) : Option kD :=
  if x1_14 ≤ x2_14 then
  g_X12_evens_68 rc_2 x1_14 M_14
  else
  bo (f_X12_mutual x1_14 x2_14 M_14) fun v2 =>
  bd1 (((62 : Int32) + ((6 : Int32) * x1_14)) + x2_14) fun v4 =>
  if v4 < 0 ∨ 279 ≤ v4.toNatClampNeg then none else
  if v4 < 0 ∨ 279 ≤ v4.toNatClampNeg then none else
  bd1 (kI M_14 6 v4.toNatClampNeg ((M_14.1 6 v4.toNatClampNeg) - v2)) fun M7 =>
  bd1 (((62 : Int32) + ((6 : Int32) * x2_14)) + x1_14) fun v8 =>
  if v8 < 0 ∨ 279 ≤ v8.toNatClampNeg then none else
  if v8 < 0 ∨ 279 ≤ v8.toNatClampNeg then none else
  bd1 (kI M7 6 v8.toNatClampNeg ((M7.1 6 v8.toNatClampNeg) - v2)) fun M11 =>
  bd1 (x2_14 + (1 : Int32)) fun v12 =>
  rc_14 x1_14 v12 M11
noncomputable def g_X12_evens_2 (rc_2 : Int32 → kD → Option kD) (x1_2 : Int32) (M_2 : kD) : Option kD :=
  if (M_2.1 6 (0 : Int32).toNatClampNeg) ≤ x1_2 then
  some M_2
  else
  lp (fun _ _ _ => none) (g_X12_evens_14 rc_2) 2000 x1_2 (0 : Int32) M_2
noncomputable def f_X12_evens  (M : kD) : Option kD :=
  lp (fun _ _ => none) (g_X12_evens_2) 2000 (0 : Int32) M
noncomputable def g_X12_day_129 (t1_129 : Int32) (t2_129 : Int32) (t3_129 : Int32) (M_129 : kD) : Option (Int32 × kD) :=
  if t1_129 < 0 ∨ 279 ≤ t1_129.toNatClampNeg then none else
  bd1 (kI M_129 6 t1_129.toNatClampNeg (t2_129 + t3_129)) fun M2 =>
  bd1 (kI M2 6 (40 : Int32).toNatClampNeg (0 : Int32)) fun M3 =>
  bd1 (kI M3 6 (41 : Int32).toNatClampNeg (0 : Int32)) fun M4 =>
  some ((0 : Int32), M4)
noncomputable def g_X12_day_89 (x1_89 : Int32) (M_89 : kD) : Option (Int32 × kD) :=
  bd1 (kI M_89 6 (39 : Int32).toNatClampNeg ((M_89.1 6 (39 : Int32).toNatClampNeg) + (1 : Int32))) fun M5 =>
  if x1_89 = 0 then
  if (M5.1 6 (40 : Int32).toNatClampNeg) ≤ 0 then
  g_X12_day_129 (43 : Int32) (M5.1 6 (43 : Int32).toNatClampNeg) (0 : Int32) M5
  else
  g_X12_day_129 (43 : Int32) (M5.1 6 (43 : Int32).toNatClampNeg) (1 : Int32) M5
  else
  some ((1 : Int32), M5)
noncomputable def g_X12_day_83 (rc_12 : Int32 → Int32 → Int32 → kD → Option (Int32 × kD)) (x1_83 : Int32) (x2_83 : Int32) (x3_83 : Int32) (M_83 : kD) : Option (Int32 × kD) :=
  bd1 (x3_83 + (1 : Int32)) fun v8 =>
  rc_12 x1_83 x2_83 v8 M_83
noncomputable def g_X12_day_73 (rc_12 : Int32 → Int32 → Int32 → kD → Option (Int32 × kD)) (x2_73 : Int32) (x3_73 : Int32) (x4_73 : Int32) (x6_73 : Int32) (M_73 : kD) : Option (Int32 × kD) :=
  bo (f_X12_types x4_73 x6_73 M_73) fun M9 =>
  g_X12_day_83 rc_12 (1 : Int32) x2_73 x3_73 M9
noncomputable def g_X12_day_57 (rc_12 : Int32 → Int32 → Int32 → kD → Option (Int32 × kD)) (rc_57 : Int32 → Int32 → Int32 → Int32 → Int32 → kD → Option (Int32 × kD)) (x2_57 : Int32) (x3_57 : Int32) (x4_57 : Int32) (x5_57 : Int32) (x6_57 : Int32) (M_57 : kD) : Option (Int32 × kD) :=
  if (f_X12_bitOf x5_57 x6_57) = 0 then
  bd1 (x6_57 + (1 : Int32)) fun v11 =>
  rc_57 x2_57 x3_57 x4_57 x5_57 v11 M_57
  else
  g_X12_day_73 rc_12 x2_57 x3_57 x4_57 x6_57 M_57
noncomputable def g_X12_day_12 (rc_12 : Int32 → Int32 → Int32 → kD → Option (Int32 × kD)) (x1_12 : Int32) (x2_12 : Int32) (x3_12 : Int32) (M_12 : kD) : Option (Int32 × kD) :=
  if (M_12.1 6 (0 : Int32).toNatClampNeg) ≤ x3_12 then
  g_X12_day_89 x1_12 M_12
  else
  if x1_12 = 0 then
  if (M_12.1 6 (0 : Int32).toNatClampNeg) = 0 then none else
  bd1 (kRem (x2_12 + x3_12) (M_12.1 6 (0 : Int32).toNatClampNeg)) fun v14 =>
  bo (f_X12_couldWrite v14 M_12) fun v15 =>
  if v15 = 0 then
  g_X12_day_83 rc_12 x1_12 x2_12 x3_12 M_12
  else
  lp (fun _ _ _ _ _ _ => none) (g_X12_day_57 rc_12) 2000 x2_12 x3_12 v14 v15 (0 : Int32) M_12
  else
  g_X12_day_89 x1_12 M_12
noncomputable def f_X12_day  (M : kD) : Option (Int32 × kD) :=
  bd1 (M.1 6 (41 : Int32).toNatClampNeg) fun v20 =>
  lp (fun _ _ _ _ => none) (g_X12_day_12) 2000 (0 : Int32) v20 (0 : Int32) M
noncomputable def g_X12_goesOn_2 (rc_2 : Int32 → Int32 → kD → Option (Int32 × kD)) (x1_2 : Int32) (x2_2 : Int32) (M_2 : kD) : Option (Int32 × kD) :=
  if x1_2 ≤ x2_2 then
  some (x2_2, M_2)
  else
  if (400 : Int32) ≤ (M_2.1 6 (39 : Int32).toNatClampNeg) then
  some (x2_2, M_2)
  else
  bo2 (f_X12_day M_2) fun v2 M1 =>
  bd1 (x2_2 + (1 : Int32)) fun v4 =>
  rc_2 x1_2 v4 M1
noncomputable def f_X12_goesOn (a0 : Int32) (M : kD) : Option (Int32 × kD) :=
  lp (fun _ _ _ => none) (g_X12_goesOn_2) 2000 a0 (0 : Int32) M
noncomputable def g_X12_keep_82 (M_82 : kD) : Option kD :=
  bd1 (kI M_82 0 22 ((M_82.1 0 22) + (1 : Int32))) fun M1 =>
  some M1
noncomputable def g_X12_keep_47 (rc_47 : Int32 → kD → Option kD) (x1_47 : Int32) (M_47 : kD) : Option kD :=
  if (59 : Int32) ≤ x1_47 then
  g_X12_keep_82  M_47
  else
  bd1 ((39 : Int32) + x1_47) fun v2 =>
  if v2 < 0 ∨ 279 ≤ v2.toNatClampNeg then none else
  if (((59 : Int32) * (M_47.1 0 22)) + x1_47) < 0 ∨ 472 ≤ (((59 : Int32) * (M_47.1 0 22)) + x1_47).toNatClampNeg then none else
  bd1 (kI M_47 20 (((59 : Int32) * (M_47.1 0 22)) + x1_47).toNatClampNeg (M_47.1 6 v2.toNatClampNeg)) fun M5 =>
  bd1 (x1_47 + (1 : Int32)) fun v6 =>
  rc_47 v6 M5
noncomputable def g_X12_keep_45 (M_45 : kD) : Option kD :=
  lp (fun _ _ => none) (g_X12_keep_47) 2000 (0 : Int32) M_45
noncomputable def g_X12_keep_39 (M_39 : kD) : Option kD :=
  bd1 (kI M_39 0 22 (7 : Int32)) fun M8 =>
  g_X12_keep_45  M8
noncomputable def g_X12_keep_11 (rc_11 : Int32 → kD → Option kD) (x1_11 : Int32) (M_11 : kD) : Option kD :=
  if (413 : Int32) ≤ x1_11 then
  g_X12_keep_39  M_11
  else
  bd1 (x1_11 + (59 : Int32)) fun v9 =>
  if v9 < 0 ∨ 472 ≤ v9.toNatClampNeg then none else
  if x1_11 < 0 ∨ 472 ≤ x1_11.toNatClampNeg then none else
  bd1 (kI M_11 20 x1_11.toNatClampNeg (M_11.1 20 v9.toNatClampNeg)) fun M12 =>
  bd1 (x1_11 + (1 : Int32)) fun v13 =>
  rc_11 v13 M12
noncomputable def f_X12_keep  (M : kD) : Option kD :=
  if (M.1 0 22) = (8 : Int32) then
  lp (fun _ _ => none) (g_X12_keep_11) 2000 (0 : Int32) M
  else
  g_X12_keep_45  M
noncomputable def f_X12_write (a0 : Int32) (a1 : Int32) (M : kD) : Option (Int32 × kD) :=
  bd1 (kI M 0 0 (0 : Int32)) fun M1 =>
  bo (f_X12_isMachine a0 M1) fun v2 =>
  if v2 = 0 then
  some ((-1 : Int32), M1)
  else
  bo (f_X12_isPhrase a1 M1) fun v4 =>
  if v4 = 0 then
  some ((-1 : Int32), M1)
  else
  bo (f_X12_whyWrite a0 a1 M1) fun v6 =>
  if v6 ≤ 0 then
  bo (f_X12_keep M1) fun M8 =>
  bo (f_X12_types a0 a1 M8) fun M10 =>
  some ((0 : Int32), M10)
  else
  some (v6, M1)
noncomputable def f_X12_turns (a0 : Int32) (a1 : Int32) (M : kD) : Option (Int32 × kD) :=
  bd1 (kI M 0 0 (0 : Int32)) fun M1 =>
  bo (f_X12_isMachine a0 M1) fun v2 =>
  if v2 = 0 then
  some ((-1 : Int32), M1)
  else
  bo (f_X12_isHeld a0 M1) fun v4 =>
  if v4 = a1 then
  some ((1 : Int32), M1)
  else
  bo (f_X12_keep M1) fun M6 =>
  bd1 (kI M6 6 (42 : Int32).toNatClampNeg ((M6.1 6 (42 : Int32).toNatClampNeg) ^^^ ((1 : Int32) <<< (a0 &&& 31)))) fun M8 =>
  some ((0 : Int32), M8)
noncomputable def f_X12_sit (a0 : Int32) (M : kD) : Option (Int32 × kD) :=
  bo2 (f_X12_turns a0 (1 : Int32) M) fun v2 M1 =>
  some (v2, M1)
noncomputable def f_X12_leave (a0 : Int32) (M : kD) : Option (Int32 × kD) :=
  bo2 (f_X12_turns a0 (0 : Int32) M) fun v2 M1 =>
  some (v2, M1)
noncomputable def f_X12_ribbon (a0 : Int32) (a1 : Int32) (M : kD) : Option (Int32 × kD) :=
  bd1 (kI M 0 0 (0 : Int32)) fun M1 =>
  bo (f_X12_isMachine a0 M1) fun v2 =>
  if v2 = 0 then
  some ((-1 : Int32), M1)
  else
  if (f_X12_isIn a1 (1 : Int32) (999 : Int32)) = 0 then
  some ((-1 : Int32), M1)
  else
  bd1 ((44 : Int32) + a0) fun v4 =>
  if v4 < 0 ∨ 279 ≤ v4.toNatClampNeg then none else
  if (M1.1 6 v4.toNatClampNeg) < a1 then
  bo (f_X12_keep M1) fun M6 =>
  if ((44 : Int32) + a0) < 0 ∨ 279 ≤ ((44 : Int32) + a0).toNatClampNeg then none else
  bd1 (kI M6 6 ((44 : Int32) + a0).toNatClampNeg a1) fun M9 =>
  some ((0 : Int32), M9)
  else
  some ((1 : Int32), M1)
noncomputable def f_X12_clear  (M : kD) : Option (Int32 × kD) :=
  bd1 (kI M 0 0 (0 : Int32)) fun M1 =>
  bo (f_X12_whyClear M1) fun v2 =>
  if v2 ≤ 0 then
  bo (f_X12_keep M1) fun M4 =>
  bo (f_X12_evens M4) fun M6 =>
  some ((0 : Int32), M6)
  else
  some ((1 : Int32), M1)
noncomputable def f_X12_days (a0 : Int32) (M : kD) : Option (Int32 × kD) :=
  bd1 (kI M 0 0 (0 : Int32)) fun M1 =>
  if (f_X12_isIn a0 (1 : Int32) (60 : Int32)) = 0 then
  some ((-1 : Int32), M1)
  else
  if (M1.1 6 (39 : Int32).toNatClampNeg) = (400 : Int32) then
  some ((0 : Int32), M1)
  else
  bo (f_X12_keep M1) fun M2 =>
  bo2 (f_X12_goesOn a0 M2) fun v5 M4 =>
  some (v5, M4)
noncomputable def g_X12_undo_26 (rc_26 : Int32 → kD → Option (Int32 × kD)) (x1_26 : Int32) (M_26 : kD) : Option (Int32 × kD) :=
  if (59 : Int32) ≤ x1_26 then
  some ((M_26.1 0 22), M_26)
  else
  bd1 (((59 : Int32) * (M_26.1 0 22)) + x1_26) fun v1 =>
  if v1 < 0 ∨ 472 ≤ v1.toNatClampNeg then none else
  if ((39 : Int32) + x1_26) < 0 ∨ 279 ≤ ((39 : Int32) + x1_26).toNatClampNeg then none else
  bd1 (kI M_26 6 ((39 : Int32) + x1_26).toNatClampNeg (M_26.1 20 v1.toNatClampNeg)) fun M4 =>
  bd1 (x1_26 + (1 : Int32)) fun v5 =>
  rc_26 v5 M4
noncomputable def f_X12_undo  (M : kD) : Option (Int32 × kD) :=
  bd1 (kI M 0 0 (0 : Int32)) fun M7 =>
  if (M7.1 0 22) = 0 then
  some ((-1 : Int32), M7)
  else
  bd1 (kI M7 0 22 ((M7.1 0 22) - (1 : Int32))) fun M8 =>
  lp (fun _ _ => none) (g_X12_undo_26) 2000 (0 : Int32) M8
noncomputable def g_X12_tries_2 (rc_2 : Int32 → kD → Option kD) (x1_2 : Int32) (M_2 : kD) : Option kD :=
  if (59 : Int32) ≤ x1_2 then
  some M_2
  else
  bd1 ((39 : Int32) + x1_2) fun v1 =>
  if v1 < 0 ∨ 279 ≤ v1.toNatClampNeg then none else
  if x1_2 < 0 ∨ 59 ≤ x1_2.toNatClampNeg then none else
  bd1 (kI M_2 21 x1_2.toNatClampNeg (M_2.1 6 v1.toNatClampNeg)) fun M4 =>
  bd1 (x1_2 + (1 : Int32)) fun v5 =>
  rc_2 v5 M4
noncomputable def f_X12_tries  (M : kD) : Option kD :=
  lp (fun _ _ => none) (g_X12_tries_2) 2000 (0 : Int32) M
noncomputable def g_X12_back_2 (rc_2 : Int32 → kD → Option kD) (x1_2 : Int32) (M_2 : kD) : Option kD :=
  if (59 : Int32) ≤ x1_2 then
  some M_2
  else
  if x1_2 < 0 ∨ 59 ≤ x1_2.toNatClampNeg then none else
  if ((39 : Int32) + x1_2) < 0 ∨ 279 ≤ ((39 : Int32) + x1_2).toNatClampNeg then none else
  bd1 (kI M_2 6 ((39 : Int32) + x1_2).toNatClampNeg (M_2.1 21 x1_2.toNatClampNeg)) fun M3 =>
  bd1 (x1_2 + (1 : Int32)) fun v4 =>
  rc_2 v4 M3
noncomputable def f_X12_back  (M : kD) : Option kD :=
  lp (fun _ _ => none) (g_X12_back_2) 2000 (0 : Int32) M
noncomputable def f_X12_canFollow (a0 : Int32) (a1 : Int32) (a2 : Int32) (a3 : Int32) (M : kD) : Option Int32 :=
  bo (f_X12_isHeld a0 M) fun v1 =>
  if v1 = 0 then
  if a0 = a2 then
  some (0 : Int32)
  else
  bd1 ((9 : Int32) + a0) fun v3 =>
  if v3 < 0 ∨ 279 ≤ v3.toNatClampNeg then none else
  if (f_X12_bitOf (M.1 6 v3.toNatClampNeg) a1) = 0 then
  some (0 : Int32)
  else
  if a3 < 0 then
  some (1 : Int32)
  else
  bo (f_X12_isAnswer a1 a3 M) fun v5 =>
  if v5 = 0 then
  some (0 : Int32)
  else
  some (1 : Int32)
  else
  some (0 : Int32)
noncomputable def g_X12_laysWants_150 (rc_37 : Int32 → kD → Option kD) (x2_150 : Int32) (M_150 : kD) : Option kD :=
  rc_37 x2_150 M_150
noncomputable def g_X12_laysWants_144 (rc_37 : Int32 → kD → Option kD) (rc_45 : Int32 → Int32 → kD → Option kD) (x2_144 : Int32) (x3_144 : Int32) (M_144 : kD) : Option kD :=
  bd1 (x3_144 + (1 : Int32)) fun v1 =>
  rc_45 x2_144 v1 M_144
noncomputable def g_X12_laysWants_138 (rc_37 : Int32 → kD → Option kD) (rc_45 : Int32 → Int32 → kD → Option kD) (rc_54 : Int32 → Int32 → Int32 → kD → Option kD) (x2_138 : Int32) (x3_138 : Int32) (x4_138 : Int32) (M_138 : kD) : Option kD :=
  bd1 (x4_138 + (1 : Int32)) fun v2 =>
  rc_54 x2_138 x3_138 v2 M_138
noncomputable def g_X12_laysWants_54 (rc_37 : Int32 → kD → Option kD) (rc_45 : Int32 → Int32 → kD → Option kD) (rc_54 : Int32 → Int32 → Int32 → kD → Option kD) (x2_54 : Int32) (x3_54 : Int32) (x4_54 : Int32) (M_54 : kD) : Option kD :=
  if (48 : Int32) ≤ x4_54 then
  g_X12_laysWants_144 rc_37 rc_45 x2_54 x3_54 M_54
  else
  if x4_54 < 0 ∨ 48 ≤ x4_54.toNatClampNeg then none else
  if x3_54 < 0 ∨ 48 ≤ x3_54.toNatClampNeg then none else
  if (M_54.1 23 x3_54.toNatClampNeg) ≤ ((M_54.1 23 x4_54.toNatClampNeg) + (1 : Int32)) then
  g_X12_laysWants_138 rc_37 rc_45 rc_54 x2_54 x3_54 x4_54 M_54
  else
  if (M_54.1 6 (0 : Int32).toNatClampNeg) ≤ (x4_54 / (8 : Int32)) then
  g_X12_laysWants_138 rc_37 rc_45 rc_54 x2_54 x3_54 x4_54 M_54
  else
  bo (f_X12_canFollow (x4_54 / (8 : Int32)) (kRem x4_54 (8 : Int32)) (x3_54 / (8 : Int32)) (kRem x3_54 (8 : Int32)) M_54) fun v5 =>
  if v5 = 0 then
  g_X12_laysWants_138 rc_37 rc_45 rc_54 x2_54 x3_54 x4_54 M_54
  else
  if x4_54 < 0 ∨ 48 ≤ x4_54.toNatClampNeg then none else
  if x3_54 < 0 ∨ 48 ≤ x3_54.toNatClampNeg then none else
  bd1 (kI M_54 23 x3_54.toNatClampNeg ((M_54.1 23 x4_54.toNatClampNeg) + (1 : Int32))) fun M9 =>
  g_X12_laysWants_138 rc_37 rc_45 rc_54 (1 : Int32) x3_54 x4_54 M9
noncomputable def g_X12_laysWants_45 (rc_37 : Int32 → kD → Option kD) (rc_45 : Int32 → Int32 → kD → Option kD) (x2_45 : Int32) (x3_45 : Int32) (M_45 : kD) : Option kD :=
  if (48 : Int32) ≤ x3_45 then
  g_X12_laysWants_150 rc_37 x2_45 M_45
  else
  lp (fun _ _ _ _ => none) (g_X12_laysWants_54 rc_37 rc_45) 2000 x2_45 x3_45 (0 : Int32) M_45
noncomputable def g_X12_laysWants_37 (rc_37 : Int32 → kD → Option kD) (x2_37 : Int32) (M_37 : kD) : Option kD :=
  if x2_37 = 0 then
  some M_37
  else
  lp (fun _ _ _ => none) (g_X12_laysWants_45 rc_37) 2000 (0 : Int32) (0 : Int32) M_37
noncomputable def g_X12_laysWants_35 (M_35 : kD) : Option kD :=
  lp (fun _ _ => none) (g_X12_laysWants_37) 2000 (1 : Int32) M_35
noncomputable def g_X12_laysWants_28 (rc_2 : Int32 → Int32 → kD → Option kD) (x1_28 : Int32) (x2_28 : Int32) (t1_28 : Int32) (t2_28 : Int32) (M_28 : kD) : Option kD :=
  if t1_28 < 0 ∨ 48 ≤ t1_28.toNatClampNeg then none else
  bd1 (kI M_28 23 t1_28.toNatClampNeg t2_28) fun M17 =>
  bd1 (x2_28 + (1 : Int32)) fun v18 =>
  rc_2 x1_28 v18 M17
noncomputable def g_X12_laysWants_2 (rc_2 : Int32 → Int32 → kD → Option kD) (x1_2 : Int32) (x2_2 : Int32) (M_2 : kD) : Option kD :=
  if (48 : Int32) ≤ x2_2 then
  g_X12_laysWants_35  M_2
  else
  if (kRem x2_2 (8 : Int32)) = x1_2 then
  g_X12_laysWants_28 rc_2 x1_2 x2_2 x2_2 (0 : Int32) M_2
  else
  g_X12_laysWants_28 rc_2 x1_2 x2_2 x2_2 (1000000 : Int32) M_2
noncomputable def f_X12_laysWants (a0 : Int32) (M : kD) : Option kD :=
  lp (fun _ _ _ => none) (g_X12_laysWants_2) 2000 a0 (0 : Int32) M
noncomputable def g_X12_followBy_57 (rc_3 : Int32 → Int32 → Int32 → Int32 → Option Int32) (M : kD) (x1_57 : Int32) (x2_57 : Int32) (x3_57 : Int32) (x4_57 : Int32) : Option Int32 :=
  bd1 (x4_57 + (1 : Int32)) fun v1 =>
  rc_3 x1_57 x2_57 x3_57 v1
noncomputable def g_X12_followBy_3 (M : kD) (rc_3 : Int32 → Int32 → Int32 → Int32 → Option Int32) (x1_3 : Int32) (x2_3 : Int32) (x3_3 : Int32) (x4_3 : Int32) : Option Int32 :=
  if (48 : Int32) ≤ x4_3 then
  some (-1 : Int32)
  else
  if (M.1 6 (0 : Int32).toNatClampNeg) ≤ (x4_3 / (8 : Int32)) then
  g_X12_followBy_57 rc_3 M x1_3 x2_3 x3_3 x4_3
  else
  if x4_3 < 0 ∨ 48 ≤ x4_3.toNatClampNeg then none else
  if (M.1 23 x4_3.toNatClampNeg) = x3_3 then
  bo (f_X12_canFollow (x4_3 / (8 : Int32)) (kRem x4_3 (8 : Int32)) x1_3 x2_3 M) fun v3 =>
  if v3 = 0 then
  g_X12_followBy_57 rc_3 M x1_3 x2_3 x3_3 x4_3
  else
  some x4_3
  else
  g_X12_followBy_57 rc_3 M x1_3 x2_3 x3_3 x4_3
noncomputable def f_X12_followBy (a0 : Int32) (a1 : Int32) (a2 : Int32) (M : kD) : Option Int32 :=
  lp (fun _ _ _ _ => none) (g_X12_followBy_3 M) 2000 a0 a1 a2 (0 : Int32)
noncomputable def g_X12_comes_99 (rc_99 : Int32 → Int32 → Int32 → Int32 → kD → Option (Int32 × kD)) (x2_99 : Int32) (x3_99 : Int32) (x4_99 : Int32) (x5_99 : Int32) (M_99 : kD) : Option (Int32 × kD) :=
  if (M_99.1 0 25) ≤ x5_99 then
  some ((M_99.1 0 25), M_99)
  else
  bo (f_X12_followBy x3_99 x4_99 (x2_99 - x5_99) M_99) fun v1 =>
  if x5_99 < 0 ∨ 48 ≤ x5_99.toNatClampNeg then none else
  bd1 (kI M_99 24 x5_99.toNatClampNeg v1) fun M4 =>
  bd1 (v1 / (8 : Int32)) fun v5 =>
  bd1 (kRem v1 (8 : Int32)) fun v6 =>
  bd1 (x5_99 + (1 : Int32)) fun v7 =>
  rc_99 x2_99 v5 v6 v7 M4
noncomputable def g_X12_comes_60 (x2_60 : Int32) (M_60 : kD) : Option (Int32 × kD) :=
  if x2_60 = (48 : Int32) then
  some ((-1 : Int32), M_60)
  else
  bd1 (kI M_60 0 25 (x2_60 + (1 : Int32))) fun M9 =>
  bd1 ((M9.1 6 (41 : Int32).toNatClampNeg) - (1 : Int32)) fun v10 =>
  bd1 ((M9.1 6 (40 : Int32).toNatClampNeg) - (1 : Int32)) fun v11 =>
  lp (fun _ _ _ _ _ => none) (g_X12_comes_99) 2000 x2_60 v10 v11 (0 : Int32) M9
noncomputable def g_X12_comes_22 (rc_22 : Int32 → kD → Option (Int32 × kD)) (x2_22 : Int32) (M_22 : kD) : Option (Int32 × kD) :=
  if (48 : Int32) ≤ x2_22 then
  g_X12_comes_60 x2_22 M_22
  else
  bo (f_X12_followBy ((M_22.1 6 (41 : Int32).toNatClampNeg) - (1 : Int32)) ((M_22.1 6 (40 : Int32).toNatClampNeg) - (1 : Int32)) x2_22 M_22) fun v13 =>
  if 0 ≤ v13 then
  g_X12_comes_60 x2_22 M_22
  else
  bd1 (x2_22 + (1 : Int32)) fun v15 =>
  rc_22 v15 M_22
noncomputable def f_X12_comes (a0 : Int32) (M : kD) : Option (Int32 × kD) :=
  bd1 (kI M 0 0 (0 : Int32)) fun M18 =>
  bo (f_X12_isPhrase a0 M18) fun v19 =>
  if v19 = 0 then
  some ((-1 : Int32), M18)
  else
  bo (f_X12_laysWants a0 M18) fun M21 =>
  lp (fun _ _ => none) (g_X12_comes_22) 2000 (0 : Int32) M21
noncomputable def f_X12_comesAt (a0 : Int32) (M : kD) : Option (Int32 × kD) :=
  bd1 (kI M 0 0 (0 : Int32)) fun M1 =>
  if (f_X12_isIn a0 (0 : Int32) ((M1.1 0 25) - (1 : Int32))) = 0 then
  some ((-1 : Int32), M1)
  else
  if a0 < 0 ∨ 48 ≤ a0.toNatClampNeg then none else
  some ((M1.1 24 a0.toNatClampNeg), M1)
noncomputable def g_X12_silent_38 (x1_38 : Int32) (M_38 : kD) : Option (Int32 × kD) :=
  bo (f_X12_back M_38) fun M1 =>
  some (x1_38, M1)
noncomputable def g_X12_silent_32 (rc_13 : Int32 → Int32 → kD → Option (Int32 × kD)) (x1_32 : Int32) (x2_32 : Int32) (M_32 : kD) : Option (Int32 × kD) :=
  bd1 (x2_32 + (1 : Int32)) fun v3 =>
  rc_13 x1_32 v3 M_32
noncomputable def g_X12_silent_13 (rc_13 : Int32 → Int32 → kD → Option (Int32 × kD)) (x1_13 : Int32) (x2_13 : Int32) (M_13 : kD) : Option (Int32 × kD) :=
  if (99 : Int32) < x2_13 then
  g_X12_silent_38 x1_13 M_13
  else
  if 0 ≤ x1_13 then
  g_X12_silent_38 x1_13 M_13
  else
  bo2 (f_X12_day M_13) fun v5 M4 =>
  if v5 = 0 then
  g_X12_silent_32 rc_13 x2_13 x2_13 M4
  else
  g_X12_silent_32 rc_13 x1_13 x2_13 M4
noncomputable def f_X12_silent  (M : kD) : Option (Int32 × kD) :=
  bd1 (kI M 0 0 (0 : Int32)) fun M10 =>
  bo (f_X12_tries M10) fun M11 =>
  lp (fun _ _ _ => none) (g_X12_silent_13) 2000 (-1 : Int32) (1 : Int32) M11
noncomputable def g_X12_isRow_13 (M : kD) (rc_13 : Int32 → Int32 → Option Int32) (x1_13 : Int32) (x2_13 : Int32) : Option Int32 :=
  if (M.1 0 3) ≤ x2_13 then
  if ¬ (x1_13 = 0 ∨ x1_13 = 1) then none else
  some x1_13
  else
  if x1_13 = 0 then
  if ¬ (x1_13 = 0 ∨ x1_13 = 1) then none else
  some x1_13
  else
  bo (f_X12_octet x2_13 M) fun v3 =>
  bo (f_X12_isPhrase v3 M) fun v5 =>
  bd1 (x2_13 + (1 : Int32)) fun v7 =>
  rc_13 v5 v7
noncomputable def f_X12_isRow  (M : kD) : Option Int32 :=
  bd1 (f_X12_isIn (M.1 0 3) (1 : Int32) (9 : Int32)) fun v10 =>
  lp (fun _ _ => none) (g_X12_isRow_13 M) 2000 v10 (0 : Int32)
noncomputable def f_X12_isWriter (a0 : Int32) (a1 : Int32) (M : kD) : Option Int32 :=
  bd1 ((9 : Int32) + a0) fun v1 =>
  if v1 < 0 ∨ 279 ≤ v1.toNatClampNeg then none else
  bo (f_X12_octet a1 M) fun v3 =>
  some (f_X12_bitOf (M.1 6 v1.toNatClampNeg) v3)
noncomputable def g_X12_laysWays_247 (rc_127 : Int32 → kD → Option kD) (x1_247 : Int32) (M_247 : kD) : Option kD :=
  bd1 (x1_247 + (-1 : Int32)) fun v1 =>
  rc_127 v1 M_247
noncomputable def g_X12_laysWays_240 (rc_127 : Int32 → kD → Option kD) (rc_133 : Int32 → Int32 → kD → Option kD) (x1_240 : Int32) (x2_240 : Int32) (t1_240 : Int32) (t2_240 : Int32) (M_240 : kD) : Option kD :=
  if t1_240 < 0 ∨ 54 ≤ t1_240.toNatClampNeg then none else
  bd1 (kI M_240 27 t1_240.toNatClampNeg t2_240) fun M3 =>
  bd1 (x2_240 + (1 : Int32)) fun v4 =>
  rc_133 x1_240 v4 M3
noncomputable def g_X12_laysWays_216 (rc_127 : Int32 → kD → Option kD) (rc_133 : Int32 → Int32 → kD → Option kD) (x1_216 : Int32) (x2_216 : Int32) (x3_216 : Int32) (M_216 : kD) : Option kD :=
  bo (f_X12_isWriter x2_216 x1_216 M_216) fun v5 =>
  if v5 = 0 then
  g_X12_laysWays_240 rc_127 rc_133 x1_216 x2_216 (((6 : Int32) * x1_216) + x2_216) (0 : Int32) M_216
  else
  g_X12_laysWays_240 rc_127 rc_133 x1_216 x2_216 (((6 : Int32) * x1_216) + x2_216) x3_216 M_216
noncomputable def g_X12_laysWays_208 (rc_127 : Int32 → kD → Option kD) (rc_133 : Int32 → Int32 → kD → Option kD) (rc_162 : Int32 → Int32 → Int32 → Int32 → kD → Option kD) (x1_208 : Int32) (x2_208 : Int32) (x4_208 : Int32) (t0_208 : Int32) (t1_208 : Int32) (M_208 : kD) : Option kD :=
  bd1 (t0_208 + t1_208) fun v8 =>
  bd1 (x4_208 + (1 : Int32)) fun v9 =>
  rc_162 x1_208 x2_208 v8 v9 M_208
noncomputable def g_X12_laysWays_162 (rc_127 : Int32 → kD → Option kD) (rc_133 : Int32 → Int32 → kD → Option kD) (rc_162 : Int32 → Int32 → Int32 → Int32 → kD → Option kD) (x1_162 : Int32) (x2_162 : Int32) (x3_162 : Int32) (x4_162 : Int32) (M_162 : kD) : Option kD :=
  if (M_162.1 6 (0 : Int32).toNatClampNeg) ≤ x4_162 then
  g_X12_laysWays_216 rc_127 rc_133 x1_162 x2_162 x3_162 M_162
  else
  if ((M_162.1 0 3) - (1 : Int32)) ≤ x1_162 then
  g_X12_laysWays_216 rc_127 rc_133 x1_162 x2_162 x3_162 M_162
  else
  if x4_162 = x2_162 then
  g_X12_laysWays_208 rc_127 rc_133 rc_162 x1_162 x2_162 x4_162 x3_162 (0 : Int32) M_162
  else
  bd1 (((6 : Int32) * (x1_162 + (1 : Int32))) + x4_162) fun v10 =>
  if v10 < 0 ∨ 54 ≤ v10.toNatClampNeg then none else
  g_X12_laysWays_208 rc_127 rc_133 rc_162 x1_162 x2_162 x4_162 x3_162 (M_162.1 27 v10.toNatClampNeg) M_162
noncomputable def g_X12_laysWays_158 (rc_127 : Int32 → kD → Option kD) (rc_133 : Int32 → Int32 → kD → Option kD) (x1_158 : Int32) (x2_158 : Int32) (t0_158 : Int32) (M_158 : kD) : Option kD :=
  lp (fun _ _ _ _ _ => none) (g_X12_laysWays_162 rc_127 rc_133) 2000 x1_158 x2_158 t0_158 (0 : Int32) M_158
noncomputable def g_X12_laysWays_133 (rc_127 : Int32 → kD → Option kD) (rc_133 : Int32 → Int32 → kD → Option kD) (x1_133 : Int32) (x2_133 : Int32) (M_133 : kD) : Option kD :=
  if (M_133.1 6 (0 : Int32).toNatClampNeg) ≤ x2_133 then
  g_X12_laysWays_247 rc_127 x1_133 M_133
  else
  if x1_133 = ((M_133.1 0 3) - (1 : Int32)) then
  g_X12_laysWays_158 rc_127 rc_133 x1_133 x2_133 (1 : Int32) M_133
  else
  g_X12_laysWays_158 rc_127 rc_133 x1_133 x2_133 (0 : Int32) M_133
noncomputable def g_X12_laysWays_127 (rc_127 : Int32 → kD → Option kD) (x1_127 : Int32) (M_127 : kD) : Option kD :=
  if x1_127 < 0 then
  some M_127
  else
  lp (fun _ _ _ => none) (g_X12_laysWays_133 rc_127) 2000 x1_127 (0 : Int32) M_127
noncomputable def g_X12_laysWays_120 (M_120 : kD) : Option kD :=
  bd1 ((M_120.1 0 3) - (1 : Int32)) fun v18 =>
  lp (fun _ _ => none) (g_X12_laysWays_127) 2000 v18 M_120
noncomputable def g_X12_laysWays_114 (rc_2 : Int32 → kD → Option kD) (x1_114 : Int32) (M_114 : kD) : Option kD :=
  bd1 (x1_114 + (1 : Int32)) fun v19 =>
  rc_2 v19 M_114
noncomputable def g_X12_laysWays_107 (rc_2 : Int32 → kD → Option kD) (rc_12 : Int32 → Int32 → kD → Option kD) (x1_107 : Int32) (x2_107 : Int32) (t1_107 : Int32) (t2_107 : Int32) (M_107 : kD) : Option kD :=
  if t1_107 < 0 ∨ 54 ≤ t1_107.toNatClampNeg then none else
  bd1 (kI M_107 26 t1_107.toNatClampNeg t2_107) fun M21 =>
  bd1 (x2_107 + (1 : Int32)) fun v22 =>
  rc_12 x1_107 v22 M21
noncomputable def g_X12_laysWays_83 (rc_2 : Int32 → kD → Option kD) (rc_12 : Int32 → Int32 → kD → Option kD) (x1_83 : Int32) (x2_83 : Int32) (x3_83 : Int32) (M_83 : kD) : Option kD :=
  bo (f_X12_isWriter x2_83 x1_83 M_83) fun v23 =>
  if v23 = 0 then
  g_X12_laysWays_107 rc_2 rc_12 x1_83 x2_83 (((6 : Int32) * x1_83) + x2_83) (0 : Int32) M_83
  else
  g_X12_laysWays_107 rc_2 rc_12 x1_83 x2_83 (((6 : Int32) * x1_83) + x2_83) x3_83 M_83
noncomputable def g_X12_laysWays_75 (rc_2 : Int32 → kD → Option kD) (rc_12 : Int32 → Int32 → kD → Option kD) (rc_35 : Int32 → Int32 → Int32 → Int32 → kD → Option kD) (x1_75 : Int32) (x2_75 : Int32) (x4_75 : Int32) (t0_75 : Int32) (t1_75 : Int32) (M_75 : kD) : Option kD :=
  bd1 (t0_75 + t1_75) fun v26 =>
  bd1 (x4_75 + (1 : Int32)) fun v27 =>
  rc_35 x1_75 x2_75 v26 v27 M_75
noncomputable def g_X12_laysWays_35 (rc_2 : Int32 → kD → Option kD) (rc_12 : Int32 → Int32 → kD → Option kD) (rc_35 : Int32 → Int32 → Int32 → Int32 → kD → Option kD) (x1_35 : Int32) (x2_35 : Int32) (x3_35 : Int32) (x4_35 : Int32) (M_35 : kD) : Option kD :=
  if (M_35.1 6 (0 : Int32).toNatClampNeg) ≤ x4_35 then
  g_X12_laysWays_83 rc_2 rc_12 x1_35 x2_35 x3_35 M_35
  else
  if x1_35 ≤ 0 then
  g_X12_laysWays_83 rc_2 rc_12 x1_35 x2_35 x3_35 M_35
  else
  if x4_35 = x2_35 then
  g_X12_laysWays_75 rc_2 rc_12 rc_35 x1_35 x2_35 x4_35 x3_35 (0 : Int32) M_35
  else
  bd1 (((6 : Int32) * (x1_35 - (1 : Int32))) + x4_35) fun v28 =>
  if v28 < 0 ∨ 54 ≤ v28.toNatClampNeg then none else
  g_X12_laysWays_75 rc_2 rc_12 rc_35 x1_35 x2_35 x4_35 x3_35 (M_35.1 26 v28.toNatClampNeg) M_35
noncomputable def g_X12_laysWays_31 (rc_2 : Int32 → kD → Option kD) (rc_12 : Int32 → Int32 → kD → Option kD) (x1_31 : Int32) (x2_31 : Int32) (t0_31 : Int32) (M_31 : kD) : Option kD :=
  lp (fun _ _ _ _ _ => none) (g_X12_laysWays_35 rc_2 rc_12) 2000 x1_31 x2_31 t0_31 (0 : Int32) M_31
noncomputable def g_X12_laysWays_12 (rc_2 : Int32 → kD → Option kD) (rc_12 : Int32 → Int32 → kD → Option kD) (x1_12 : Int32) (x2_12 : Int32) (M_12 : kD) : Option kD :=
  if (M_12.1 6 (0 : Int32).toNatClampNeg) ≤ x2_12 then
  g_X12_laysWays_114 rc_2 x1_12 M_12
  else
  if x1_12 = 0 then
  g_X12_laysWays_31 rc_2 rc_12 x1_12 x2_12 (1 : Int32) M_12
  else
  g_X12_laysWays_31 rc_2 rc_12 x1_12 x2_12 (0 : Int32) M_12
noncomputable def g_X12_laysWays_2 (rc_2 : Int32 → kD → Option kD) (x1_2 : Int32) (M_2 : kD) : Option kD :=
  if (M_2.1 0 3) ≤ x1_2 then
  g_X12_laysWays_120  M_2
  else
  lp (fun _ _ _ => none) (g_X12_laysWays_12 rc_2) 2000 x1_2 (0 : Int32) M_2
noncomputable def f_X12_laysWays  (M : kD) : Option kD :=
  lp (fun _ _ => none) (g_X12_laysWays_2) 2000 (0 : Int32) M
noncomputable def g_X12_mostAt_51 (rc_4 : Int32 → Int32 → Int32 → Option Int32) (M : kD) (x1_51 : Int32) (x3_51 : Int32) (t0_51 : Int32) (t1_51 : Int32) : Option Int32 :=
  bd1 (f_X12_greater t0_51 t1_51) fun v1 =>
  bd1 (x3_51 + (1 : Int32)) fun v2 =>
  rc_4 x1_51 v1 v2
noncomputable def g_X12_mostAt_4 (M : kD) (rc_4 : Int32 → Int32 → Int32 → Option Int32) (x1_4 : Int32) (x2_4 : Int32) (x3_4 : Int32) : Option Int32 :=
  if (M.1 6 (0 : Int32).toNatClampNeg) ≤ x3_4 then
  some x2_4
  else
  bo (f_X12_isWriter x3_4 x1_4 M) fun v3 =>
  if v3 = 0 then
  g_X12_mostAt_51 rc_4 M x1_4 x3_4 x2_4 (0 : Int32)
  else
  bd1 (((6 : Int32) * x1_4) + x3_4) fun v5 =>
  if v5 < 0 ∨ 54 ≤ v5.toNatClampNeg then none else
  bd1 (((6 : Int32) * x1_4) + x3_4) fun v7 =>
  if v7 < 0 ∨ 54 ≤ v7.toNatClampNeg then none else
  g_X12_mostAt_51 rc_4 M x1_4 x3_4 x2_4 ((M.1 26 v5.toNatClampNeg) * (M.1 27 v7.toNatClampNeg))
noncomputable def f_X12_mostAt (a0 : Int32) (M : kD) : Option Int32 :=
  lp (fun _ _ _ => none) (g_X12_mostAt_4 M) 2000 a0 (0 : Int32) (0 : Int32)
noncomputable def g_X12_ways_163 (rc_134 : Int32 → Int32 → kD → Option (Int32 × kD)) (x1_163 : Int32) (x3_163 : Int32) (M_163 : kD) : Option (Int32 × kD) :=
  bd1 (x3_163 + (1 : Int32)) fun v1 =>
  rc_134 x1_163 v1 M_163
noncomputable def g_X12_ways_134 (rc_134 : Int32 → Int32 → kD → Option (Int32 × kD)) (x1_134 : Int32) (x3_134 : Int32) (M_134 : kD) : Option (Int32 × kD) :=
  if (M_134.1 0 3) ≤ x3_134 then
  some (x1_134, M_134)
  else
  bo (f_X12_mostAt x3_134 M_134) fun v2 =>
  bo (f_X12_mostAt (M_134.1 0 30) M_134) fun v4 =>
  if v4 ≤ v2 then
  g_X12_ways_163 rc_134 x1_134 x3_134 M_134
  else
  bd1 (kI M_134 0 30 x3_134) fun M6 =>
  g_X12_ways_163 rc_134 x1_134 x3_134 M6
noncomputable def g_X12_ways_127 (x1_127 : Int32) (M_127 : kD) : Option (Int32 × kD) :=
  bd1 (kI M_127 0 30 (0 : Int32)) fun M9 =>
  lp (fun _ _ _ => none) (g_X12_ways_134) 2000 x1_127 (1 : Int32) M9
noncomputable def g_X12_ways_110 (rc_72 : Int32 → Int32 → Int32 → kD → Option (Int32 × kD)) (x1_110 : Int32) (x3_110 : Int32) (x4_110 : Int32) (M_110 : kD) : Option (Int32 × kD) :=
  if x3_110 < 0 ∨ 9 ≤ x3_110.toNatClampNeg then none else
  bd1 (kI M_110 28 x3_110.toNatClampNeg x4_110) fun M11 =>
  bd1 (x3_110 + (1 : Int32)) fun v12 =>
  rc_72 x1_110 x4_110 v12 M11
noncomputable def g_X12_ways_104 (rc_72 : Int32 → Int32 → Int32 → kD → Option (Int32 × kD)) (rc_83 : Int32 → Int32 → Int32 → Int32 → kD → Option (Int32 × kD)) (x1_104 : Int32) (x2_104 : Int32) (x3_104 : Int32) (x4_104 : Int32) (M_104 : kD) : Option (Int32 × kD) :=
  bd1 (x4_104 + (1 : Int32)) fun v13 =>
  rc_83 x1_104 x2_104 x3_104 v13 M_104
noncomputable def g_X12_ways_83 (rc_72 : Int32 → Int32 → Int32 → kD → Option (Int32 × kD)) (rc_83 : Int32 → Int32 → Int32 → Int32 → kD → Option (Int32 × kD)) (x1_83 : Int32) (x2_83 : Int32) (x3_83 : Int32) (x4_83 : Int32) (M_83 : kD) : Option (Int32 × kD) :=
  if x4_83 = x2_83 then
  g_X12_ways_104 rc_72 rc_83 x1_83 x2_83 x3_83 x4_83 M_83
  else
  bd1 (((6 : Int32) * x3_83) + x4_83) fun v14 =>
  if v14 < 0 ∨ 54 ≤ v14.toNatClampNeg then none else
  if (M_83.1 27 v14.toNatClampNeg) = 0 then
  g_X12_ways_104 rc_72 rc_83 x1_83 x2_83 x3_83 x4_83 M_83
  else
  g_X12_ways_110 rc_72 x1_83 x3_83 x4_83 M_83
noncomputable def g_X12_ways_72 (rc_72 : Int32 → Int32 → Int32 → kD → Option (Int32 × kD)) (x1_72 : Int32) (x2_72 : Int32) (x3_72 : Int32) (M_72 : kD) : Option (Int32 × kD) :=
  if (M_72.1 0 3) ≤ x3_72 then
  g_X12_ways_127 x1_72 M_72
  else
  lp (fun _ _ _ _ _ => none) (g_X12_ways_83 rc_72) 2000 x1_72 x2_72 x3_72 (0 : Int32) M_72
noncomputable def g_X12_ways_54 (x1_54 : Int32) (M_54 : kD) : Option (Int32 × kD) :=
  if x1_54 = 0 then
  some ((0 : Int32), M_54)
  else
  bd1 (kI M_54 0 29 (M_54.1 0 3)) fun M19 =>
  lp (fun _ _ _ _ => none) (g_X12_ways_72) 2000 x1_54 (-1 : Int32) (0 : Int32) M19
noncomputable def g_X12_ways_29 (rc_29 : Int32 → Int32 → kD → Option (Int32 × kD)) (x1_29 : Int32) (x2_29 : Int32) (M_29 : kD) : Option (Int32 × kD) :=
  if (M_29.1 6 (0 : Int32).toNatClampNeg) ≤ x2_29 then
  g_X12_ways_54 x1_29 M_29
  else
  if x2_29 < 0 ∨ 54 ≤ x2_29.toNatClampNeg then none else
  bd1 (x1_29 + (M_29.1 27 x2_29.toNatClampNeg)) fun v22 =>
  bd1 (x2_29 + (1 : Int32)) fun v23 =>
  rc_29 v22 v23 M_29
noncomputable def f_X12_ways  (M : kD) : Option (Int32 × kD) :=
  bd1 (kI M 0 0 (0 : Int32)) fun M25 =>
  bo (f_X12_taken (940 : Int32) M25) fun M26 =>
  bo (f_X12_isRow M26) fun v28 =>
  if v28 = 0 then
  some ((-1 : Int32), M26)
  else
  bo (f_X12_laysWays M26) fun M30 =>
  lp (fun _ _ _ => none) (g_X12_ways_29) 2000 (0 : Int32) (0 : Int32) M30
noncomputable def f_X12_waysAt (a0 : Int32) (M : kD) : Option (Int32 × kD) :=
  bd1 (kI M 0 0 (0 : Int32)) fun M1 =>
  if (f_X12_isIn a0 (0 : Int32) ((M1.1 0 29) - (1 : Int32))) = 0 then
  some ((-1 : Int32), M1)
  else
  if a0 < 0 ∨ 9 ≤ a0.toNatClampNeg then none else
  some ((M1.1 28 a0.toNatClampNeg), M1)
noncomputable def f_X12_ask  (M : kD) : Option (Int32 × kD) :=
  bd1 (kI M 0 0 (0 : Int32)) fun M1 =>
  if (M1.1 0 29) ≤ 0 then
  some ((-1 : Int32), M1)
  else
  some ((M1.1 0 30), M1)
noncomputable def g_X12_lacks_100 (rc_28 : Int64 → Int32 → Int32 → kD → Option (Int32 × kD)) (x1_100 : Int64) (x3_100 : Int32) (x4_100 : Int32) (M_100 : kD) : Option (Int32 × kD) :=
  bd1 (x4_100 + (1 : Int32)) fun v1 =>
  rc_28 x1_100 x3_100 v1 M_100
noncomputable def g_X12_lacks_28 (rc_28 : Int64 → Int32 → Int32 → kD → Option (Int32 × kD)) (x1_28 : Int64) (x3_28 : Int32) (x4_28 : Int32) (M_28 : kD) : Option (Int32 × kD) :=
  if (M_28.1 0 3) ≤ x4_28 then
  some (x3_28, M_28)
  else
  bo (f_X12_octet x4_28 M_28) fun v2 =>
  bo (f_X12_octet (x4_28 - (1 : Int32)) M_28) fun v4 =>
  bd1 ((1 : Int64) <<< ((((8 : Int32) * v2) + v4).toInt64 &&& 63)) fun v6 =>
  bo (f_X12_octet x4_28 M_28) fun v7 =>
  bo (f_X12_octet (x4_28 - (1 : Int32)) M_28) fun v9 =>
  bo (f_X12_isAnswer v7 v9 M_28) fun v11 =>
  if v11 = 0 then
  if (lg_cmp (x1_28 &&& v6) (0 : Int64)) = 0 then
  bd1 (x1_28 ||| v6) fun v13 =>
  bd1 (x3_28 + (1 : Int32)) fun v14 =>
  g_X12_lacks_100 rc_28 v13 v14 x4_28 M_28
  else
  g_X12_lacks_100 rc_28 x1_28 x3_28 x4_28 M_28
  else
  g_X12_lacks_100 rc_28 x1_28 x3_28 x4_28 M_28
noncomputable def f_X12_lacks  (M : kD) : Option (Int32 × kD) :=
  bd1 (kI M 0 0 (0 : Int32)) fun M18 =>
  bo (f_X12_taken (940 : Int32) M18) fun M19 =>
  bo (f_X12_isRow M19) fun v21 =>
  if v21 = 0 then
  some ((-1 : Int32), M19)
  else
  lp (fun _ _ _ _ => none) (g_X12_lacks_28) 2000 (0 : Int64) (0 : Int32) (1 : Int32) M19
noncomputable def g_X12_longOf_28 (rc_4 : Int64 → Int32 → Int32 → Option Int32) (x0_28 : Int64) (x3_28 : Int32) (t0_28 : Int32) (t1_28 : Int32) : Option Int32 :=
  bd1 (t0_28 + t1_28) fun v1 =>
  bd1 (x3_28 + (8 : Int32)) fun v2 =>
  rc_4 x0_28 v1 v2
noncomputable def g_X12_longOf_4 (rc_4 : Int64 → Int32 → Int32 → Option Int32) (x0_4 : Int64) (x2_4 : Int32) (x3_4 : Int32) : Option Int32 :=
  if (64 : Int32) ≤ x3_4 then
  some x2_4
  else
  if (lg_cmp ((x0_4 >>> (x3_4.toInt64 &&& 63)) &&& (255 : Int64)) (0 : Int64)) = 0 then
  g_X12_longOf_28 rc_4 x0_4 x3_4 x2_4 (0 : Int32)
  else
  g_X12_longOf_28 rc_4 x0_4 x3_4 x2_4 (1 : Int32)
noncomputable def f_X12_longOf (a0 : Int64) : Option Int32 :=
  lp (fun _ _ _ => none) (g_X12_longOf_4) 2000 a0 (0 : Int32) (0 : Int32)
noncomputable def f_X12_letterOf (a0 : Int32) (a1 : Int32) (M : kD) : Option Int32 :=
  bd1 ((6 : Int32) + a0) fun v1 =>
  if v1 < 0 ∨ 28 ≤ v1.toNatClampNeg then none else
  bd1 (M.2 9 v1.toNatClampNeg) fun v3 =>
  bo (f_X12_longOf v3) fun v4 =>
  some (((v3 >>> (((8 : Int32) * ((v4 - (1 : Int32)) - a1)).toInt64 &&& 63)) &&& (255 : Int64)).toInt32)
noncomputable def g_X12_isFaint_68 (rc_27 : Int32 → Int32 → Int32 → Option Int32) (M : kD) (x1_68 : Int32) (x3_68 : Int32) (t0_68 : Int32) : Option Int32 :=
  bd1 (x3_68 + (1 : Int32)) fun v1 =>
  rc_27 x1_68 t0_68 v1
noncomputable def g_X12_isFaint_63 (rc_27 : Int32 → Int32 → Int32 → Option Int32) (M : kD) (x1_63 : Int32) (x3_63 : Int32) : Option Int32 :=
  g_X12_isFaint_68 rc_27 M x1_63 x3_63 (1 : Int32)
noncomputable def g_X12_isFaint_27 (M : kD) (rc_27 : Int32 → Int32 → Int32 → Option Int32) (x1_27 : Int32) (x2_27 : Int32) (x3_27 : Int32) : Option Int32 :=
  if (M.1 0 3) ≤ x3_27 then
  if ¬ (x2_27 = 0 ∨ x2_27 = 1) then none else
  some x2_27
  else
  if x2_27 = 0 then
  if ¬ (x2_27 = 0 ∨ x2_27 = 1) then none else
  some x2_27
  else
  bo (f_X12_octet x3_27 M) fun v4 =>
  if v4 = (63 : Int32) then
  g_X12_isFaint_63 rc_27 M x1_27 x3_27
  else
  bo (f_X12_octet x3_27 M) fun v6 =>
  bo (f_X12_letterOf x1_27 x3_27 M) fun v8 =>
  if v6 = v8 then
  g_X12_isFaint_63 rc_27 M x1_27 x3_27
  else
  g_X12_isFaint_68 rc_27 M x1_27 x3_27 (0 : Int32)
noncomputable def g_X12_isFaint_24 (M : kD) (x1_24 : Int32) (t0_24 : Int32) : Option Int32 :=
  lp (fun _ _ _ => none) (g_X12_isFaint_27 M) 2000 x1_24 t0_24 (0 : Int32)
noncomputable def f_X12_isFaint (a0 : Int32) (M : kD) : Option Int32 :=
  bd1 ((6 : Int32) + a0) fun v14 =>
  if v14 < 0 ∨ 28 ≤ v14.toNatClampNeg then none else
  bo (f_X12_longOf (M.2 9 v14.toNatClampNeg)) fun v16 =>
  if v16 = (M.1 0 3) then
  g_X12_isFaint_24 M a0 (1 : Int32)
  else
  g_X12_isFaint_24 M a0 (0 : Int32)
noncomputable def g_X12_leftBy_84 (rc_5 : Int32 → Int32 → Int32 → Int32 → Option Int32) (M : kD) (x1_84 : Int32) (x2_84 : Int32) (x3_84 : Int32) (x4_84 : Int32) (x5_84 : Int32) : Option Int32 :=
  bd1 (f_X12_greater x3_84 x5_84) fun v1 =>
  bd1 (x4_84 + (1 : Int32)) fun v2 =>
  rc_5 x1_84 x2_84 v1 v2
noncomputable def g_X12_leftBy_75 (rc_5 : Int32 → Int32 → Int32 → Int32 → Option Int32) (rc_22 : Int32 → Int32 → Int32 → Int32 → Int32 → Int32 → Option Int32) (M : kD) (x1_75 : Int32) (x2_75 : Int32) (x3_75 : Int32) (x4_75 : Int32) (x6_75 : Int32) (t0_75 : Int32) (t1_75 : Int32) : Option Int32 :=
  bd1 (t0_75 + t1_75) fun v3 =>
  bd1 (x6_75 + (1 : Int32)) fun v4 =>
  rc_22 x1_75 x2_75 x3_75 x4_75 v3 v4
noncomputable def g_X12_leftBy_74 (rc_5 : Int32 → Int32 → Int32 → Int32 → Option Int32) (rc_22 : Int32 → Int32 → Int32 → Int32 → Int32 → Int32 → Option Int32) (M : kD) (x1_74 : Int32) (x2_74 : Int32) (x3_74 : Int32) (x4_74 : Int32) (x6_74 : Int32) (t0_74 : Int32) : Option Int32 :=
  g_X12_leftBy_75 rc_5 rc_22 M x1_74 x2_74 x3_74 x4_74 x6_74 t0_74 (0 : Int32)
noncomputable def g_X12_leftBy_22 (rc_5 : Int32 → Int32 → Int32 → Int32 → Option Int32) (M : kD) (rc_22 : Int32 → Int32 → Int32 → Int32 → Int32 → Int32 → Option Int32) (x1_22 : Int32) (x2_22 : Int32) (x3_22 : Int32) (x4_22 : Int32) (x5_22 : Int32) (x6_22 : Int32) : Option Int32 :=
  if (M.1 6 (1 : Int32).toNatClampNeg) ≤ x6_22 then
  g_X12_leftBy_84 rc_5 M x1_22 x2_22 x3_22 x4_22 x5_22
  else
  if (f_X12_bitOf x1_22 x4_22) = 0 then
  g_X12_leftBy_74 rc_5 rc_22 M x1_22 x2_22 x3_22 x4_22 x6_22 x5_22
  else
  if (f_X12_bitOf x1_22 x6_22) = 0 then
  g_X12_leftBy_74 rc_5 rc_22 M x1_22 x2_22 x3_22 x4_22 x6_22 x5_22
  else
  bo (f_X12_letterOf x4_22 x2_22 M) fun v5 =>
  bo (f_X12_letterOf x6_22 x2_22 M) fun v7 =>
  if v5 = v7 then
  g_X12_leftBy_75 rc_5 rc_22 M x1_22 x2_22 x3_22 x4_22 x6_22 x5_22 (1 : Int32)
  else
  g_X12_leftBy_74 rc_5 rc_22 M x1_22 x2_22 x3_22 x4_22 x6_22 x5_22
noncomputable def g_X12_leftBy_5 (M : kD) (rc_5 : Int32 → Int32 → Int32 → Int32 → Option Int32) (x1_5 : Int32) (x2_5 : Int32) (x3_5 : Int32) (x4_5 : Int32) : Option Int32 :=
  if (M.1 6 (1 : Int32).toNatClampNeg) ≤ x4_5 then
  some x3_5
  else
  lp (fun _ _ _ _ _ _ => none) (g_X12_leftBy_22 rc_5 M) 2000 x1_5 x2_5 x3_5 x4_5 (0 : Int32) (0 : Int32)
noncomputable def f_X12_leftBy (a0 : Int32) (a1 : Int32) (M : kD) : Option Int32 :=
  lp (fun _ _ _ _ => none) (g_X12_leftBy_5 M) 2000 a0 a1 (0 : Int32) (0 : Int32)
noncomputable def g_X12_faint_157 (rc_126 : Int32 → Int32 → kD → Option (Int32 × kD)) (x1_157 : Int32) (x2_157 : Int32) (M_157 : kD) : Option (Int32 × kD) :=
  bd1 (x2_157 + (1 : Int32)) fun v1 =>
  rc_126 x1_157 v1 M_157
noncomputable def g_X12_faint_126 (rc_126 : Int32 → Int32 → kD → Option (Int32 × kD)) (x1_126 : Int32) (x2_126 : Int32) (M_126 : kD) : Option (Int32 × kD) :=
  if (M_126.1 0 3) ≤ x2_126 then
  some (x1_126, M_126)
  else
  bo (f_X12_leftBy x1_126 x2_126 M_126) fun v2 =>
  bo (f_X12_leftBy x1_126 (M_126.1 0 31) M_126) fun v4 =>
  if v4 ≤ v2 then
  g_X12_faint_157 rc_126 x1_126 x2_126 M_126
  else
  bd1 (kI M_126 0 31 x2_126) fun M6 =>
  g_X12_faint_157 rc_126 x1_126 x2_126 M6
noncomputable def g_X12_faint_108 (x1_108 : Int32) (M_108 : kD) : Option (Int32 × kD) :=
  if x1_108 = 0 then
  some ((0 : Int32), M_108)
  else
  bd1 (kI M_108 0 32 (1 : Int32)) fun M9 =>
  bd1 (kI M9 0 31 (0 : Int32)) fun M10 =>
  lp (fun _ _ _ => none) (g_X12_faint_126) 2000 x1_108 (1 : Int32) M10
noncomputable def g_X12_faint_100 (rc_74 : Int32 → Int32 → kD → Option (Int32 × kD)) (x2_100 : Int32) (t0_100 : Int32) (t1_100 : Int32) (M_100 : kD) : Option (Int32 × kD) :=
  bd1 (t0_100 ||| t1_100) fun v12 =>
  bd1 (x2_100 + (1 : Int32)) fun v13 =>
  rc_74 v12 v13 M_100
noncomputable def g_X12_faint_74 (rc_74 : Int32 → Int32 → kD → Option (Int32 × kD)) (x1_74 : Int32) (x2_74 : Int32) (M_74 : kD) : Option (Int32 × kD) :=
  if (M_74.1 6 (1 : Int32).toNatClampNeg) ≤ x2_74 then
  g_X12_faint_108 x1_74 M_74
  else
  bo (f_X12_isFaint x2_74 M_74) fun v14 =>
  if v14 = 0 then
  g_X12_faint_100 rc_74 x2_74 x1_74 (0 : Int32) M_74
  else
  g_X12_faint_100 rc_74 x2_74 x1_74 ((1 : Int32) <<< (x2_74 &&& 31)) M_74
noncomputable def g_X12_faint_70 (M_70 : kD) : Option (Int32 × kD) :=
  lp (fun _ _ _ => none) (g_X12_faint_74) 2000 (0 : Int32) (0 : Int32) M_70
noncomputable def g_X12_faint_64 (rc_29 : Int32 → kD → Option (Int32 × kD)) (x1_64 : Int32) (M_64 : kD) : Option (Int32 × kD) :=
  bd1 (x1_64 + (1 : Int32)) fun v18 =>
  rc_29 v18 M_64
noncomputable def g_X12_faint_29 (rc_29 : Int32 → kD → Option (Int32 × kD)) (x1_29 : Int32) (M_29 : kD) : Option (Int32 × kD) :=
  if (M_29.1 0 3) ≤ x1_29 then
  g_X12_faint_70  M_29
  else
  bo (f_X12_octet x1_29 M_29) fun v19 =>
  if v19 = (63 : Int32) then
  g_X12_faint_64 rc_29 x1_29 M_29
  else
  bo (f_X12_octet x1_29 M_29) fun v21 =>
  if (f_X12_isIn v21 (97 : Int32) (122 : Int32)) = 0 then
  some ((-1 : Int32), M_29)
  else
  g_X12_faint_64 rc_29 x1_29 M_29
noncomputable def f_X12_faint  (M : kD) : Option (Int32 × kD) :=
  bd1 (kI M 0 0 (0 : Int32)) fun M26 =>
  bo (f_X12_taken (940 : Int32) M26) fun M27 =>
  if (f_X12_isIn (M27.1 0 3) (1 : Int32) (7 : Int32)) = 0 then
  some ((-1 : Int32), M27)
  else
  lp (fun _ _ => none) (g_X12_faint_29) 2000 (0 : Int32) M27
noncomputable def f_X12_look  (M : kD) : Option (Int32 × kD) :=
  bd1 (kI M 0 0 (0 : Int32)) fun M1 =>
  if (M1.1 0 32) = 0 then
  some ((-1 : Int32), M1)
  else
  some ((M1.1 0 31), M1)
noncomputable def g_X12_common_4 (rc_4 : Int32 → Int32 → Option Int32) (x2_4 : Int32) (x3_4 : Int32) : Option Int32 :=
  if x3_4 = 0 then
  some x2_4
  else
  if x3_4 = 0 then none else
  bd1 (kRem x2_4 x3_4) fun v2 =>
  rc_4 x3_4 v2
noncomputable def f_X12_common (a0 : Int32) (a1 : Int32) : Option Int32 :=
  lp (fun _ _ => none) (g_X12_common_4) 2000 a0 a1
noncomputable def g_X12_ship_119 (x1_119 : Int32) (M_119 : kD) : Option (Int32 × kD) :=
  if x1_119 ≤ (99999999 : Int32) then
  some (x1_119, M_119)
  else
  some ((-1 : Int32), M_119)
noncomputable def g_X12_ship_112 (rc_63 : Int32 → Int32 → kD → Option (Int32 × kD)) (x2_112 : Int32) (t0_112 : Int32) (M_112 : kD) : Option (Int32 × kD) :=
  bd1 (x2_112 + (1 : Int32)) fun v2 =>
  rc_63 t0_112 v2 M_112
noncomputable def g_X12_ship_63 (rc_63 : Int32 → Int32 → kD → Option (Int32 × kD)) (x1_63 : Int32) (x2_63 : Int32) (M_63 : kD) : Option (Int32 × kD) :=
  if (M_63.1 0 3) ≤ x2_63 then
  g_X12_ship_119 x1_63 M_63
  else
  if (99999999 : Int32) < x1_63 then
  g_X12_ship_119 x1_63 M_63
  else
  bo (f_X12_octet x2_63 M_63) fun v3 =>
  bo (f_X12_octet x2_63 M_63) fun v5 =>
  bo (f_X12_common v5 x1_63) fun v7 =>
  if v7 = 0 then none else
  bd1 (v3 / v7) fun v10 =>
  if v10 = 0 then none else
  if x1_63 ≤ ((99999999 : Int32) / v10) then
  g_X12_ship_112 rc_63 x2_63 (x1_63 * v10) M_63
  else
  g_X12_ship_112 rc_63 x2_63 (100000000 : Int32) M_63
noncomputable def g_X12_ship_59 (M_59 : kD) : Option (Int32 × kD) :=
  lp (fun _ _ _ => none) (g_X12_ship_63) 2000 (1 : Int32) (0 : Int32) M_59
noncomputable def g_X12_ship_29 (rc_29 : Int32 → kD → Option (Int32 × kD)) (x1_29 : Int32) (M_29 : kD) : Option (Int32 × kD) :=
  if (M_29.1 0 3) ≤ x1_29 then
  g_X12_ship_59  M_29
  else
  bo (f_X12_octet x1_29 M_29) fun v15 =>
  if (f_X12_isIn v15 (1 : Int32) (60 : Int32)) = 0 then
  some ((-1 : Int32), M_29)
  else
  bd1 (x1_29 + (1 : Int32)) fun v17 =>
  rc_29 v17 M_29
noncomputable def f_X12_ship  (M : kD) : Option (Int32 × kD) :=
  bd1 (kI M 0 0 (0 : Int32)) fun M20 =>
  bo (f_X12_taken (940 : Int32) M20) fun M21 =>
  if (f_X12_isIn (M21.1 0 3) (1 : Int32) (6 : Int32)) = 0 then
  some ((-1 : Int32), M21)
  else
  lp (fun _ _ => none) (g_X12_ship_29) 2000 (0 : Int32) M21
noncomputable def g_X12_part_62 (x1_62 : Int32) (t0_62 : Int32) (M_62 : kD) : Option (Int32 × kD) :=
  bo (f_X12_sumOf (56 : Int32) M_62) fun v1 =>
  bd1 ((56 : Int32) + x1_62) fun v3 =>
  if v3 < 0 ∨ 279 ≤ v3.toNatClampNeg then none else
  bo (f_X12_common v1 (M_62.1 6 v3.toNatClampNeg)) fun v5 =>
  if v5 = 0 then none else
  some ((t0_62 / v5), M_62)
noncomputable def g_X12_part_32 (x1_32 : Int32) (x2_32 : Int32) (t1_32 : Int32) (M_32 : kD) : Option (Int32 × kD) :=
  bo2 (f_X12_throwsIf t1_32 M_32) fun v9 M8 =>
  if v9 = 0 then
  if x2_32 = 0 then
  bd1 ((56 : Int32) + x1_32) fun v13 =>
  if v13 < 0 ∨ 279 ≤ v13.toNatClampNeg then none else
  g_X12_part_62 x1_32 (M8.1 6 v13.toNatClampNeg) M8
  else
  bo (f_X12_sumOf (56 : Int32) M8) fun v11 =>
  g_X12_part_62 x1_32 v11 M8
  else
  some ((0 : Int32), M8)
noncomputable def g_X12_part_27 (x1_27 : Int32) (x2_27 : Int32) (M_27 : kD) : Option (Int32 × kD) :=
  g_X12_part_32 x1_27 x2_27 (1 : Int32) M_27
noncomputable def f_X12_part (a0 : Int32) (a1 : Int32) (M : kD) : Option (Int32 × kD) :=
  bo (f_X12_isMachine a0 M) fun v17 =>
  if v17 = 0 then
  g_X12_part_27 a0 a1 M
  else
  if (f_X12_isIn a1 (0 : Int32) (1 : Int32)) = 0 then
  g_X12_part_27 a0 a1 M
  else
  bo (f_X12_sumOf (56 : Int32) M) fun v19 =>
  if v19 = 0 then
  g_X12_part_27 a0 a1 M
  else
  g_X12_part_32 a0 a1 (0 : Int32) M
noncomputable def f_X12_lays (a0 : Int32) (M : kD) : Option kD :=
  if (M.1 0 34) < 0 ∨ 48 ≤ (M.1 0 34).toNatClampNeg then none else
  bd1 (kI M 33 (M.1 0 34).toNatClampNeg (vp_nar .byte (kI2b a0))) fun M2 =>
  bd1 (kI M2 0 34 ((M2.1 0 34) + (1 : Int32))) fun M3 =>
  some M3
noncomputable def g_X12_spells_31 (rc_3 : Int64 → Int32 → kD → Option kD) (x1_31 : Int64) (x3_31 : Int32) (M_31 : kD) : Option kD :=
  bd1 (x3_31 + (-8 : Int32)) fun v1 =>
  rc_3 x1_31 v1 M_31
noncomputable def g_X12_spells_3 (rc_3 : Int64 → Int32 → kD → Option kD) (x1_3 : Int64) (x3_3 : Int32) (M_3 : kD) : Option kD :=
  if x3_3 < 0 then
  some M_3
  else
  if (lg_cmp ((x1_3 >>> (x3_3.toInt64 &&& 63)) &&& (255 : Int64)) (0 : Int64)) = 0 then
  g_X12_spells_31 rc_3 x1_3 x3_3 M_3
  else
  bo (f_X12_lays (((x1_3 >>> (x3_3.toInt64 &&& 63)) &&& (255 : Int64)).toInt32) M_3) fun M2 =>
  g_X12_spells_31 rc_3 x1_3 x3_3 M2
noncomputable def f_X12_spells (a0 : Int64) (M : kD) : Option kD :=
  lp (fun _ _ _ => none) (g_X12_spells_3) 2000 a0 (56 : Int32) M
noncomputable def f_X12_says (a0 : Int64) (M : kD) : Option kD :=
  bo (f_X12_lays (32 : Int32) M) fun M1 =>
  bo (f_X12_spells a0 M1) fun M3 =>
  some M3
noncomputable def g_X12_digits_24 (rc_24 : Int32 → Int32 → kD → Option kD) (x1_24 : Int32) (x2_24 : Int32) (M_24 : kD) : Option kD :=
  if x2_24 ≤ 0 then
  some M_24
  else
  if x2_24 = 0 then none else
  bo (f_X12_lays ((48 : Int32) + (kRem (x1_24 / x2_24) (10 : Int32))) M_24) fun M2 =>
  bd1 (x2_24 / (10 : Int32)) fun v4 =>
  rc_24 x1_24 v4 M2
noncomputable def g_X12_digits_8 (rc_8 : Int32 → Int32 → kD → Option kD) (x1_8 : Int32) (x2_8 : Int32) (M_8 : kD) : Option kD :=
  if x2_8 = 0 then none else
  if (x1_8 / x2_8) ≤ (9 : Int32) then
  lp (fun _ _ _ => none) (g_X12_digits_24) 2000 x1_8 x2_8 M_8
  else
  bd1 (x2_8 * (10 : Int32)) fun v7 =>
  rc_8 x1_8 v7 M_8
noncomputable def f_X12_digits (a0 : Int32) (M : kD) : Option kD :=
  bo (f_X12_lays (32 : Int32) M) fun M9 =>
  lp (fun _ _ _ => none) (g_X12_digits_8) 2000 a0 (1 : Int32) M9
noncomputable def f_X12_line (a0 : Int32) (M : kD) : Option (Int32 × kD) :=
  bd1 (kI M 0 0 (0 : Int32)) fun M1 =>
  bo (f_X12_isMachine a0 M1) fun v2 =>
  if v2 = 0 then
  some ((-1 : Int32), M1)
  else
  bd1 (kI M1 0 34 (0 : Int32)) fun M4 =>
  if a0 < 0 ∨ 28 ≤ a0.toNatClampNeg then none else
  bo (f_X12_spells (M4.2 9 a0.toNatClampNeg) M4) fun M6 =>
  bo (f_X12_says (513021015141 : Int64) M6) fun M8 =>
  bd1 ((50 : Int32) + a0) fun v10 =>
  if v10 < 0 ∨ 279 ≤ v10.toNatClampNeg then none else
  bo (f_X12_digits (M8.1 6 v10.toNatClampNeg) M8) fun M12 =>
  bo (f_X12_says (6909547 : Int64) M12) fun M14 =>
  bd1 ((44 : Int32) + a0) fun v16 =>
  if v16 < 0 ∨ 279 ≤ v16.toNatClampNeg then none else
  bo (f_X12_digits (M14.1 6 v16.toNatClampNeg) M14) fun M18 =>
  bo (f_X12_isHeld a0 M18) fun v20 =>
  if v20 = 0 then
  some ((M18.1 0 34), M18)
  else
  bo (f_X12_says (1751477348 : Int64) M18) fun M22 =>
  some ((M22.1 0 34), M22)
noncomputable def f_X12_byteAt (a0 : Int32) (M : kD) : Option (Int32 × kD) :=
  bd1 (kI M 0 0 (0 : Int32)) fun M1 =>
  if (f_X12_isIn a0 (0 : Int32) ((M1.1 0 34) - (1 : Int32))) = 0 then
  some ((-1 : Int32), M1)
  else
  if a0 < 0 ∨ 48 ≤ a0.toNatClampNeg then none else
  some ((M1.1 33 a0.toNatClampNeg), M1)
noncomputable def f_X12_draw (a0 : Int32) (M : kD) : Option (Int32 × kD) :=
  bd1 (kI M 0 35 (((M.1 0 35) * (1103515245 : Int32)) + (12345 : Int32))) fun M1 =>
  if a0 = 0 then none else
  some ((kRem (kUshr (M1.1 0 35) (8 : Int32)) a0), M1)
noncomputable def g_X12_drawDay_81 (x1_81 : Int32) (M_81 : kD) : Option kD :=
  if (f_X12_isIn x1_81 (2 : Int32) (4 : Int32)) = 0 then
  some M_81
  else
  if (M_81.1 6 (1 : Int32).toNatClampNeg) = 0 then
  some M_81
  else
  bo2 (f_X12_draw (M_81.1 6 (0 : Int32).toNatClampNeg) M_81) fun v2 M1 =>
  bo2 (f_X12_draw (M1.1 6 (1 : Int32).toNatClampNeg) M1) fun v5 M4 =>
  bo (f_X12_whyWrite v2 v5 M4) fun v7 =>
  if v7 = 0 then
  bo (f_X12_types v2 v5 M4) fun M9 =>
  some M9
  else
  some M4
noncomputable def g_X12_drawDay_33 (x1_33 : Int32) (M_33 : kD) : Option kD :=
  if x1_33 = (1 : Int32) then
  bo2 (f_X12_draw (M_33.1 6 (0 : Int32).toNatClampNeg) M_33) fun v15 M14 =>
  bo2 (f_X12_draw (60 : Int32) M14) fun v18 M17 =>
  bd1 (v18 + (1 : Int32)) fun v20 =>
  bd1 ((44 : Int32) + v15) fun v21 =>
  if v21 < 0 ∨ 279 ≤ v21.toNatClampNeg then none else
  if v20 ≤ (M17.1 6 v21.toNatClampNeg) then
  g_X12_drawDay_81 x1_33 M17
  else
  if ((44 : Int32) + v15) < 0 ∨ 279 ≤ ((44 : Int32) + v15).toNatClampNeg then none else
  bd1 (kI M17 6 ((44 : Int32) + v15).toNatClampNeg v20) fun M24 =>
  g_X12_drawDay_81 x1_33 M24
  else
  g_X12_drawDay_81 x1_33 M_33
noncomputable def f_X12_drawDay  (M : kD) : Option kD :=
  bo2 (f_X12_draw (8 : Int32) M) fun v28 M27 =>
  if v28 = 0 then
  bo2 (f_X12_draw (M27.1 6 (0 : Int32).toNatClampNeg) M27) fun v31 M30 =>
  bd1 (kI M30 6 (42 : Int32).toNatClampNeg ((M27.1 6 (42 : Int32).toNatClampNeg) ^^^ ((1 : Int32) <<< (v31 &&& 31)))) fun M33 =>
  g_X12_drawDay_33 v28 M33
  else
  g_X12_drawDay_33 v28 M27
noncomputable def g_X12_draws_38 (rc_7 : Int32 → Int32 → kD → Option (Int32 × kD)) (x1_38 : Int32) (x3_38 : Int32) (M_38 : kD) : Option (Int32 × kD) :=
  bo2 (f_X12_day M_38) fun v2 M1 =>
  bd1 (x3_38 + (1 : Int32)) fun v4 =>
  rc_7 x1_38 v4 M1
noncomputable def g_X12_draws_7 (rc_7 : Int32 → Int32 → kD → Option (Int32 × kD)) (x1_7 : Int32) (x3_7 : Int32) (M_7 : kD) : Option (Int32 × kD) :=
  if x1_7 ≤ x3_7 then
  some (x3_7, M_7)
  else
  if (400 : Int32) ≤ (M_7.1 6 (39 : Int32).toNatClampNeg) then
  some (x3_7, M_7)
  else
  if (M_7.1 6 (0 : Int32).toNatClampNeg) ≤ 0 then
  g_X12_draws_38 rc_7 x1_7 x3_7 M_7
  else
  bo (f_X12_drawDay M_7) fun M5 =>
  g_X12_draws_38 rc_7 x1_7 x3_7 M5
noncomputable def f_X12_draws (a0 : Int32) (a1 : Int32) (M : kD) : Option (Int32 × kD) :=
  bd1 (kI M 0 35 a1) fun M10 =>
  lp (fun _ _ _ => none) (g_X12_draws_7) 2000 a0 (0 : Int32) M10
noncomputable def g_X12_drawn_34 (x1_34 : Int32) (x2_34 : Int32) (M_34 : kD) : Option (Int32 × kD) :=
  bo2 (f_X12_draws x1_34 x2_34 M_34) fun v2 M1 =>
  some (v2, M1)
noncomputable def f_X12_drawn (a0 : Int32) (a1 : Int32) (M : kD) : Option (Int32 × kD) :=
  bd1 (kI M 0 0 (0 : Int32)) fun M4 =>
  if (f_X12_isIn a0 (1 : Int32) (60 : Int32)) = 0 then
  some ((-1 : Int32), M4)
  else
  if (400 : Int32) ≤ (M4.1 6 (39 : Int32).toNatClampNeg) then
  g_X12_drawn_34 a0 a1 M4
  else
  bo (f_X12_keep M4) fun M5 =>
  g_X12_drawn_34 a0 a1 M5
noncomputable def g_X12_odds_84 (rc_46 : Int32 → Int32 → Int32 → Int32 → Int32 → Int32 → kD → Option (Int32 × kD)) (x1_84 : Int32) (x2_84 : Int32) (x3_84 : Int32) (x4_84 : Int32) (x6_84 : Int32) (t0_84 : Int32) (t1_84 : Int32) (M_84 : kD) : Option (Int32 × kD) :=
  bd1 (t0_84 + t1_84) fun v1 =>
  bo (f_X12_back M_84) fun M2 =>
  bd1 (x6_84 + (1 : Int32)) fun v4 =>
  rc_46 x1_84 x2_84 x3_84 x4_84 v1 v4 M2
noncomputable def g_X12_odds_46 (rc_46 : Int32 → Int32 → Int32 → Int32 → Int32 → Int32 → kD → Option (Int32 × kD)) (x1_46 : Int32) (x2_46 : Int32) (x3_46 : Int32) (x4_46 : Int32) (x5_46 : Int32) (x6_46 : Int32) (M_46 : kD) : Option (Int32 × kD) :=
  if x2_46 ≤ x6_46 then
  some (x5_46, M_46)
  else
  bo2 (f_X12_draws (10 : Int32) (x3_46 + x6_46) M_46) fun v6 M5 =>
  bd1 ((50 : Int32) + x1_46) fun v8 =>
  if v8 < 0 ∨ 279 ≤ v8.toNatClampNeg then none else
  if (M5.1 6 v8.toNatClampNeg) ≤ x4_46 then
  g_X12_odds_84 rc_46 x1_46 x2_46 x3_46 x4_46 x6_46 x5_46 (0 : Int32) M5
  else
  g_X12_odds_84 rc_46 x1_46 x2_46 x3_46 x4_46 x6_46 x5_46 (1 : Int32) M5
noncomputable def f_X12_odds (a0 : Int32) (a1 : Int32) (a2 : Int32) (M : kD) : Option (Int32 × kD) :=
  bd1 (kI M 0 0 (0 : Int32)) fun M12 =>
  bo (f_X12_isMachine a0 M12) fun v13 =>
  if v13 = 0 then
  some ((-1 : Int32), M12)
  else
  if (f_X12_isIn a1 (1 : Int32) (30 : Int32)) = 0 then
  some ((-1 : Int32), M12)
  else
  bo (f_X12_tries M12) fun M15 =>
  bd1 ((50 : Int32) + a0) fun v17 =>
  if v17 < 0 ∨ 279 ≤ v17.toNatClampNeg then none else
  bd1 (M15.1 6 v17.toNatClampNeg) fun v19 =>
  lp (fun _ _ _ _ _ _ _ => none) (g_X12_odds_46) 2000 a0 a1 a2 v19 (0 : Int32) (0 : Int32) M15
noncomputable def g_X12_bookLine_257 (x1_257 : Int32) (t0_257 : Int32) (M_257 : kD) : Option (Int32 × kD) :=
  if (x1_257 + (2 : Int32)) < 0 ∨ 135 ≤ (x1_257 + (2 : Int32)).toNatClampNeg then none else
  bd1 (kI M_257 8 (x1_257 + (2 : Int32)).toNatClampNeg (M_257.1 0 18)) fun M2 =>
  if ¬ (t0_257 = 0 ∨ t0_257 = 1) then none else
  some (t0_257, M2)
noncomputable def g_X12_bookLine_180 (x1_180 : Int32) (x4_180 : Int32) (t0_180 : Int32) (M_180 : kD) : Option (Int32 × kD) :=
  if 0 ≤ t0_180 then
  bo (f_X12_next M_180) fun M4 =>
  if x1_180 < 0 ∨ 135 ≤ x1_180.toNatClampNeg then none else
  bd1 (kI M4 8 x1_180.toNatClampNeg t0_180) fun M7 =>
  if (x1_180 + (1 : Int32)) < 0 ∨ 135 ≤ (x1_180 + (1 : Int32)).toNatClampNeg then none else
  bd1 (kI M7 8 (x1_180 + (1 : Int32)).toNatClampNeg x4_180) fun M9 =>
  if t0_180 = (1 : Int32) then
  some ((1 : Int32), M9)
  else
  if t0_180 = (2 : Int32) then
  some ((1 : Int32), M9)
  else
  if t0_180 = 0 then
  bo2 (f_X12_takesName (6 : Int32) (M9.1 6 (1 : Int32).toNatClampNeg) M9) fun v14 M13 =>
  g_X12_bookLine_257 x1_180 v14 M13
  else
  bo2 (f_X12_takes (1 : Int32) (999 : Int32) M9) fun v11 M10 =>
  g_X12_bookLine_257 x1_180 v11 M10
  else
  bo2 (f_X12_bad (1 : Int32) M_180) fun v20 M19 =>
  if ¬ (v20 = 0 ∨ v20 = 1) then none else
  some (v20, M19)
noncomputable def g_X12_bookLine_86 (x1_86 : Int32) (x2_86 : Int32) (x3_86 : Int32) (x4_86 : Int32) (t1_86 : Int32) (t2_86 : Int32) (M_86 : kD) : Option (Int32 × kD) :=
  if t1_86 < 0 ∨ 135 ≤ t1_86.toNatClampNeg then none else
  bd1 (kI M_86 8 t1_86.toNatClampNeg t2_86) fun M25 =>
  if x3_86 = 0 then
  if x2_86 = 0 then
  if (f_X12_isWord (131333279212915 : Int64) M25) = 0 then
  if (f_X12_isWord (1936290931 : Int64) M25) = 0 then
  if (f_X12_isWord (119182682645875 : Int64) M25) = 0 then
  if (f_X12_isWord (125796947750766 : Int64) M25) = 0 then
  g_X12_bookLine_180 x1_86 x4_86 (-1 : Int32) M25
  else
  g_X12_bookLine_180 x1_86 x4_86 (3 : Int32) M25
  else
  g_X12_bookLine_180 x1_86 x4_86 (2 : Int32) M25
  else
  g_X12_bookLine_180 x1_86 x4_86 (1 : Int32) M25
  else
  g_X12_bookLine_180 x1_86 x4_86 (0 : Int32) M25
  else
  bo2 (f_X12_takes (1 : Int32) (60 : Int32) M25) fun v31 M30 =>
  if v31 = 0 then
  some ((0 : Int32), M30)
  else
  if (x1_86 + (1 : Int32)) < 0 ∨ 135 ≤ (x1_86 + (1 : Int32)).toNatClampNeg then none else
  bd1 (kI M30 8 (x1_86 + (1 : Int32)).toNatClampNeg (M30.1 0 18)) fun M34 =>
  some ((1 : Int32), M34)
  else
  some ((1 : Int32), M25)
noncomputable def g_X12_bookLine_47 (x1_47 : Int32) (x2_47 : Int32) (x3_47 : Int32) (M_47 : kD) : Option (Int32 × kD) :=
  if (M_47.1 0 36) = (40 : Int32) then
  bo2 (f_X12_bad (4 : Int32) M_47) fun v43 M42 =>
  if ¬ (v43 = 0 ∨ v43 = 1) then none else
  some (v43, M42)
  else
  bd1 (M_47.1 0 18) fun v38 =>
  bo (f_X12_next M_47) fun M39 =>
  if x2_47 = 0 then
  g_X12_bookLine_86 x1_47 x2_47 x3_47 v38 x1_47 (4 : Int32) M39
  else
  g_X12_bookLine_86 x1_47 x2_47 x3_47 v38 x1_47 (5 : Int32) M39
noncomputable def f_X12_bookLine  (M : kD) : Option (Int32 × kD) :=
  bd1 ((3 : Int32) * (M.1 0 36)) fun v47 =>
  bd1 (f_X12_isWord (6578553 : Int64) M) fun v48 =>
  bd1 (f_X12_isWord (427020345714 : Int64) M) fun v49 =>
  if v48 = 0 then
  if v49 = 0 then
  bo2 (f_X12_looksAt (0 : Int32) (M.1 6 (0 : Int32).toNatClampNeg) M) fun v51 M50 =>
  if v51 = 0 then
  some ((0 : Int32), M50)
  else
  g_X12_bookLine_47 v47 v48 v49 M50
  else
  g_X12_bookLine_47 v47 v48 v49 M
  else
  g_X12_bookLine_47 v47 v48 v49 M
noncomputable def g_X12_does_192 (x1_192 : Int32) (x4_192 : Int32) (M_192 : kD) : Option (Int32 × kD) :=
  if x4_192 ≤ 0 then
  some ((0 : Int32), M_192)
  else
  some ((((10 : Int32) * x1_192) + x4_192), M_192)
noncomputable def g_X12_does_85 (x1_85 : Int32) (x2_85 : Int32) (t0_85 : Int32) (M_85 : kD) : Option (Int32 × kD) :=
  if t0_85 = 0 then
  bd1 (kI M_85 6 (42 : Int32).toNatClampNeg ((M_85.1 6 (42 : Int32).toNatClampNeg) ^^^ ((1 : Int32) <<< (x2_85 &&& 31)))) fun M2 =>
  g_X12_does_192 x1_85 t0_85 M2
  else
  g_X12_does_192 x1_85 t0_85 M_85
noncomputable def g_X12_does_77 (x1_77 : Int32) (x2_77 : Int32) (t0_77 : Int32) (t1_77 : Int32) (M_77 : kD) : Option (Int32 × kD) :=
  if t0_77 = t1_77 then
  g_X12_does_85 x1_77 x2_77 (1 : Int32) M_77
  else
  g_X12_does_85 x1_77 x2_77 (0 : Int32) M_77
noncomputable def g_X12_does_62 (x1_62 : Int32) (x2_62 : Int32) (M_62 : kD) : Option (Int32 × kD) :=
  bo (f_X12_isHeld x2_62 M_62) fun v5 =>
  if x1_62 = (1 : Int32) then
  g_X12_does_77 x1_62 x2_62 v5 (1 : Int32) M_62
  else
  g_X12_does_77 x1_62 x2_62 v5 (0 : Int32) M_62
noncomputable def g_X12_does_126 (x1_126 : Int32) (x2_126 : Int32) (x3_126 : Int32) (t0_126 : Int32) (M_126 : kD) : Option (Int32 × kD) :=
  if t0_126 = 0 then
  if ((44 : Int32) + x2_126) < 0 ∨ 279 ≤ ((44 : Int32) + x2_126).toNatClampNeg then none else
  bd1 (kI M_126 6 ((44 : Int32) + x2_126).toNatClampNeg x3_126) fun M9 =>
  g_X12_does_192 x1_126 t0_126 M9
  else
  g_X12_does_192 x1_126 t0_126 M_126
noncomputable def g_X12_does_179 (x1_179 : Int32) (x2_179 : Int32) (t0_179 : Int32) (M_179 : kD) : Option (Int32 × kD) :=
  if t0_179 = 0 then
  bo2 (f_X12_goesOn x2_179 M_179) fun v12 M11 =>
  g_X12_does_192 x1_179 t0_179 M11
  else
  g_X12_does_192 x1_179 t0_179 M_179
noncomputable def f_X12_does (a0 : Int32) (a1 : Int32) (a2 : Int32) (M : kD) : Option (Int32 × kD) :=
  if a0 = 0 then
  bo (f_X12_whyWrite a1 a2 M) fun v15 =>
  if v15 = 0 then
  bo (f_X12_types a1 a2 M) fun M17 =>
  g_X12_does_192 a0 v15 M17
  else
  g_X12_does_192 a0 v15 M
  else
  if a0 = 1 then
  g_X12_does_62 a0 a1 M
  else
  if a0 = 2 then
  g_X12_does_62 a0 a1 M
  else
  if a0 = 3 then
  bd1 ((44 : Int32) + a1) fun v23 =>
  if v23 < 0 ∨ 279 ≤ v23.toNatClampNeg then none else
  if (M.1 6 v23.toNatClampNeg) < a2 then
  g_X12_does_126 a0 a1 a2 (0 : Int32) M
  else
  g_X12_does_126 a0 a1 a2 (1 : Int32) M
  else
  if a0 = 4 then
  bo (f_X12_whyClear M) fun v27 =>
  bo (f_X12_evens M) fun M29 =>
  g_X12_does_192 a0 v27 M29
  else
  if ((M.1 6 (39 : Int32).toNatClampNeg) + a1) ≤ (400 : Int32) then
  g_X12_does_179 a0 a1 (0 : Int32) M
  else
  g_X12_does_179 a0 a1 (1 : Int32) M
noncomputable def g_X12_book_275 (x1_275 : Int32) (x2_275 : Int32) (M_275 : kD) : Option (Int32 × kD) :=
  if x1_275 = 0 then
  bo (f_X12_back M_275) fun M1 =>
  some (x2_275, M1)
  else
  some (x2_275, M_275)
noncomputable def g_X12_book_241 (rc_241 : Int32 → Int32 → Int32 → kD → Option (Int32 × kD)) (x1_241 : Int32) (x2_241 : Int32) (x3_241 : Int32) (M_241 : kD) : Option (Int32 × kD) :=
  if (59 : Int32) ≤ x3_241 then
  g_X12_book_275 x1_241 x2_241 M_241
  else
  if x3_241 < 0 ∨ 59 ≤ x3_241.toNatClampNeg then none else
  if (((59 : Int32) * ((M_241.1 0 22) - (1 : Int32))) + x3_241) < 0 ∨ 472 ≤ (((59 : Int32) * ((M_241.1 0 22) - (1 : Int32))) + x3_241).toNatClampNeg then none else
  bd1 (kI M_241 20 (((59 : Int32) * ((M_241.1 0 22) - (1 : Int32))) + x3_241).toNatClampNeg (M_241.1 21 x3_241.toNatClampNeg)) fun M6 =>
  bd1 (x3_241 + (1 : Int32)) fun v7 =>
  rc_241 x1_241 x2_241 v7 M6
noncomputable def g_X12_book_191 (x1_191 : Int32) (x2_191 : Int32) (M_191 : kD) : Option (Int32 × kD) :=
  bd1 (kI M_191 37 (2 : Int32).toNatClampNeg (M_191.1 6 (39 : Int32).toNatClampNeg)) fun M9 =>
  bo (f_X12_sumOf (50 : Int32) M9) fun v10 =>
  bd1 (kI M9 37 (3 : Int32).toNatClampNeg v10) fun M12 =>
  bd1 (kI M12 0 38 (1 : Int32)) fun M13 =>
  if x1_191 = (1 : Int32) then
  if (M13.1 37 (1 : Int32).toNatClampNeg) ≤ 0 then
  g_X12_book_275 x1_191 x2_191 M13
  else
  bo (f_X12_keep M13) fun M14 =>
  lp (fun _ _ _ _ => none) (g_X12_book_241) 2000 x1_191 x2_191 (0 : Int32) M14
  else
  g_X12_book_275 x1_191 x2_191 M13
noncomputable def g_X12_book_185 (rc_111 : Int32 → Int32 → Int32 → kD → Option (Int32 × kD)) (x1_185 : Int32) (x2_185 : Int32) (x3_185 : Int32) (M_185 : kD) : Option (Int32 × kD) :=
  bd1 (x3_185 + (1 : Int32)) fun v18 =>
  rc_111 x1_185 x2_185 v18 M_185
noncomputable def g_X12_book_111 (rc_111 : Int32 → Int32 → Int32 → kD → Option (Int32 × kD)) (x1_111 : Int32) (x2_111 : Int32) (x3_111 : Int32) (M_111 : kD) : Option (Int32 × kD) :=
  if (M_111.1 0 36) ≤ x3_111 then
  g_X12_book_191 x1_111 x2_111 M_111
  else
  if 0 ≤ x2_111 then
  g_X12_book_191 x1_111 x2_111 M_111
  else
  bd1 ((3 : Int32) * x3_111) fun v19 =>
  if v19 < 0 ∨ 135 ≤ v19.toNatClampNeg then none else
  bd1 (((3 : Int32) * x3_111) + (1 : Int32)) fun v21 =>
  if v21 < 0 ∨ 135 ≤ v21.toNatClampNeg then none else
  bd1 (((3 : Int32) * x3_111) + (2 : Int32)) fun v23 =>
  if v23 < 0 ∨ 135 ≤ v23.toNatClampNeg then none else
  bo2 (f_X12_does (M_111.1 8 v19.toNatClampNeg) (M_111.1 8 v21.toNatClampNeg) (M_111.1 8 v23.toNatClampNeg) M_111) fun v26 M25 =>
  bd1 (kI M25 37 (0 : Int32).toNatClampNeg v26) fun M28 =>
  if (M28.1 37 (0 : Int32).toNatClampNeg) ≤ 0 then
  bd1 (kI M28 37 (1 : Int32).toNatClampNeg ((M28.1 37 (1 : Int32).toNatClampNeg) + (1 : Int32))) fun M29 =>
  g_X12_book_185 rc_111 x1_111 x2_111 x3_111 M29
  else
  g_X12_book_185 rc_111 x1_111 x3_111 x3_111 M28
noncomputable def g_X12_book_107 (x1_107 : Int32) (M_107 : kD) : Option (Int32 × kD) :=
  lp (fun _ _ _ _ => none) (g_X12_book_111) 2000 x1_107 (-1 : Int32) (0 : Int32) M_107
noncomputable def g_X12_book_89 (rc_89 : Int32 → Int32 → kD → Option (Int32 × kD)) (x1_89 : Int32) (x2_89 : Int32) (M_89 : kD) : Option (Int32 × kD) :=
  if (4 : Int32) ≤ x2_89 then
  g_X12_book_107 x1_89 M_89
  else
  if x2_89 < 0 ∨ 4 ≤ x2_89.toNatClampNeg then none else
  bd1 (kI M_89 37 x2_89.toNatClampNeg (0 : Int32)) fun M34 =>
  bd1 (x2_89 + (1 : Int32)) fun v35 =>
  rc_89 x1_89 v35 M34
noncomputable def g_X12_book_83 (x1_83 : Int32) (M_83 : kD) : Option (Int32 × kD) :=
  bo (f_X12_tries M_83) fun M37 =>
  lp (fun _ _ _ => none) (g_X12_book_89) 2000 x1_83 (0 : Int32) M37
noncomputable def g_X12_book_39 (rc_39 : Int32 → kD → Option (Int32 × kD)) (x1_39 : Int32) (M_39 : kD) : Option (Int32 × kD) :=
  if (M_39.1 0 11) = 0 then
  g_X12_book_83 x1_39 M_39
  else
  bo2 (f_X12_bookLine M_39) fun v40 M39 =>
  if v40 = 0 then
  some (((-2 : Int32) - (M39.1 0 16)), M39)
  else
  bo2 (f_X12_sign (59 : Int32) M39) fun v43 M42 =>
  if v43 = 0 then
  some (((-2 : Int32) - (M42.1 0 16)), M42)
  else
  bd1 (kI M42 0 36 ((M42.1 0 36) + (1 : Int32))) fun M45 =>
  rc_39 x1_39 M45
noncomputable def f_X12_book (a0 : Int32) (M : kD) : Option (Int32 × kD) :=
  bd1 (kI M 0 0 (0 : Int32)) fun M49 =>
  if (f_X12_isIn a0 (0 : Int32) (1 : Int32)) = 0 then
  some ((-1000 : Int32), M49)
  else
  bo (f_X12_taken (400 : Int32) M49) fun M50 =>
  bd1 (kI M50 0 15 (0 : Int32)) fun M52 =>
  bd1 (kI M52 0 36 (0 : Int32)) fun M53 =>
  bo (f_X12_next M53) fun M54 =>
  lp (fun _ _ => none) (g_X12_book_39) 2000 a0 M54
noncomputable def f_X12_told (a0 : Int32) (M : kD) : Option (Int32 × kD) :=
  bd1 (kI M 0 0 (0 : Int32)) fun M1 =>
  if (M1.1 0 38) = 0 then
  some ((-1 : Int32), M1)
  else
  if (f_X12_isIn a0 (0 : Int32) (3 : Int32)) = 0 then
  some ((-1 : Int32), M1)
  else
  if a0 < 0 ∨ 4 ≤ a0.toNatClampNeg then none else
  some ((M1.1 37 a0.toNatClampNeg), M1)
noncomputable def f_X12_code (a0 : Int32) (a1 : Int32) (a2 : Int32) (M : kD) : Option kD :=
  if ((3 : Int32) * (M.1 0 40)) < 0 ∨ 135 ≤ ((3 : Int32) * (M.1 0 40)).toNatClampNeg then none else
  bd1 (kI M 8 ((3 : Int32) * (M.1 0 40)).toNatClampNeg a0) fun M2 =>
  if (((3 : Int32) * (M2.1 0 40)) + (1 : Int32)) < 0 ∨ 135 ≤ (((3 : Int32) * (M2.1 0 40)) + (1 : Int32)).toNatClampNeg then none else
  bd1 (kI M2 8 (((3 : Int32) * (M2.1 0 40)) + (1 : Int32)).toNatClampNeg a1) fun M4 =>
  if (((3 : Int32) * (M4.1 0 40)) + (2 : Int32)) < 0 ∨ 135 ≤ (((3 : Int32) * (M4.1 0 40)) + (2 : Int32)).toNatClampNeg then none else
  bd1 (kI M4 8 (((3 : Int32) * (M4.1 0 40)) + (2 : Int32)).toNatClampNeg a2) fun M6 =>
  bd1 (kI M6 0 40 ((M6.1 0 40) + (1 : Int32))) fun M7 =>
  some M7
noncomputable def g_X12_joins_45 (rc_0 : Int32 → kD → Option kD) (x1_45 : Int32) (M_45 : kD) : Option kD :=
  bd1 (kI M_45 0 42 ((M_45.1 0 42) - (1 : Int32))) fun M1 =>
  bd1 (M1.1 0 42) fun v2 =>
  if v2 < 0 ∨ 45 ≤ v2.toNatClampNeg then none else
  bo (f_X12_code (M1.1 39 v2.toNatClampNeg) (0 : Int32) (0 : Int32) M1) fun M4 =>
  rc_0 x1_45 M4
noncomputable def g_X12_joins_0 (rc_0 : Int32 → kD → Option kD) (x1_0 : Int32) (M_0 : kD) : Option kD :=
  if (M_0.1 0 42) ≤ 0 then
  some M_0
  else
  bd1 ((M_0.1 0 42) - (1 : Int32)) fun v6 =>
  if v6 < 0 ∨ 45 ≤ v6.toNatClampNeg then none else
  if (M_0.1 39 v6.toNatClampNeg) = (21 : Int32) then
  g_X12_joins_45 rc_0 x1_0 M_0
  else
  bd1 ((M_0.1 0 42) - (1 : Int32)) fun v8 =>
  if v8 < 0 ∨ 45 ≤ v8.toNatClampNeg then none else
  if (M_0.1 39 v8.toNatClampNeg) = (22 : Int32) then
  if x1_0 = (22 : Int32) then
  g_X12_joins_45 rc_0 x1_0 M_0
  else
  some M_0
  else
  some M_0
noncomputable def f_X12_joins (a0 : Int32) (M : kD) : Option kD :=
  lp (fun _ _ => none) (g_X12_joins_0) 2000 a0 M
noncomputable def g_X12_nots_0 (rc_0 : kD → Option kD) (M_0 : kD) : Option kD :=
  if (M_0.1 0 42) ≤ 0 then
  some M_0
  else
  bd1 ((M_0.1 0 42) - (1 : Int32)) fun v1 =>
  if v1 < 0 ∨ 45 ≤ v1.toNatClampNeg then none else
  if (M_0.1 39 v1.toNatClampNeg) = (20 : Int32) then
  bd1 (kI M_0 0 42 ((M_0.1 0 42) - (1 : Int32))) fun M3 =>
  bd1 (kI M3 0 43 ((M3.1 0 43) - (1 : Int32))) fun M4 =>
  bo (f_X12_code (20 : Int32) (0 : Int32) (0 : Int32) M4) fun M5 =>
  rc_0  M5
  else
  some M_0
noncomputable def f_X12_nots  (M : kD) : Option kD :=
  lp (fun _ => none) (g_X12_nots_0) 2000  M
noncomputable def f_X12_leafOf  (M : kD) : Int32 :=
  if (f_X12_isWord (1751477348 : Int64) M) = 0 then
  if (f_X12_isWord (119165820433268 : Int64) M) = 0 then
  if (f_X12_isWord (1836414053 : Int64) M) = 0 then
  if (f_X12_isWord (1633840229 : Int64) M) = 0 then
  if (f_X12_isWord (1870095731 : Int64) M) = 0 then
  if (f_X12_isWord (6909547 : Int64) M) = 0 then
  if (f_X12_isWord (513021015141 : Int64) M) = 0 then
  if (f_X12_isWord (121450625394034 : Int64) M) = 0 then
  (-1 : Int32)
  else
  (7 : Int32)
  else
  (6 : Int32)
  else
  (5 : Int32)
  else
  (4 : Int32)
  else
  (3 : Int32)
  else
  (2 : Int32)
  else
  (1 : Int32)
  else
  (0 : Int32)
noncomputable def g_X12_operand_56 (M_56 : kD) : Option (Int32 × kD) :=
  bo2 (f_X12_bad (4 : Int32) M_56) fun v2 M1 =>
  if ¬ (v2 = 0 ∨ v2 = 1) then none else
  some (v2, M1)
noncomputable def g_X12_operand_103 (t1_103 : Int32) (t2_103 : Int32) (M_103 : kD) : Option (Int32 × kD) :=
  if t1_103 < 0 ∨ 45 ≤ t1_103.toNatClampNeg then none else
  bd1 (kI M_103 39 t1_103.toNatClampNeg t2_103) fun M6 =>
  bd1 (kI M6 0 42 ((M6.1 0 42) + (1 : Int32))) fun M7 =>
  bd1 (kI M7 0 43 ((M7.1 0 43) + (1 : Int32))) fun M8 =>
  some ((1 : Int32), M8)
noncomputable def g_X12_operand_84 (x1_84 : Int32) (M_84 : kD) : Option (Int32 × kD) :=
  if x1_84 = 0 then
  g_X12_operand_103 (M_84.1 0 42) (23 : Int32) M_84
  else
  g_X12_operand_103 (M_84.1 0 42) (20 : Int32) M_84
noncomputable def g_X12_operand_232 (M_232 : kD) : Option (Int32 × kD) :=
  bo2 (f_X12_bad (1 : Int32) M_232) fun v11 M10 =>
  if ¬ (v11 = 0 ∨ v11 = 1) then none else
  some (v11, M10)
noncomputable def g_X12_operand_181 (x3_181 : Int32) (t0_181 : Int32) (M_181 : kD) : Option (Int32 × kD) :=
  if t0_181 = 0 then
  some ((0 : Int32), M_181)
  else
  bo (f_X12_code x3_181 (0 : Int32) (M_181.1 0 18) M_181) fun M14 =>
  bo (f_X12_next M14) fun M16 =>
  some ((1 : Int32), M16)
noncomputable def g_X12_operand_38 (x1_38 : Int32) (x2_38 : Int32) (x3_38 : Int32) (M_38 : kD) : Option (Int32 × kD) :=
  if (M_38.1 0 41) = (20 : Int32) then
  g_X12_operand_56  M_38
  else
  if (M_38.1 0 43) ≤ (8 : Int32) then
  bd1 (kI M_38 0 41 ((M_38.1 0 41) + (1 : Int32))) fun M19 =>
  bo (f_X12_next M19) fun M20 =>
  if x1_38 = 0 then
  if x2_38 = 0 then
  bd1 (kI M20 0 44 (1 : Int32)) fun M22 =>
  if (3 : Int32) ≤ x3_38 then
  if (5 : Int32) ≤ x3_38 then
  if (M22.1 0 11) = (3 : Int32) then
  if (M22.1 0 14) < (60 : Int32) then
  g_X12_operand_232  M22
  else
  if (M22.1 0 14) ≤ (62 : Int32) then
  bd1 (M22.1 0 14) fun v23 =>
  bo (f_X12_next M22) fun M24 =>
  if (M24.1 0 11) = (2 : Int32) then
  bo (f_X12_code x3_38 v23 (M24.1 0 14) M24) fun M26 =>
  bo (f_X12_next M26) fun M28 =>
  some ((1 : Int32), M28)
  else
  bo2 (f_X12_bad (1 : Int32) M24) fun v31 M30 =>
  if ¬ (v31 = 0 ∨ v31 = 1) then none else
  some (v31, M30)
  else
  g_X12_operand_232  M22
  else
  g_X12_operand_232  M22
  else
  if x3_38 = (3 : Int32) then
  bo2 (f_X12_looksAt (6 : Int32) (M22.1 6 (1 : Int32).toNatClampNeg) M22) fun v42 M41 =>
  g_X12_operand_181 x3_38 v42 M41
  else
  bo2 (f_X12_looksAt (0 : Int32) (M22.1 6 (0 : Int32).toNatClampNeg) M22) fun v39 M38 =>
  g_X12_operand_181 x3_38 v39 M38
  else
  bo (f_X12_code x3_38 (0 : Int32) (0 : Int32) M22) fun M46 =>
  some ((1 : Int32), M46)
  else
  g_X12_operand_84 x1_38 M20
  else
  g_X12_operand_84 x1_38 M20
  else
  g_X12_operand_56  M_38
noncomputable def f_X12_operand  (M : kD) : Option (Int32 × kD) :=
  bd1 (f_X12_isWord (7237492 : Int64) M) fun v53 =>
  bd1 (f_X12_isSign (40 : Int32) M) fun v54 =>
  bd1 (f_X12_leafOf M) fun v55 =>
  if v53 = 0 then
  if v54 = 0 then
  if 0 ≤ v55 then
  g_X12_operand_38 v53 v54 v55 M
  else
  bo2 (f_X12_bad (1 : Int32) M) fun v57 M56 =>
  if ¬ (v57 = 0 ∨ v57 = 1) then none else
  some (v57, M56)
  else
  g_X12_operand_38 v53 v54 v55 M
  else
  g_X12_operand_38 v53 v54 v55 M
noncomputable def g_X12_behind_70 (t1_70 : Int32) (t2_70 : Int32) (M_70 : kD) : Option (Int32 × kD) :=
  if t1_70 < 0 ∨ 45 ≤ t1_70.toNatClampNeg then none else
  bd1 (kI M_70 39 t1_70.toNatClampNeg t2_70) fun M2 =>
  bd1 (kI M2 0 42 ((M2.1 0 42) + (1 : Int32))) fun M3 =>
  bd1 (kI M3 0 44 (0 : Int32)) fun M4 =>
  bo (f_X12_next M4) fun M5 =>
  some ((1 : Int32), M5)
noncomputable def g_X12_behind_42 (t1_42 : Int32) (M_42 : kD) : Option (Int32 × kD) :=
  bo (f_X12_joins t1_42 M_42) fun M7 =>
  if (f_X12_isWord (6385252 : Int64) M7) = 0 then
  g_X12_behind_70 (M7.1 0 42) (22 : Int32) M7
  else
  g_X12_behind_70 (M7.1 0 42) (21 : Int32) M7
noncomputable def g_X12_behind_24 (M_24 : kD) : Option (Int32 × kD) :=
  if (f_X12_isWord (6385252 : Int64) M_24) = 0 then
  g_X12_behind_42 (22 : Int32) M_24
  else
  g_X12_behind_42 (21 : Int32) M_24
noncomputable def g_X12_behind_114 (M_114 : kD) : Option (Int32 × kD) :=
  bo2 (f_X12_bad (1 : Int32) M_114) fun v12 M11 =>
  if ¬ (v12 = 0 ∨ v12 = 1) then none else
  some (v12, M11)
noncomputable def f_X12_behind  (M : kD) : Option (Int32 × kD) :=
  bo (f_X12_nots M) fun M15 =>
  if (f_X12_isWord (6385252 : Int64) M15) = 0 then
  if (f_X12_isWord (28530 : Int64) M15) = 0 then
  bo (f_X12_joins (22 : Int32) M15) fun M17 =>
  if (f_X12_isSign (41 : Int32) M17) = 0 then
  g_X12_behind_114  M17
  else
  if (M17.1 0 42) = 0 then
  g_X12_behind_114  M17
  else
  bd1 (kI M17 0 42 ((M17.1 0 42) - (1 : Int32))) fun M19 =>
  bd1 (kI M19 0 43 ((M19.1 0 43) - (1 : Int32))) fun M20 =>
  bo (f_X12_next M20) fun M21 =>
  some ((1 : Int32), M21)
  else
  g_X12_behind_24  M15
  else
  g_X12_behind_24  M15
noncomputable def g_X12_sentence_145 (rc_145 : Int32 → kD → Option (Int32 × kD)) (x2_145 : Int32) (M_145 : kD) : Option (Int32 × kD) :=
  if ((3 : Int32) * (M_145.1 0 40)) ≤ x2_145 then
  some ((M_145.1 0 41), M_145)
  else
  if x2_145 < 0 ∨ 135 ≤ x2_145.toNatClampNeg then none else
  if ((99 : Int32) + x2_145) < 0 ∨ 279 ≤ ((99 : Int32) + x2_145).toNatClampNeg then none else
  bd1 (kI M_145 6 ((99 : Int32) + x2_145).toNatClampNeg (M_145.1 8 x2_145.toNatClampNeg)) fun M3 =>
  bd1 (x2_145 + (1 : Int32)) fun v4 =>
  rc_145 v4 M3
noncomputable def g_X12_sentence_132 (M_132 : kD) : Option (Int32 × kD) :=
  bd1 (kI M_132 6 (98 : Int32).toNatClampNeg (M_132.1 0 40)) fun M6 =>
  lp (fun _ _ => none) (g_X12_sentence_145) 2000 (0 : Int32) M6
noncomputable def g_X12_sentence_115 (M_115 : kD) : Option (Int32 × kD) :=
  some (((-1 : Int32) - (M_115.1 0 16)), M_115)
noncomputable def g_X12_sentence_83 (M_83 : kD) : Option (Int32 × kD) :=
  bo2 (f_X12_bad (1 : Int32) M_83) fun v8 M7 =>
  some (((-1 : Int32) - (M7.1 0 16)), M7)
noncomputable def g_X12_sentence_101 (rc_48 : Int32 → kD → Option (Int32 × kD)) (x1_101 : Int32) (M_101 : kD) : Option (Int32 × kD) :=
  if (M_101.1 0 44) = 0 then
  bo2 (f_X12_operand M_101) fun v11 M10 =>
  if v11 = 0 then
  some (((-1 : Int32) - (M10.1 0 16)), M10)
  else
  rc_48 x1_101 M10
  else
  bo2 (f_X12_behind M_101) fun v15 M14 =>
  if v15 = 0 then
  g_X12_sentence_115  M14
  else
  rc_48 x1_101 M14
noncomputable def g_X12_sentence_48 (rc_48 : Int32 → kD → Option (Int32 × kD)) (x1_48 : Int32) (M_48 : kD) : Option (Int32 × kD) :=
  if x1_48 = 0 then
  g_X12_sentence_132  M_48
  else
  if (M_48.1 0 44) = 0 then
  g_X12_sentence_101 rc_48 x1_48 M_48
  else
  if (M_48.1 0 11) = 0 then
  bo (f_X12_nots M_48) fun M19 =>
  bo (f_X12_joins (22 : Int32) M19) fun M21 =>
  if (M21.1 0 42) ≤ 0 then
  rc_48 (0 : Int32) M21
  else
  g_X12_sentence_83  M21
  else
  g_X12_sentence_101 rc_48 x1_48 M_48
noncomputable def f_X12_sentence  (M : kD) : Option (Int32 × kD) :=
  bd1 (kI M 0 0 (0 : Int32)) fun M27 =>
  bo (f_X12_taken (200 : Int32) M27) fun M28 =>
  bd1 (kI M28 0 15 (0 : Int32)) fun M30 =>
  bd1 (kI M30 0 40 (0 : Int32)) fun M31 =>
  bd1 (kI M31 0 41 (0 : Int32)) fun M32 =>
  bd1 (kI M32 0 42 (0 : Int32)) fun M33 =>
  bd1 (kI M33 0 43 (1 : Int32)) fun M34 =>
  bd1 (kI M34 0 44 (0 : Int32)) fun M35 =>
  bo (f_X12_next M35) fun M36 =>
  lp (fun _ _ => none) (g_X12_sentence_48) 2000 (1 : Int32) M36
noncomputable def g_X12_isLeaf_151 (M : kD) (x3_151 : Int32) (x4_151 : Int32) (t0_151 : Int32) : Option Int32 :=
  if x3_151 = (60 : Int32) then
  if x4_151 ≤ t0_151 then
  some (0 : Int32)
  else
  some (1 : Int32)
  else
  if x3_151 = (61 : Int32) then
  if t0_151 = x4_151 then
  some (1 : Int32)
  else
  some (0 : Int32)
  else
  if t0_151 ≤ x4_151 then
  some (0 : Int32)
  else
  some (1 : Int32)
noncomputable def f_X12_isLeaf (a0 : Int32) (a1 : Int32) (a2 : Int32) (a3 : Int32) (M : kD) : Option Int32 :=
  if a1 = 0 then
  bo (f_X12_isHeld a0 M) fun v6 =>
  if ¬ (v6 = 0 ∨ v6 = 1) then none else
  some v6
  else
  if a1 = 1 then
  if (M.1 6 (41 : Int32).toNatClampNeg) = (a0 + (1 : Int32)) then
  some (1 : Int32)
  else
  some (0 : Int32)
  else
  if a1 = 2 then
  bo (f_X12_couldWrite a0 M) fun v12 =>
  if v12 = 0 then
  some (1 : Int32)
  else
  some (0 : Int32)
  else
  if a1 = 3 then
  bo (f_X12_whyWrite a0 a3 M) fun v16 =>
  if v16 = 0 then
  some (1 : Int32)
  else
  some (0 : Int32)
  else
  if a1 = 4 then
  bd1 (((62 : Int32) + ((6 : Int32) * a0)) + a3) fun v20 =>
  if v20 < 0 ∨ 279 ≤ v20.toNatClampNeg then none else
  if (M.1 6 v20.toNatClampNeg) ≤ 0 then
  some (0 : Int32)
  else
  some (1 : Int32)
  else
  if a1 = (5 : Int32) then
  bd1 ((44 : Int32) + a0) fun v27 =>
  if v27 < 0 ∨ 279 ≤ v27.toNatClampNeg then none else
  g_X12_isLeaf_151 M a2 a3 (M.1 6 v27.toNatClampNeg)
  else
  if a1 = (6 : Int32) then
  bd1 ((50 : Int32) + a0) fun v24 =>
  if v24 < 0 ∨ 279 ≤ v24.toNatClampNeg then none else
  g_X12_isLeaf_151 M a2 a3 (M.1 6 v24.toNatClampNeg)
  else
  g_X12_isLeaf_151 M a2 a3 a0
noncomputable def g_X12_isSaid_210 (M_210 : kD) : Option (Int32 × kD) :=
  if ¬ ((M_210.1 45 (0 : Int32).toNatClampNeg) = 0 ∨ (M_210.1 45 (0 : Int32).toNatClampNeg) = 1) then none else
  some ((M_210.1 45 (0 : Int32).toNatClampNeg), M_210)
noncomputable def g_X12_isSaid_204 (rc_4 : Int32 → Int32 → Int32 → kD → Option (Int32 × kD)) (x1_204 : Int32) (x2_204 : Int32) (x3_204 : Int32) (M_204 : kD) : Option (Int32 × kD) :=
  bd1 (x3_204 + (1 : Int32)) fun v2 =>
  rc_4 x1_204 x2_204 v2 M_204
noncomputable def g_X12_isSaid_161 (rc_4 : Int32 → Int32 → Int32 → kD → Option (Int32 × kD)) (x1_161 : Int32) (x2_161 : Int32) (x3_161 : Int32) (t1_161 : Int32) (t2_161 : Int32) (M_161 : kD) : Option (Int32 × kD) :=
  if t1_161 < 0 ∨ 45 ≤ t1_161.toNatClampNeg then none else
  bd1 (kI M_161 45 t1_161.toNatClampNeg (vp_nar .boolean t2_161)) fun M4 =>
  g_X12_isSaid_204 rc_4 x1_161 x2_161 x3_161 M4
noncomputable def g_X12_isSaid_156 (rc_4 : Int32 → Int32 → Int32 → kD → Option (Int32 × kD)) (x1_156 : Int32) (x2_156 : Int32) (x3_156 : Int32) (t1_156 : Int32) (M_156 : kD) : Option (Int32 × kD) :=
  g_X12_isSaid_161 rc_4 x1_156 x2_156 x3_156 t1_156 (1 : Int32) M_156
noncomputable def g_X12_isSaid_132 (rc_4 : Int32 → Int32 → Int32 → kD → Option (Int32 × kD)) (x1_132 : Int32) (x2_132 : Int32) (x3_132 : Int32) (t1_132 : Int32) (M_132 : kD) : Option (Int32 × kD) :=
  g_X12_isSaid_161 rc_4 x1_132 x2_132 x3_132 t1_132 (0 : Int32) M_132
noncomputable def g_X12_isSaid_86 (rc_4 : Int32 → Int32 → Int32 → kD → Option (Int32 × kD)) (x1_86 : Int32) (x2_86 : Int32) (x3_86 : Int32) (x4_86 : Int32) (M_86 : kD) : Option (Int32 × kD) :=
  bd1 (x2_86 + (-1 : Int32)) fun v5 =>
  if x4_86 < 0 ∨ 279 ≤ x4_86.toNatClampNeg then none else
  if (M_86.1 6 x4_86.toNatClampNeg) = (21 : Int32) then
  bd1 (v5 - (1 : Int32)) fun v12 =>
  if v12 < 0 ∨ 45 ≤ v12.toNatClampNeg then none else
  if (M_86.1 45 v12.toNatClampNeg) = 0 then
  g_X12_isSaid_132 rc_4 x1_86 v5 x3_86 (v5 - (1 : Int32)) M_86
  else
  if v5 < 0 ∨ 45 ≤ v5.toNatClampNeg then none else
  if (M_86.1 45 v5.toNatClampNeg) = 0 then
  g_X12_isSaid_132 rc_4 x1_86 v5 x3_86 (v5 - (1 : Int32)) M_86
  else
  g_X12_isSaid_161 rc_4 x1_86 v5 x3_86 (v5 - (1 : Int32)) (1 : Int32) M_86
  else
  bd1 (v5 - (1 : Int32)) fun v7 =>
  if v7 < 0 ∨ 45 ≤ v7.toNatClampNeg then none else
  if (M_86.1 45 v7.toNatClampNeg) = 0 then
  if v5 < 0 ∨ 45 ≤ v5.toNatClampNeg then none else
  if (M_86.1 45 v5.toNatClampNeg) = 0 then
  g_X12_isSaid_161 rc_4 x1_86 v5 x3_86 (v5 - (1 : Int32)) (0 : Int32) M_86
  else
  g_X12_isSaid_156 rc_4 x1_86 v5 x3_86 (v5 - (1 : Int32)) M_86
  else
  g_X12_isSaid_156 rc_4 x1_86 v5 x3_86 (v5 - (1 : Int32)) M_86
noncomputable def g_X12_isSaid_58 (rc_4 : Int32 → Int32 → Int32 → kD → Option (Int32 × kD)) (x1_58 : Int32) (x2_58 : Int32) (x3_58 : Int32) (t1_58 : Int32) (t2_58 : Int32) (M_58 : kD) : Option (Int32 × kD) :=
  if t1_58 < 0 ∨ 45 ≤ t1_58.toNatClampNeg then none else
  bd1 (kI M_58 45 t1_58.toNatClampNeg (vp_nar .boolean t2_58)) fun M19 =>
  g_X12_isSaid_204 rc_4 x1_58 x2_58 x3_58 M19
noncomputable def g_X12_isSaid_4 (rc_4 : Int32 → Int32 → Int32 → kD → Option (Int32 × kD)) (x1_4 : Int32) (x2_4 : Int32) (x3_4 : Int32) (M_4 : kD) : Option (Int32 × kD) :=
  if (M_4.1 6 (98 : Int32).toNatClampNeg) ≤ x3_4 then
  g_X12_isSaid_210  M_4
  else
  bd1 ((99 : Int32) + ((3 : Int32) * x3_4)) fun v20 =>
  if v20 < 0 ∨ 279 ≤ v20.toNatClampNeg then none else
  if (M_4.1 6 v20.toNatClampNeg) = (20 : Int32) then
  bd1 (x2_4 - (1 : Int32)) fun v36 =>
  if v36 < 0 ∨ 45 ≤ v36.toNatClampNeg then none else
  if (M_4.1 45 v36.toNatClampNeg) = 0 then
  g_X12_isSaid_58 rc_4 x1_4 x2_4 x3_4 (x2_4 - (1 : Int32)) (1 : Int32) M_4
  else
  g_X12_isSaid_58 rc_4 x1_4 x2_4 x3_4 (x2_4 - (1 : Int32)) (0 : Int32) M_4
  else
  if v20 < 0 ∨ 279 ≤ v20.toNatClampNeg then none else
  if (M_4.1 6 v20.toNatClampNeg) = (21 : Int32) then
  g_X12_isSaid_86 rc_4 x1_4 x2_4 x3_4 v20 M_4
  else
  if v20 < 0 ∨ 279 ≤ v20.toNatClampNeg then none else
  if (M_4.1 6 v20.toNatClampNeg) = (22 : Int32) then
  g_X12_isSaid_86 rc_4 x1_4 x2_4 x3_4 v20 M_4
  else
  if v20 < 0 ∨ 279 ≤ v20.toNatClampNeg then none else
  bd1 (v20 + (1 : Int32)) fun v25 =>
  if v25 < 0 ∨ 279 ≤ v25.toNatClampNeg then none else
  bd1 (v20 + (2 : Int32)) fun v27 =>
  if v27 < 0 ∨ 279 ≤ v27.toNatClampNeg then none else
  bo (f_X12_isLeaf x1_4 (M_4.1 6 v20.toNatClampNeg) (M_4.1 6 v25.toNatClampNeg) (M_4.1 6 v27.toNatClampNeg) M_4) fun v29 =>
  if x2_4 < 0 ∨ 45 ≤ x2_4.toNatClampNeg then none else
  bd1 (kI M_4 45 x2_4.toNatClampNeg (vp_nar .boolean v29)) fun M32 =>
  bd1 (x2_4 + (1 : Int32)) fun v33 =>
  g_X12_isSaid_204 rc_4 x1_4 v33 x3_4 M32
noncomputable def f_X12_isSaid (a0 : Int32) (M : kD) : Option (Int32 × kD) :=
  lp (fun _ _ _ _ => none) (g_X12_isSaid_4) 2000 a0 (0 : Int32) (0 : Int32) M
noncomputable def g_X12_said_63 (x1_63 : Int32) (x2_63 : Int32) (M_63 : kD) : Option (Int32 × kD) :=
  if x1_63 = (-1 : Int32) then
  some (x2_63, M_63)
  else
  some ((-1 : Int32), M_63)
noncomputable def g_X12_said_57 (rc_26 : Int32 → Int32 → Int32 → kD → Option (Int32 × kD)) (x1_57 : Int32) (x2_57 : Int32) (x3_57 : Int32) (M_57 : kD) : Option (Int32 × kD) :=
  bd1 (x3_57 + (1 : Int32)) fun v2 =>
  rc_26 x1_57 x2_57 v2 M_57
noncomputable def g_X12_said_26 (rc_26 : Int32 → Int32 → Int32 → kD → Option (Int32 × kD)) (x1_26 : Int32) (x2_26 : Int32) (x3_26 : Int32) (M_26 : kD) : Option (Int32 × kD) :=
  if (M_26.1 6 (0 : Int32).toNatClampNeg) ≤ x3_26 then
  g_X12_said_63 x1_26 x2_26 M_26
  else
  bo2 (f_X12_isSaid x3_26 M_26) fun v4 M3 =>
  if v4 = 0 then
  g_X12_said_57 rc_26 x1_26 x2_26 x3_26 M3
  else
  if x2_26 = x1_26 then
  some (x3_26, M3)
  else
  bd1 (x2_26 + (1 : Int32)) fun v6 =>
  g_X12_said_57 rc_26 x1_26 v6 x3_26 M3
noncomputable def f_X12_said (a0 : Int32) (M : kD) : Option (Int32 × kD) :=
  bd1 (kI M 0 0 (0 : Int32)) fun M10 =>
  if (M10.1 6 (98 : Int32).toNatClampNeg) = 0 then
  some ((-1 : Int32), M10)
  else
  if (-1 : Int32) ≤ a0 then
  lp (fun _ _ _ _ => none) (g_X12_said_26) 2000 a0 (0 : Int32) (0 : Int32) M10
  else
  some ((-1 : Int32), M10)
noncomputable def g_X12_image_80 (x1_80 : Int32) (M_80 : kD) : Option (Int32 × kD) :=
  if x1_80 < 0 ∨ 2 ≤ x1_80.toNatClampNeg then none else
  bd1 (kI M_80 48 x1_80.toNatClampNeg (vp_nar .boolean (1 : Int32))) fun M2 =>
  some ((1 : Int32), M2)
noncomputable def g_X12_image_51 (rc_51 : Int32 → Int32 → kD → Option (Int32 × kD)) (x1_51 : Int32) (x2_51 : Int32) (M_51 : kD) : Option (Int32 × kD) :=
  if (14 : Int32) ≤ x2_51 then
  g_X12_image_80 x1_51 M_51
  else
  if x2_51 < 0 ∨ 28 ≤ x2_51.toNatClampNeg then none else
  if (((14 : Int32) * x1_51) + x2_51) < 0 ∨ 28 ≤ (((14 : Int32) * x1_51) + x2_51).toNatClampNeg then none else
  bd1 (kL M_51 47 (((14 : Int32) * x1_51) + x2_51).toNatClampNeg (M_51.2 9 x2_51.toNatClampNeg)) fun M5 =>
  bd1 (x2_51 + (1 : Int32)) fun v6 =>
  rc_51 x1_51 v6 M5
noncomputable def g_X12_image_49 (x1_49 : Int32) (M_49 : kD) : Option (Int32 × kD) :=
  lp (fun _ _ _ => none) (g_X12_image_51) 2000 x1_49 (0 : Int32) M_49
noncomputable def g_X12_image_18 (rc_18 : Int32 → Int32 → kD → Option (Int32 × kD)) (x1_18 : Int32) (x2_18 : Int32) (M_18 : kD) : Option (Int32 × kD) :=
  if (279 : Int32) ≤ x2_18 then
  g_X12_image_49 x1_18 M_18
  else
  if x2_18 < 0 ∨ 279 ≤ x2_18.toNatClampNeg then none else
  if (((279 : Int32) * x1_18) + x2_18) < 0 ∨ 558 ≤ (((279 : Int32) * x1_18) + x2_18).toNatClampNeg then none else
  bd1 (kI M_18 46 (((279 : Int32) * x1_18) + x2_18).toNatClampNeg (M_18.1 6 x2_18.toNatClampNeg)) fun M10 =>
  bd1 (x2_18 + (1 : Int32)) fun v11 =>
  rc_18 x1_18 v11 M10
noncomputable def f_X12_image (a0 : Int32) (M : kD) : Option (Int32 × kD) :=
  bd1 (kI M 0 0 (0 : Int32)) fun M13 =>
  if (f_X12_isIn a0 (0 : Int32) (1 : Int32)) = 0 then
  some ((0 : Int32), M13)
  else
  lp (fun _ _ _ => none) (g_X12_image_18) 2000 a0 (0 : Int32) M13
noncomputable def g_X12_restore_60 (rc_60 : Int32 → Int32 → kD → Option (Int32 × kD)) (x1_60 : Int32) (x2_60 : Int32) (M_60 : kD) : Option (Int32 × kD) :=
  if (14 : Int32) ≤ x2_60 then
  bd1 (kI M_60 0 22 (0 : Int32)) fun M1 =>
  some ((1 : Int32), M1)
  else
  bd1 (((14 : Int32) * x1_60) + x2_60) fun v2 =>
  if v2 < 0 ∨ 28 ≤ v2.toNatClampNeg then none else
  if x2_60 < 0 ∨ 28 ≤ x2_60.toNatClampNeg then none else
  bd1 (kL M_60 9 x2_60.toNatClampNeg (M_60.2 47 v2.toNatClampNeg)) fun M5 =>
  bd1 (x2_60 + (1 : Int32)) fun v6 =>
  rc_60 x1_60 v6 M5
noncomputable def g_X12_restore_58 (x1_58 : Int32) (M_58 : kD) : Option (Int32 × kD) :=
  lp (fun _ _ _ => none) (g_X12_restore_60) 2000 x1_58 (0 : Int32) M_58
noncomputable def g_X12_restore_27 (rc_27 : Int32 → Int32 → kD → Option (Int32 × kD)) (x1_27 : Int32) (x2_27 : Int32) (M_27 : kD) : Option (Int32 × kD) :=
  if (279 : Int32) ≤ x2_27 then
  g_X12_restore_58 x1_27 M_27
  else
  bd1 (((279 : Int32) * x1_27) + x2_27) fun v8 =>
  if v8 < 0 ∨ 558 ≤ v8.toNatClampNeg then none else
  if x2_27 < 0 ∨ 279 ≤ x2_27.toNatClampNeg then none else
  bd1 (kI M_27 6 x2_27.toNatClampNeg (M_27.1 46 v8.toNatClampNeg)) fun M11 =>
  bd1 (x2_27 + (1 : Int32)) fun v12 =>
  rc_27 x1_27 v12 M11
noncomputable def f_X12_restore (a0 : Int32) (M : kD) : Option (Int32 × kD) :=
  bd1 (kI M 0 0 (0 : Int32)) fun M14 =>
  if (f_X12_isIn a0 (0 : Int32) (1 : Int32)) = 0 then
  some ((0 : Int32), M14)
  else
  if a0 < 0 ∨ 2 ≤ a0.toNatClampNeg then none else
  if (M14.1 48 a0.toNatClampNeg) = 0 then
  some ((0 : Int32), M14)
  else
  lp (fun _ _ _ => none) (g_X12_restore_27) 2000 a0 (0 : Int32) M14
noncomputable def f_X12_count (a0 : Int32) (M : kD) : Option (Int32 × kD) :=
  bd1 (kI M 0 0 (0 : Int32)) fun M1 =>
  if a0 = (3 : Int32) then
  some ((M1.1 0 2), M1)
  else
  if (f_X12_isIn a0 (0 : Int32) (2 : Int32)) = 0 then
  some ((-1 : Int32), M1)
  else
  if a0 < 0 ∨ 279 ≤ a0.toNatClampNeg then none else
  some ((M1.1 6 a0.toNatClampNeg), M1)
