/-! throws: what the class's own NoSuchElementException asks -/
def kTh (A : Nat → Prop) (U : State) (H : Heap) : Prop := (va_Nw (.castable "java/util/NoSuchElementException" "java/util/NoSuchElementException") U ∧ va_Nw (.declares ⟨"java/lang/RuntimeException", "<init>", "()V"⟩) U ∧ va_Nw (.declares ⟨"java/lang/Exception", "<init>", "()V"⟩) U ∧ va_Nw (.declares ⟨"java/lang/Throwable", "<init>", "()V"⟩) U) ∧ vx_Zq Bundle.tN "UNASSIGNED_STACK" Bundle.steD A U H ∧ vx_Zq Bundle.tN "SUPPRESSED_SENTINEL" Bundle.listD A U H
theorem kTh.bl {A : Nat → Prop} {as : Array Value} {U : State} {g : JFrame} {mk : MethodId} (h : kTh A U U.heap) : kTh A (U.calling g mk as) (U.calling g mk as).heap := ⟨⟨va_Nw.same rfl rfl h.1.1, va_Nw.same rfl rfl h.1.2.1, va_Nw.same rfl rfl h.1.2.2.1, va_Nw.same rfl rfl h.1.2.2.2⟩, vx_Zq.moved (u := U) (U := U.calling g mk as) (Vm.Alike.refl U.vm) h.2.1, vx_Zq.moved (u := U) (U := U.calling g mk as) (Vm.Alike.refl U.vm) h.2.2⟩
theorem kTh.at {A B : Nat → Prop} {s : State} {H : Heap} {locs : List Loc} (h : kTh A s s.heap) (hS : va_S A s.heap H locs) (hAB : ∀ q, B q → A q) : ∀ U : State, U.heap = H → s.WarmedH U.vm → kTh B U U.heap := fun U hU hW => by
  rw [hU]
  exact ⟨⟨va_Nw.warmC hW h.1.1, va_Nw.warmD hW h.1.2.1, va_Nw.warmD hW h.1.2.2.1, va_Nw.warmD hW h.1.2.2.2⟩, vx_Zq.moved hW.alike ((h.2.1.kept hS.2.1).narrow hAB), vx_Zq.moved hW.alike ((h.2.2.kept hS.2.1).narrow hAB)⟩
abbrev xT : String → State → State → Prop := vx_X (fun _ : Unit => True) (fun E _ _ => E = "java/util/NoSuchElementException") kF
abbrev x0 : String → State → State → Prop := vx_X (fun _ : Unit => False) (fun _ _ _ => True) kF
abbrev qN : Array Value → State → Outcome → State → Prop := va_Qi (fun (_ : Int32) (_ : Unit) => False) (fun _ _ => True) kF

theorem fV_machine_of {a0 a1 v : Int32} {K C O S N : kD} (h : f_X11_machine a0 a1 O S = some (some v)) : fV_machine a0 a1 K C O S N = some v := by
  have key : fV_machine a0 a1 K C O S N = (f_X11_machine a0 a1 O S).bind id := by
    unfold fV_machine f_X11_machine
    by_cases h0 : f_X3_hasMachine a0 O = 0
    · rw [if_pos h0, if_pos h0]; rfl
    rw [if_neg h0, if_neg h0]
    by_cases h1 : a1 = 0
    · rw [if_pos h1, if_pos h1]
      by_cases h9 : a0 < 0 ∨ 6 ≤ a0.toNatClampNeg
      · rw [if_pos h9, if_pos h9]; rfl
      · rw [if_neg h9, if_neg h9]; rfl
    rw [if_neg h1, if_neg h1]
    by_cases h2 : a1 = 1
    · rw [if_pos h2, if_pos h2]
      by_cases h9 : a0 < 0 ∨ 6 ≤ a0.toNatClampNeg
      · rw [if_pos h9, if_pos h9]; rfl
      · rw [if_neg h9, if_neg h9]; rfl
    rw [if_neg h2, if_neg h2]
    by_cases h3 : a1 = 2
    · rw [if_pos h3, if_pos h3]
      by_cases h9 : f_X9_isHeld a0 S = 0
      · rw [if_pos h9, if_pos h9]; rfl
      · rw [if_neg h9, if_neg h9]; rfl
    rw [if_neg h3, if_neg h3]
    by_cases h4 : a1 = 3
    · rw [if_pos h4, if_pos h4]
      by_cases h9 : a0 < 0 ∨ 6 ≤ a0.toNatClampNeg
      · rw [if_pos h9, if_pos h9]; rfl
      · rw [if_neg h9, if_neg h9]; rfl
    rw [if_neg h4, if_neg h4]
    by_cases h5 : a1 = 4
    · rw [if_pos h5, if_pos h5]
      by_cases h9 : a0 < 0 ∨ 6 ≤ a0.toNatClampNeg
      · rw [if_pos h9, if_pos h9]; rfl
      · rw [if_neg h9, if_neg h9]; rfl
    rw [if_neg h5, if_neg h5]
    by_cases h6 : a1 = 5
    · rw [if_pos h6, if_pos h6]
      cases f_X9_phrasesAble a0 S O <;> rfl
    rw [if_neg h6, if_neg h6]
    by_cases h7 : a1 = 6
    · rw [if_pos h7, if_pos h7]
      cases f_X9_owedBy a0 S <;> rfl
    rw [if_neg h7, if_neg h7]
    by_cases h8 : a1 = 7
    · rw [if_pos h8, if_pos h8]
      cases f_X9_owedTo a0 S <;> rfl
    rw [if_neg h8, if_neg h8]
    rfl
  rw [key, h]; rfl
theorem f_machine_T {a0 a1 : Int32} {O S : kD} (h : f_X11_machine a0 a1 O S = some none) : f_X3_hasMachine a0 O = 0 ∨ (¬ f_X3_hasMachine a0 O = 0 ∧ (a1.toInt < 0 ∨ 7 < a1.toInt)) := by
  unfold f_X11_machine at h
  by_cases h0 : f_X3_hasMachine a0 O = 0
  · exact Or.inl h0
  rw [if_neg h0] at h
  by_cases h1 : a1 = 0
  · rw [if_pos h1] at h
    by_cases h9 : a0 < 0 ∨ 6 ≤ a0.toNatClampNeg
    · rw [if_pos h9] at h; cases h
    · rw [if_neg h9] at h; cases h
  rw [if_neg h1] at h
  by_cases h2 : a1 = 1
  · rw [if_pos h2] at h
    by_cases h9 : a0 < 0 ∨ 6 ≤ a0.toNatClampNeg
    · rw [if_pos h9] at h; cases h
    · rw [if_neg h9] at h; cases h
  rw [if_neg h2] at h
  by_cases h3 : a1 = 2
  · rw [if_pos h3] at h
    by_cases h9 : f_X9_isHeld a0 S = 0
    · rw [if_pos h9] at h; cases h
    · rw [if_neg h9] at h; cases h
  rw [if_neg h3] at h
  by_cases h4 : a1 = 3
  · rw [if_pos h4] at h
    by_cases h9 : a0 < 0 ∨ 6 ≤ a0.toNatClampNeg
    · rw [if_pos h9] at h; cases h
    · rw [if_neg h9] at h; cases h
  rw [if_neg h4] at h
  by_cases h5 : a1 = 4
  · rw [if_pos h5] at h
    by_cases h9 : a0 < 0 ∨ 6 ≤ a0.toNatClampNeg
    · rw [if_pos h9] at h; cases h
    · rw [if_neg h9] at h; cases h
  rw [if_neg h5] at h
  by_cases h6 : a1 = 5
  · rw [if_pos h6] at h
    obtain ⟨v, -, h⟩ := bo_e h
    cases h
  rw [if_neg h6] at h
  by_cases h7 : a1 = 6
  · rw [if_pos h7] at h
    obtain ⟨v, -, h⟩ := bo_e h
    cases h
  rw [if_neg h7] at h
  by_cases h8 : a1 = 7
  · rw [if_pos h8] at h
    obtain ⟨v, -, h⟩ := bo_e h
    cases h
  rw [if_neg h8] at h
  refine Or.inr ⟨h0, ?_⟩
  by_cases hr : a1.toInt < 0 ∨ 7 < a1.toInt
  · exact hr
  exfalso
  obtain ⟨j, hj, rfl⟩ : ∃ j : Nat, j < 8 ∧ a1 = nI j := ⟨a1.toInt.toNat, by omega, by rw [← Int32.toInt_inj, nI_toInt (by omega)]; omega⟩
  have hc : j = 0 ∨ j = 1 ∨ j = 2 ∨ j = 3 ∨ j = 4 ∨ j = 5 ∨ j = 6 ∨ j = 7 := by omega
  rcases hc with rfl | rfl | rfl | rfl | rfl | rfl | rfl | rfl
  · exact h1 rfl
  · exact h2 rfl
  · exact h3 rfl
  · exact h4 rfl
  · exact h5 rfl
  · exact h6 rfl
  · exact h7 rfl
  · exact h8 rfl
theorem fV_part_of {a0 a1 v : Int32} {K C O S N : kD} (h : f_X11_part a0 a1 O S = some (some v)) : fV_part a0 a1 K C O S N = some v := by
  unfold f_X11_part at h
  obtain ⟨v1, e1, h⟩ := bo_e h
  unfold fV_part gV_part_41 gV_part_73 bd1
  rw [e1]
  by_cases h0 : f_X3_hasMachine a0 O = 0
  · rw [if_pos h0] at h; cases h
  rw [if_neg h0] at h
  by_cases h1 : a1 < 0
  · rw [if_pos h1] at h; cases h
  rw [if_neg h1] at h
  by_cases h2 : (1 : Int32) < a1
  · rw [if_pos h2] at h; cases h
  rw [if_neg h2] at h
  by_cases h3 : v1 ≤ 0
  · rw [if_pos h3] at h; cases h
  rw [if_neg h3] at h
  have h4 : (0 : Int32) < v1 := Int32.not_le.mp h3
  by_cases h5 : a0 < 0 ∨ 6 ≤ a0.toNatClampNeg
  · rw [if_pos h5] at h; cases h
  rw [if_neg h5] at h
  show (if f_X3_hasMachine a0 O = 0 then none else if a1 < 0 then none else if (1 : Int32) < a1 then none else if 0 < v1 then _ else none) = some v
  rw [if_neg h0, if_neg h1, if_neg h2, if_pos h4, if_neg h5]
  by_cases h6 : a1 = 0
  · rw [if_pos h6] at h
    obtain ⟨v2, e2, h⟩ := bo_e h
    by_cases h7 : v2 = 0
    · rw [if_pos h7] at h; cases h
    rw [if_neg h7] at h
    refine (if_pos h6).trans ?_
    rw [e2]
    show (if v2 = 0 then none else _) = _
    rw [if_neg h7]
    exact Option.some.inj h
  · rw [if_neg h6] at h
    obtain ⟨v2, e2, h⟩ := bo_e h
    by_cases h7 : v2 = 0
    · rw [if_pos h7] at h; cases h
    rw [if_neg h7] at h
    refine (if_neg h6).trans ?_
    rw [e2]
    show (if v2 = 0 then none else _) = _
    rw [if_neg h7]
    exact Option.some.inj h
theorem f_part_T {a0 a1 : Int32} {O S : kD} (h : f_X11_part a0 a1 O S = some none) : ∃ v, f_X11_sumOf 6 (S.1 7) = some v ∧ (f_X3_hasMachine a0 O = 0 ∨ (¬ f_X3_hasMachine a0 O = 0 ∧ (a1 < 0 ∨ (¬ a1 < 0 ∧ ((1 : Int32) < a1 ∨ (¬ (1 : Int32) < a1 ∧ ¬ (0 : Int32) < v)))))) := by
  unfold f_X11_part at h
  obtain ⟨v1, e1, h⟩ := bo_e h
  refine ⟨v1, e1, ?_⟩
  by_cases h0 : f_X3_hasMachine a0 O = 0
  · exact Or.inl h0
  rw [if_neg h0] at h
  refine Or.inr ⟨h0, ?_⟩
  by_cases h1 : a1 < 0
  · exact Or.inl h1
  rw [if_neg h1] at h
  refine Or.inr ⟨h1, ?_⟩
  by_cases h2 : (1 : Int32) < a1
  · exact Or.inl h2
  rw [if_neg h2] at h
  refine Or.inr ⟨h2, ?_⟩
  by_cases h3 : v1 ≤ 0
  · exact Int32.not_lt.mpr h3
  rw [if_neg h3] at h
  by_cases h5 : a0 < 0 ∨ 6 ≤ a0.toNatClampNeg
  · rw [if_pos h5] at h; cases h
  rw [if_neg h5] at h
  by_cases h6 : a1 = 0
  · rw [if_pos h6] at h
    obtain ⟨v2, e2, h⟩ := bo_e h
    by_cases h7 : v2 = 0
    · rw [if_pos h7] at h; cases h
    · rw [if_neg h7] at h; cases h
  · rw [if_neg h6] at h
    obtain ⟨v2, e2, h⟩ := bo_e h
    by_cases h7 : v2 = 0
    · rw [if_pos h7] at h; cases h
    · rw [if_neg h7] at h; cases h
