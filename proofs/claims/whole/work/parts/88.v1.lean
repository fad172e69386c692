/-! machine-free: MACHINE, PART (the class's functions by hand: none inside: it throws) -/
noncomputable def f_X11_machine (a0 a1 : Int32) (O S : kD) : Option (Option Int32) :=
  if (f_X3_hasMachine a0 O) = 0 then
  some none
  else
  if a1 = 0 then
  if a0 < 0 ∨ 6 ≤ a0.toNatClampNeg then none else
  some (some (S.1 5 a0.toNatClampNeg))
  else
  if a1 = 1 then
  if a0 < 0 ∨ 6 ≤ a0.toNatClampNeg then none else
  some (some (O.1 6 a0.toNatClampNeg))
  else
  if a1 = 2 then
  if (f_X9_isHeld a0 S) = 0 then
  some (some (0 : Int32))
  else
  some (some (1 : Int32))
  else
  if a1 = 3 then
  if a0 < 0 ∨ 6 ≤ a0.toNatClampNeg then none else
  some (some (S.1 6 a0.toNatClampNeg))
  else
  if a1 = 4 then
  if a0 < 0 ∨ 6 ≤ a0.toNatClampNeg then none else
  some (some (S.1 7 a0.toNatClampNeg))
  else
  if a1 = 5 then
  bo (f_X9_phrasesAble a0 S O) fun v1 =>
  some (some v1)
  else
  if a1 = 6 then
  bo (f_X9_owedBy a0 S) fun v2 =>
  some (some v2)
  else
  if a1 = 7 then
  bo (f_X9_owedTo a0 S) fun v3 =>
  some (some v3)
  else
  some none
noncomputable def f_X11_part (a0 a1 : Int32) (O S : kD) : Option (Option Int32) :=
  bo (f_X11_sumOf 6 (S.1 7)) fun v1 =>
  if (f_X3_hasMachine a0 O) = 0 then
  some none
  else
  if a1 < 0 then
  some none
  else
  if 1 < a1 then
  some none
  else
  if v1 ≤ 0 then
  some none
  else
  if a0 < 0 ∨ 6 ≤ a0.toNatClampNeg then none else
  if a1 = 0 then
  bo (f_X11_commonDivisor (S.1 7 a0.toNatClampNeg) v1) fun v2 =>
  if v2 = 0 then none else
  some (some ((S.1 7 a0.toNatClampNeg) / v2))
  else
  bo (f_X11_commonDivisor (S.1 7 a0.toNatClampNeg) v1) fun v2 =>
  if v2 = 0 then none else
  some (some (v1 / v2))
/-- both sides' answers where a throw may be one -/
def TH (M : kD) (C : Option (Option Int32)) (D : Option (Int32 × kD)) : Prop := (C = some none ∧ ∃ r, D = some (r, kI M 0 0 (nI 1))) ∨ ∃ v, C = some (some v) ∧ D = some (v, kI M 0 0 (nI 0))
theorem b_h1 : ∀ h, h < 64 → ∀ m, m < 6 → (nI h >>> (nI m &&& nI 31)) &&& nI 1 = q_b (h.testBit m) := by decide +kernel
theorem q_thr1 (M : kD) : f_X12_throwsIf (nI 1) M = some (nI 1, kI M 0 0 (nI 1)) := by
  unfold f_X12_throwsIf
  simp only [↓q_m1, q_lit, ↓q_bd]
  rw [if_neg n10, if_neg (fun h => h (Or.inr trivial))]
theorem q_thr0 (M : kD) : f_X12_throwsIf (nI 0) M = some (nI 0, kI M 0 0 (nI 0)) := by
  unfold f_X12_throwsIf
  simp only [↓q_m1, q_lit, ↓q_bd]
  rw [if_pos trivial, if_neg (fun h => h (Or.inl trivial))]
theorem q_owB {nm np d lt w h B : Nat} {S : kD} {s : Nat → Int32} (hn : nm ≤ 6) (hs : RS nm np d lt w h B S s) {m : Nat} (hm : m < nm) :
    smI (fun k => S.1 8 (m * 6 + k)) 6 = smI (fun k => s (62 + (m * 6 + k))) nm ∧ smI (fun k => S.1 8 (k * 6 + m)) 6 = smI (fun k => s (62 + (k * 6 + m))) nm := by
  have hdb := hs.2.2.2.2.2
  refine ⟨?_, ?_⟩
  · rw [smI_cut _ nm 6 hn (fun k h1 h2 => ?_)]
    · exact smI_cg _ _ nm (fun k hk => (hdb (m * 6 + k) (by omega)).1)
    · show S.1 8 (m * 6 + k) = nI 0
      rw [(hdb (m * 6 + k) (by omega)).1, (hdb (m * 6 + k) (by omega)).2.1 (Or.inr (by omega))]
  · rw [smI_cut _ nm 6 hn (fun k h1 h2 => ?_)]
    · exact smI_cg _ _ nm (fun k hk => (hdb (k * 6 + m) (by omega)).1)
    · show S.1 8 (k * 6 + m) = nI 0
      rw [(hdb (k * 6 + m) (by omega)).1, (hdb (k * 6 + m) (by omega)).2.1 (Or.inl (by omega))]
theorem q_machine {nm np d lt w h B : Nat} {O S M : kD} (ho : RO nm np O (M.1 6)) (hs : RS nm np d lt w h B S (M.1 6)) (a b : Int32) : TH M (f_X11_machine a b O S) (f_X12_machine a b M) := by
  have hn := ho.1.1
  have e0 : M.1 6 0 = nI nm := ho.2.1.1
  have e2 : O.1 0 1 = nI nm := ho.2.1.2.2.1
  have hth : ∀ x, g_X12_machine_19 a x M = some (nI 0, kI M 0 0 (nI 1)) := by
    intro x
    unfold g_X12_machine_19 g_X12_machine_24
    simp only [↓q_m1, q_lit]
    rw [q_thr1, q_bo2, if_neg n10]
  unfold f_X11_machine f_X12_machine
  simp only [↓q_m1, q_lit]
  rcases q_mach hn e2 e0 a with ⟨m, hm, rfl, hm1, hm2⟩ | ⟨-, hm1, hm2⟩
  · rw [hm1, hm2, q_bo, if_neg n10, if_neg n10]
    rcases q_isIn 0 0 7 b (by omega) (by omega) with ⟨x, x1, x2, rfl, x3⟩ | ⟨x1, x3, x4⟩
    · rw [x3, if_neg n10]
      obtain ⟨i5, _, a5, b5⟩ := hs.2.2.1 m hm
      obtain ⟨i6, _, a6, b6, _⟩ := hs.2.2.2.1 m (by omega)
      obtain ⟨i7, _, a7, b7, _⟩ := hs.2.2.2.2.1 m (by omega)
      obtain ⟨kk, _, a9, b9⟩ := ho.2.2.1 m hm
      obtain ⟨hb1, _⟩ := q_held hs hn hm
      have hh := hs.1.2.2.2.2
      have h42 : M.1 6 42 = nI h := hs.2.1.2.2.2.2.2.2.2.1
      obtain ⟨p, p1, p2, -⟩ := q_could (M := kI M 0 0 (nI 0)) ho hs hm
      obtain ⟨w1, w2⟩ := q_owB hn hs hm
      have ob := q_owedBy S (show m < 6 by omega)
      have ot := q_owedTo S (show m < 6 by omega)
      rw [w1] at ob
      rw [w2] at ot
      have mb : f_X12_owedBy (nI m) (nI 1) (kI M 0 0 (nI 0)) = some (smI (fun k => M.1 6 (62 + (m * 6 + k))) nm) := q_owed12 (M := kI M 0 0 (nI 0)) hn e0 (show m < 6 by omega) true
      have mt : f_X12_owedBy (nI m) (nI 0) (kI M 0 0 (nI 0)) = some (smI (fun k => M.1 6 (62 + (k * 6 + m))) nm) := q_owed12 (M := kI M 0 0 (nI 0)) hn e0 (show m < 6 by omega) false
      have z6 : ∀ j, (kI M 0 0 (nI 0)).1 6 j = M.1 6 j := fun j => rfl
      have hx : x = 0 ∨ x = 1 ∨ x = 2 ∨ x = 3 ∨ x = 4 ∨ x = 5 ∨ x = 6 ∨ x = 7 := by omega
      unfold g_X12_machine_24 g_X12_machine_143
      simp only [↓q_m1, q_lit]
      rw [q_thr0, q_bo2, if_pos rfl]
      rcases hx with rfl | rfl | rfl | rfl | rfl | rfl | rfl | rfl <;>
        simp (disch := omega) only [↓q_m1, q_lit, ↓q_bd, q_eq, Nat.reduceEqDiff, ↓reduceIte, q_lt, Nat.not_lt_zero, false_or, q_cl, show ¬ 6 ≤ m by omega, a5, a6, a7, a9, nI_add, show ¬ 279 ≤ 44 + m by omega, show ¬ 279 ≤ 9 + m by omega, show ¬ 279 ≤ 50 + m by omega, show ¬ 279 ≤ 56 + m by omega, z6, b5, b6, b7, b9, hb1, h42, b_h1 h (q_h64 hn hh) m (by omega), p1, p2, ob, ot, mb, mt, ↓q_bo]
      · exact Or.inr ⟨_, rfl, rfl⟩
      · exact Or.inr ⟨_, rfl, rfl⟩
      · refine Or.inr ⟨q_b (h.testBit m), ?_, rfl⟩
        cases h.testBit m <;> rfl
      · exact Or.inr ⟨_, rfl, rfl⟩
      · exact Or.inr ⟨_, rfl, rfl⟩
      · exact Or.inr ⟨_, rfl, rfl⟩
      · exact Or.inr ⟨_, rfl, rfl⟩
      · exact Or.inr ⟨_, rfl, rfl⟩
    · rw [x3, if_pos rfl, hth]
      rw [if_neg (x1 0 (by omega) (by omega)), if_neg (x1 1 (by omega) (by omega)), if_neg (x1 2 (by omega) (by omega)), if_neg (x1 3 (by omega) (by omega)), if_neg (x1 4 (by omega) (by omega)), if_neg (x1 5 (by omega) (by omega)), if_neg (x1 6 (by omega) (by omega)), if_neg (x1 7 (by omega) (by omega))]
      exact Or.inl ⟨rfl, _, rfl⟩
  · rw [hm1, hm2, q_bo, if_pos rfl, if_pos rfl, hth]
    exact Or.inl ⟨rfl, _, rfl⟩
theorem q_part {nm np d lt w h B : Nat} {O S M : kD} (ho : RO nm np O (M.1 6)) (hs : RS nm np d lt w h B S (M.1 6)) (hB : B ≤ 300000000) (a b : Int32) : TH M (f_X11_part a b O S) (f_X12_part a b M) := by
  have hn := ho.1.1
  have e0 : M.1 6 0 = nI nm := ho.2.1.1
  have e2 : O.1 0 1 = nI nm := ho.2.1.2.2.1
  have hth : ∀ x, g_X12_part_27 a x M = some (nI 0, kI M 0 0 (nI 1)) := by
    intro x
    unfold g_X12_part_27 g_X12_part_32
    simp only [↓q_m1, q_lit]
    rw [q_thr1, q_bo2, if_neg n10]
  -- the sum of all letters
  have hv : ∃ f : Nat → Nat, ∀ m, m < 6 → f m ≤ B ∧ S.1 7 m = nI (f m) ∧ M.1 6 (56 + m) = nI (f m) ∧ (nm ≤ m → f m = 0) := by
    refine ⟨fun m => (S.1 7 m).toNatClampNeg, fun m hm => ?_⟩
    obtain ⟨v, v1, v2, v3, v4⟩ := hs.2.2.2.2.1 m hm
    have : (S.1 7 m).toNatClampNeg = v := by rw [v2, q_cl (by omega)]
    show (S.1 7 m).toNatClampNeg ≤ B ∧ S.1 7 m = nI (S.1 7 m).toNatClampNeg ∧ M.1 6 (56 + m) = nI (S.1 7 m).toNatClampNeg ∧ (nm ≤ m → (S.1 7 m).toNatClampNeg = 0)
    rw [this]
    exact ⟨v1, v2, v3, v4⟩
  obtain ⟨f, hf⟩ := hv
  have hsum : smN f nm ≤ 6 * B := smN_le6 f nm B hn (fun k hk => (hf k (by omega)).1)
  have hC : f_X11_sumOf 6 (S.1 7) = some (nI (smN f nm)) := by
    rw [q_sum 6 (S.1 7) (by omega), smI_N (S.1 7) f 6 (fun m hm => (hf m hm).2.1), smN_cut f nm 6 hn (fun k h1 h2 => (hf k h2).2.2.2 h1)]
  have hM : ∀ X : kD, X.1 6 = M.1 6 → f_X12_sumOf (nI 56) X = some (nI (smN f nm)) := by
    intro X hX
    rw [q_sum12 (M := X) hn (by rw [hX]; exact e0) 56 (by omega), smI_N _ f nm (fun m hm => by rw [hX]; exact (hf m (by omega)).2.2.1)]
  unfold f_X11_part f_X12_part
  simp only [↓q_m1, q_lit]
  rw [hC, q_bo]
  rcases q_mach hn e2 e0 a with ⟨m, hm, rfl, hm1, hm2⟩ | ⟨-, hm1, hm2⟩
  · rw [hm1, hm2, q_bo, if_neg n10, if_neg n10]
    rcases q_isIn 0 0 1 b (by omega) (by omega) with ⟨x, x1, x2, rfl, x3⟩ | ⟨x1, x3, x4⟩
    · rw [x3, if_neg n10, hM M rfl, q_bo, if_neg (show ¬ nI x < nI 0 by rw [q_lt (by omega) (by omega)]; omega), if_neg (show ¬ nI 1 < nI x by rw [q_lt (by omega) (by omega)]; omega)]
      by_cases hz : smN f nm = 0
      · rw [hz, if_pos (Int32.le_refl _), if_pos rfl, hth]
        exact Or.inl ⟨rfl, _, rfl⟩
      · have hpos : 0 < smN f nm := Nat.pos_of_ne_zero hz
        have hall : smN f nm < 2 ^ 31 := by omega
        obtain ⟨f1, f2, f3, _⟩ := hf m (by omega)
        have hfm : f m < 2 ^ 31 := by omega
        have hg0 : 0 < Nat.gcd (f m) (smN f nm) := Nat.gcd_pos_of_pos_right _ hpos
        have hgl : Nat.gcd (f m) (smN f nm) < 2 ^ 31 := gcd_lt hfm hall
        have hgz : ¬ nI (Nat.gcd (f m) (smN f nm)) = nI 0 := by rw [q_eq hgl (by omega)]; omega
        have hcd := q_cd hfm hall (Or.inr hpos)
        have hcr := q_cdR hall hfm
        rw [Nat.gcd_comm] at hcr
        have z6 : (kI M 0 0 (nI 0)).1 6 = M.1 6 := rfl
        have h62 : ∀ t, g_X12_part_62 (nI m) t (kI M 0 0 (nI 0)) = some (t / nI (Nat.gcd (f m) (smN f nm)), kI M 0 0 (nI 0)) := by
          intro t
          unfold g_X12_part_62
          simp (disch := omega) only [↓q_m1, q_lit, ↓q_bd, hM (kI M 0 0 (nI 0)) z6, ↓q_bo, nI_add, q_lt, Nat.not_lt_zero, false_or, q_cl, show ¬ 279 ≤ 56 + m by omega, ↓reduceIte, z6, f3, hcr]
          rw [if_neg hgz]
        rw [if_neg (show ¬ nI (smN f nm) ≤ nI 0 by rw [q_le hall (by omega)]; omega), if_neg (show ¬ nI (smN f nm) = nI 0 by rw [q_eq hall (by omega)]; exact hz)]
        unfold g_X12_part_32
        simp only [↓q_m1, q_lit]
        rw [q_thr0, q_bo2, if_pos rfl]
        simp (disch := omega) only [q_cl, q_lt, Nat.not_lt_zero, false_or, show ¬ 6 ≤ m by omega, ↓reduceIte, f2, hcd, ↓q_bo, nI_add, show ¬ 279 ≤ 56 + m by omega, z6, f3, h62, hM (kI M 0 0 (nI 0)) z6, ↓q_bd]
        rw [if_neg hgz, if_neg hgz]
        by_cases hx0 : nI x = nI 0
        · rw [if_pos hx0, if_pos hx0]
          exact Or.inr ⟨_, rfl, rfl⟩
        · rw [if_neg hx0, if_neg hx0]
          exact Or.inr ⟨_, rfl, rfl⟩
    · rw [x3, if_pos rfl, hth]
      refine Or.inl ⟨?_, _, rfl⟩
      rcases x4 with x4 | x4
      · rw [if_pos x4]
      · rw [if_pos x4, ite_self]
  · rw [hm1, hm2, q_bo, if_pos rfl, if_pos rfl, hth]
    exact Or.inl ⟨rfl, _, rfl⟩
