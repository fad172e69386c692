/-! the start -/
def mR26 : kD := (kL (kL (kL (kL (kL (kL (kL (kL (kL (kL (kL (kL (kL (kL (kL (kL (kL (kL (kL (kL (kL iX12 10 (0 : Int32).toNatClampNeg (30787852042858085 : Int64)) 10 (1 : Int32).toNatClampNeg (123593897898853 : Int64)) 10 (2 : Int32).toNatClampNeg (461414299507 : Int64)) 10 (3 : Int32).toNatClampNeg (27424514944365171 : Int64)) 10 (4 : Int32).toNatClampNeg (131333279212915 : Int64)) 10 (5 : Int32).toNatClampNeg (1936290931 : Int64)) 10 (6 : Int32).toNatClampNeg (119182682645875 : Int64)) 10 (7 : Int32).toNatClampNeg (125796947750766 : Int64)) 10 (8 : Int32).toNatClampNeg (427020345714 : Int64)) 10 (9 : Int32).toNatClampNeg (6578553 : Int64)) 10 (10 : Int32).toNatClampNeg (28530 : Int64)) 10 (11 : Int32).toNatClampNeg (6385252 : Int64)) 10 (12 : Int32).toNatClampNeg (7237492 : Int64)) 10 (13 : Int32).toNatClampNeg (1751477348 : Int64)) 10 (14 : Int32).toNatClampNeg (119165820433268 : Int64)) 10 (15 : Int32).toNatClampNeg (1836414053 : Int64)) 10 (16 : Int32).toNatClampNeg (1633840229 : Int64)) 10 (17 : Int32).toNatClampNeg (1870095731 : Int64)) 10 (18 : Int32).toNatClampNeg (6909547 : Int64)) 10 (19 : Int32).toNatClampNeg (513021015141 : Int64)) 10 (20 : Int32).toNatClampNeg (121450625394034 : Int64))
set_option maxRecDepth 100000 in
theorem mR_res : ∀ i, i < 21 → mR26.2 10 i = lN (encR (wB (i + 1))) := by decide +kernel
theorem q_minit : ∃ M, f_X12_init iX12 = some M ∧ (∀ b, b ≠ 6 → b ≠ 7 → M.1 b = iX12.1 b) ∧ (∀ k, M.1 6 k = nI 0) ∧ M.2 = mR26.2 := by
  have e : f_X12_init iX12 = bo (f_X12_clears mR26) fun M27 => lp (fun _ _ => none) g_X12_init_210 2000 (nI 0) M27 := by
    unfold f_X12_init
    simp only [↓q_bd]
    rfl
  obtain ⟨M27, c1, c2, c3, c4⟩ := q_clears mR26
  have hR : mR26.1 = iX12.1 := rfl
  rw [e, c1, q_bo]
  refine q_one (fun f i (Q : kD) => lp (fun _ _ => none) g_X12_init_210 f (nI i) Q) (fun i Q => (∀ k, Q.1 6 k = nI 0) ∧ (∀ b, b ≠ 6 → Q.1 b = M27.1 b) ∧ Q.2 = M27.2) (fun r => ∃ M, r = some M ∧ (∀ b, b ≠ 6 → b ≠ 7 → M.1 b = iX12.1 b) ∧ (∀ k, M.1 6 k = nI 0) ∧ M.2 = mR26.2) 39 ?_ ?_ 39 0 2000 M27 (by omega) (by omega) ⟨fun k => by rw [c3 6 (by omega), hR]; rfl, fun _ _ => rfl, rfl⟩
  · intro f i Q _ hi ⟨g1, g2, g3⟩ ih
    simp only [q_lp]
    generalize lp _ g_X12_init_210 f = rc at ih ⊢
    unfold g_X12_init_210
    simp (disch := omega) only [↓q_m1, q_lit, ↓q_bd, q_le, show ¬ 39 ≤ i by omega, ↓reduceIte, q_lt, Nat.not_lt_zero, false_or, q_cl, show ¬ 279 ≤ i by omega, nI_add]
    refine ih _ ⟨fun k => ?_, fun b hb => (if_neg hb).trans (g2 b hb), g3⟩
    show upd (Q.1 6) i (Q.1 7 i) k = _
    by_cases hk : k = i
    · rw [hk, up_eq, g2 7 (by omega)]; exact c2 i hi
    · rw [up_ne hk]; exact g1 k
  · intro f Q ⟨g1, g2, g3⟩
    simp only [q_lp]
    generalize lp _ g_X12_init_210 f = rc
    unfold g_X12_init_210
    simp (disch := omega) only [↓q_m1, q_lit, q_le, Nat.le_refl, ↓reduceIte]
    exact ⟨Q, rfl, fun b h6 h7 => by rw [g2 b h6, c3 b h7, hR], g1, by rw [g3, c4]⟩
/-- all is in order at the start -/
theorem GR_init {T : Nat → Int32} {K Hy P RW : kD} {HS IO IS IN : Nat → kD} {BT IK : Nat → Int32} (hT : ∀ i, T i = nI 0) (k1 : K.1 0 1 = nI 0) (k15 : K.1 0 15 = nI 0) (k16 : K.1 0 16 = nI 0) (k17 : K.1 0 17 = mI) (y0 : Hy.1 0 0 = nI 0) (y1 : Hy.1 0 1 = nI 0) (p3 : P.1 0 3 = nI 0) (w3 : RW.1 0 3 = nI 0) (w4 : RW.1 0 4 = mI) (ik : ∀ i, IK i = nI 0) :
    ∃ M, f_X12_init iX12 = some M ∧ GR 0 0 0 0 [] T K iX3 iX9 iX8 Hy HS BT P RW IO IS IN IK M := by
  obtain ⟨M, e, m1, m6, m2⟩ := q_minit
  have z : ∀ k, k ≠ 25 → k ≠ 29 → M.1 0 k = nI 0 := fun k a b => by
    rw [m1 0 (by omega) (by omega)]
    show (if 0 = 0 ∧ k = 29 then (-1 : Int32) else if 0 = 0 ∧ k = 25 then (-1) else 0) = _
    rw [if_neg (fun h => b h.2), if_neg (fun h => a h.2)]; rfl
  have zb : ∀ b, b ≠ 0 → b ≠ 6 → b ≠ 7 → ∀ k, M.1 b k = nI 0 := fun b b0 b6 b7 k => by
    rw [m1 b b6 b7]
    show (if b = 0 ∧ k = 29 then (-1 : Int32) else if b = 0 ∧ k = 25 then (-1) else 0) = _
    rw [if_neg (fun h => b0 h.1), if_neg (fun h => b0 h.1)]; rfl
  have z25 : M.1 0 25 = mI := by rw [m1 0 (by omega) (by omega)]; rfl
  have z29 : M.1 0 29 = mI := by rw [m1 0 (by omega) (by omega)]; rfl
  have hS9 : ∀ m, m < 6 → ∃ v, v ≤ 0 ∧ (nI 0 : Int32) = nI v ∧ M.1 6 (50 + m) = nI v ∧ (0 ≤ m → v = 0) := fun m _ => ⟨0, Nat.le_refl _, rfl, m6 _, fun _ => rfl⟩
  refine ⟨M, e, ⟨by omega, k1, z 2 (by omega) (by omega), fun i hi => ⟨0, by omega, hT i, ?_⟩⟩, ⟨⟨⟨by omega, by omega⟩, ⟨m6 0, m6 1, rfl, rfl, (m6 2).symm⟩, fun m h => absurd h (Nat.not_lt_zero m), fun m h => absurd h (Nat.not_lt_zero m), fun m h => absurd h (Nat.not_lt_zero m), fun m h => absurd h (Nat.not_lt_zero m)⟩, fun m h => absurd h (Nat.not_lt_zero m), fun m h => absurd h (Nat.not_lt_zero m), fun m h => absurd h (Nat.not_lt_zero m), fun m _ _ => ⟨m6 _, m6 _⟩, fun m _ _ => ⟨m6 _, m6 _, m6 _⟩⟩, ⟨0, 0, 0, 0, 0, 0, by omega, ⟨⟨by omega, by omega, by omega, Iff.rfl, by decide⟩, ⟨rfl, m6 _, rfl, m6 _, rfl, m6 _, rfl, m6 _, (m6 _).symm⟩, fun m h => absurd h (Nat.not_lt_zero m), fun m hm => ⟨0, Nat.le_refl _, rfl, m6 _, fun _ => rfl⟩, fun m hm => ⟨0, Nat.le_refl _, rfl, m6 _, fun _ => rfl⟩, fun i hi => ⟨(m6 _).symm, fun _ => m6 _, 0, by omega, m6 _⟩⟩, ⟨by omega, by omega, y0, y1, fun i hi => absurd hi (Nat.not_lt_zero i)⟩, z 22 (by omega) (by omega)⟩, RSN_0 rfl (m6 _), Or.inl ⟨k15, z 38 (by omega) (by omega)⟩, k16.trans (z 15 (by omega) (by omega)).symm, ⟨0, by omega, p3, fun _ => z25, fun h => absurd rfl h, fun k h => absurd h (Nat.not_lt_zero k)⟩, ⟨0, by omega, w3, ⟨fun _ => z29, fun h => absurd rfl h⟩, fun k h => absurd h (Nat.not_lt_zero k), fun _ => w4, fun h => absurd rfl h⟩, Or.inl ⟨k17, z 32 (by omega) (by omega)⟩, fun i hi => Or.inl ⟨ik i, zb 48 (by omega) (by omega) (by omega) i⟩, ⟨by decide, z 34 (by omega) (by omega), fun i hi => absurd hi (Nat.not_lt_zero i)⟩, ?_⟩
  · rw [zb 1 (by omega) (by omega) (by omega)]; rfl
  · unfold WT
    rw [m2]
    exact ⟨fun i hi => ⟨i + 1, by omega, by omega, mR_res i hi⟩, fun w h1 h2 => ⟨w - 1, by omega, by rw [mR_res (w - 1) (by omega), show w - 1 + 1 = w by omega]⟩⟩
