/-! the rows of rows: pure functions (by program) -/
def upR (F : Nat → Nat → Int32) (k : Nat) (f : Nat → Int32) : Nat → Nat → Int32 := fun i => if i = k then f else F i
noncomputable def f_X6_sumWithout (a1 : Int32) (nA : Nat) (A : Nat → Int32) : Option Int32 :=
  if a1 < 0 then
  some (0 : Int32)
  else
  if (Int32.ofNat nA) ≤ a1 then
  some (0 : Int32)
  else
  bo (f_X11_sumOf nA A) fun v2 =>
  if a1 < 0 ∨ nA ≤ a1.toNatClampNeg then none else
  some (v2 - (A a1.toNatClampNeg))
noncomputable def g_X6_keepFirst_47 (rc_4 : Int32 → Int32 → kD → Option kD) (UF : Nat → Nat → Int32) (VF : Nat → Nat → Int32) (x2_47 : Int32) (x3_47 : Int32) (RW_47 : kD) : Option kD :=
  if x2_47 < 0 ∨ 9 ≤ x2_47.toNatClampNeg then none else
  bd1 (kI RW_47 2 x2_47.toNatClampNeg x3_47) fun RWv2 =>
  bd1 (x2_47 + (1 : Int32)) fun v3 =>
  rc_4 x3_47 v3 RWv2
noncomputable def g_X6_keepFirst_41 (rc_4 : Int32 → Int32 → kD → Option kD) (rc_20 : Int32 → Int32 → Int32 → kD → Option kD) (UF : Nat → Nat → Int32) (VF : Nat → Nat → Int32) (x1_41 : Int32) (x2_41 : Int32) (x3_41 : Int32) (RW_41 : kD) : Option kD :=
  bd1 (x3_41 + (1 : Int32)) fun v4 =>
  rc_20 x1_41 x2_41 v4 RW_41
noncomputable def g_X6_keepFirst_20 (rc_4 : Int32 → Int32 → kD → Option kD) (UF : Nat → Nat → Int32) (VF : Nat → Nat → Int32) (rc_20 : Int32 → Int32 → Int32 → kD → Option kD) (x1_20 : Int32) (x2_20 : Int32) (x3_20 : Int32) (RW_20 : kD) : Option kD :=
  if (5 : Int32) ≤ x3_20 then
  g_X6_keepFirst_47 rc_4 UF VF x2_20 x3_20 RW_20
  else
  if x3_20 = x1_20 then
  g_X6_keepFirst_41 rc_4 rc_20 UF VF x1_20 x2_20 x3_20 RW_20
  else
  if x2_20 < 0 ∨ 9 ≤ x2_20.toNatClampNeg then none else
  if x2_20 = 0 then
  if x3_20 < 0 ∨ 6 ≤ x3_20.toNatClampNeg then none else
  if ((VF 0) x3_20.toNatClampNeg) = 0 then
  g_X6_keepFirst_41 rc_4 rc_20 UF VF x1_20 x2_20 x3_20 RW_20
  else
  g_X6_keepFirst_47 rc_4 UF VF x2_20 x3_20 RW_20
  else
  if x2_20 = 1 then
  if x3_20 < 0 ∨ 6 ≤ x3_20.toNatClampNeg then none else
  if ((VF 1) x3_20.toNatClampNeg) = 0 then
  g_X6_keepFirst_41 rc_4 rc_20 UF VF x1_20 x2_20 x3_20 RW_20
  else
  g_X6_keepFirst_47 rc_4 UF VF x2_20 x3_20 RW_20
  else
  if x2_20 = 2 then
  if x3_20 < 0 ∨ 6 ≤ x3_20.toNatClampNeg then none else
  if ((VF 2) x3_20.toNatClampNeg) = 0 then
  g_X6_keepFirst_41 rc_4 rc_20 UF VF x1_20 x2_20 x3_20 RW_20
  else
  g_X6_keepFirst_47 rc_4 UF VF x2_20 x3_20 RW_20
  else
  if x2_20 = 3 then
  if x3_20 < 0 ∨ 6 ≤ x3_20.toNatClampNeg then none else
  if ((VF 3) x3_20.toNatClampNeg) = 0 then
  g_X6_keepFirst_41 rc_4 rc_20 UF VF x1_20 x2_20 x3_20 RW_20
  else
  g_X6_keepFirst_47 rc_4 UF VF x2_20 x3_20 RW_20
  else
  if x2_20 = 4 then
  if x3_20 < 0 ∨ 6 ≤ x3_20.toNatClampNeg then none else
  if ((VF 4) x3_20.toNatClampNeg) = 0 then
  g_X6_keepFirst_41 rc_4 rc_20 UF VF x1_20 x2_20 x3_20 RW_20
  else
  g_X6_keepFirst_47 rc_4 UF VF x2_20 x3_20 RW_20
  else
  if x2_20 = 5 then
  if x3_20 < 0 ∨ 6 ≤ x3_20.toNatClampNeg then none else
  if ((VF 5) x3_20.toNatClampNeg) = 0 then
  g_X6_keepFirst_41 rc_4 rc_20 UF VF x1_20 x2_20 x3_20 RW_20
  else
  g_X6_keepFirst_47 rc_4 UF VF x2_20 x3_20 RW_20
  else
  if x2_20 = 6 then
  if x3_20 < 0 ∨ 6 ≤ x3_20.toNatClampNeg then none else
  if ((VF 6) x3_20.toNatClampNeg) = 0 then
  g_X6_keepFirst_41 rc_4 rc_20 UF VF x1_20 x2_20 x3_20 RW_20
  else
  g_X6_keepFirst_47 rc_4 UF VF x2_20 x3_20 RW_20
  else
  if x2_20 = 7 then
  if x3_20 < 0 ∨ 6 ≤ x3_20.toNatClampNeg then none else
  if ((VF 7) x3_20.toNatClampNeg) = 0 then
  g_X6_keepFirst_41 rc_4 rc_20 UF VF x1_20 x2_20 x3_20 RW_20
  else
  g_X6_keepFirst_47 rc_4 UF VF x2_20 x3_20 RW_20
  else
  if x2_20 = 8 then
  if x3_20 < 0 ∨ 6 ≤ x3_20.toNatClampNeg then none else
  if ((VF 8) x3_20.toNatClampNeg) = 0 then
  g_X6_keepFirst_41 rc_4 rc_20 UF VF x1_20 x2_20 x3_20 RW_20
  else
  g_X6_keepFirst_47 rc_4 UF VF x2_20 x3_20 RW_20
  else
  none
noncomputable def g_X6_keepFirst_4 (UF : Nat → Nat → Int32) (VF : Nat → Nat → Int32) (rc_4 : Int32 → Int32 → kD → Option kD) (x1_4 : Int32) (x2_4 : Int32) (RW_4 : kD) : Option kD :=
  if (RW_4.1 0 3) ≤ x2_4 then
  some RW_4
  else
  if (9 : Int32) ≤ x2_4 then
  some RW_4
  else
  lp (fun _ _ _ _ => none) (g_X6_keepFirst_20 rc_4 UF VF) 2000 x1_4 x2_4 (0 : Int32) RW_4
noncomputable def f_X6_keepFirst (RW : kD) (UF : Nat → Nat → Int32) (VF : Nat → Nat → Int32) : Option kD :=
  lp (fun _ _ _ => none) (g_X6_keepFirst_4 UF VF) 2000 (-1 : Int32) (0 : Int32) RW
noncomputable def g_X6_keepAskPlace_76 (rc_4 : Int32 → Int32 → kD → Option kD) (UF : Nat → Nat → Int32) (VF : Nat → Nat → Int32) (x1_76 : Int32) (x2_76 : Int32) (RW_76 : kD) : Option kD :=
  bd1 (x2_76 + (1 : Int32)) fun v1 =>
  rc_4 x1_76 v1 RW_76
noncomputable def g_X6_keepAskPlace_69 (rc_4 : Int32 → Int32 → kD → Option kD) (UF : Nat → Nat → Int32) (VF : Nat → Nat → Int32) (x2_69 : Int32) (x3_69 : Int32) (RW_69 : kD) : Option kD :=
  bd1 (kI RW_69 0 4 x2_69) fun RWv2 =>
  g_X6_keepAskPlace_76 rc_4 UF VF x3_69 x2_69 RWv2
noncomputable def g_X6_keepAskPlace_60 (rc_4 : Int32 → Int32 → kD → Option kD) (UF : Nat → Nat → Int32) (VF : Nat → Nat → Int32) (x1_60 : Int32) (x2_60 : Int32) (x3_60 : Int32) (RW_60 : kD) : Option kD :=
  if x2_60 = 0 then
  g_X6_keepAskPlace_69 rc_4 UF VF x2_60 x3_60 RW_60
  else
  if x1_60 ≤ x3_60 then
  g_X6_keepAskPlace_76 rc_4 UF VF x1_60 x2_60 RW_60
  else
  g_X6_keepAskPlace_69 rc_4 UF VF x2_60 x3_60 RW_60
noncomputable def g_X6_keepAskPlace_23 (rc_4 : Int32 → Int32 → kD → Option kD) (UF : Nat → Nat → Int32) (VF : Nat → Nat → Int32) (rc_23 : Int32 → Int32 → Int32 → Int32 → kD → Option kD) (x1_23 : Int32) (x2_23 : Int32) (x3_23 : Int32) (x4_23 : Int32) (RW_23 : kD) : Option kD :=
  if (6 : Int32) ≤ x4_23 then
  g_X6_keepAskPlace_60 rc_4 UF VF x1_23 x2_23 x3_23 RW_23
  else
  if x2_23 < 0 ∨ 9 ≤ x2_23.toNatClampNeg then none else
  if x2_23 = 0 then
  if x4_23 < 0 ∨ 6 ≤ x4_23.toNatClampNeg then none else
  if x2_23 < 0 ∨ 9 ≤ x2_23.toNatClampNeg then none else
  if x4_23 < 0 ∨ 6 ≤ x4_23.toNatClampNeg then none else
  bd1 (kMax x3_23 (((UF 0) x4_23.toNatClampNeg) * ((VF 0) x4_23.toNatClampNeg))) fun v10 =>
  bd1 (x4_23 + (1 : Int32)) fun v11 =>
  rc_23 x1_23 x2_23 v10 v11 RW_23
  else
  if x2_23 = 1 then
  if x4_23 < 0 ∨ 6 ≤ x4_23.toNatClampNeg then none else
  if x2_23 < 0 ∨ 9 ≤ x2_23.toNatClampNeg then none else
  if x4_23 < 0 ∨ 6 ≤ x4_23.toNatClampNeg then none else
  bd1 (kMax x3_23 (((UF 1) x4_23.toNatClampNeg) * ((VF 1) x4_23.toNatClampNeg))) fun v16 =>
  bd1 (x4_23 + (1 : Int32)) fun v17 =>
  rc_23 x1_23 x2_23 v16 v17 RW_23
  else
  if x2_23 = 2 then
  if x4_23 < 0 ∨ 6 ≤ x4_23.toNatClampNeg then none else
  if x2_23 < 0 ∨ 9 ≤ x2_23.toNatClampNeg then none else
  if x4_23 < 0 ∨ 6 ≤ x4_23.toNatClampNeg then none else
  bd1 (kMax x3_23 (((UF 2) x4_23.toNatClampNeg) * ((VF 2) x4_23.toNatClampNeg))) fun v22 =>
  bd1 (x4_23 + (1 : Int32)) fun v23 =>
  rc_23 x1_23 x2_23 v22 v23 RW_23
  else
  if x2_23 = 3 then
  if x4_23 < 0 ∨ 6 ≤ x4_23.toNatClampNeg then none else
  if x2_23 < 0 ∨ 9 ≤ x2_23.toNatClampNeg then none else
  if x4_23 < 0 ∨ 6 ≤ x4_23.toNatClampNeg then none else
  bd1 (kMax x3_23 (((UF 3) x4_23.toNatClampNeg) * ((VF 3) x4_23.toNatClampNeg))) fun v28 =>
  bd1 (x4_23 + (1 : Int32)) fun v29 =>
  rc_23 x1_23 x2_23 v28 v29 RW_23
  else
  if x2_23 = 4 then
  if x4_23 < 0 ∨ 6 ≤ x4_23.toNatClampNeg then none else
  if x2_23 < 0 ∨ 9 ≤ x2_23.toNatClampNeg then none else
  if x4_23 < 0 ∨ 6 ≤ x4_23.toNatClampNeg then none else
  bd1 (kMax x3_23 (((UF 4) x4_23.toNatClampNeg) * ((VF 4) x4_23.toNatClampNeg))) fun v34 =>
  bd1 (x4_23 + (1 : Int32)) fun v35 =>
  rc_23 x1_23 x2_23 v34 v35 RW_23
  else
  if x2_23 = 5 then
  if x4_23 < 0 ∨ 6 ≤ x4_23.toNatClampNeg then none else
  if x2_23 < 0 ∨ 9 ≤ x2_23.toNatClampNeg then none else
  if x4_23 < 0 ∨ 6 ≤ x4_23.toNatClampNeg then none else
  bd1 (kMax x3_23 (((UF 5) x4_23.toNatClampNeg) * ((VF 5) x4_23.toNatClampNeg))) fun v40 =>
  bd1 (x4_23 + (1 : Int32)) fun v41 =>
  rc_23 x1_23 x2_23 v40 v41 RW_23
  else
  if x2_23 = 6 then
  if x4_23 < 0 ∨ 6 ≤ x4_23.toNatClampNeg then none else
  if x2_23 < 0 ∨ 9 ≤ x2_23.toNatClampNeg then none else
  if x4_23 < 0 ∨ 6 ≤ x4_23.toNatClampNeg then none else
  bd1 (kMax x3_23 (((UF 6) x4_23.toNatClampNeg) * ((VF 6) x4_23.toNatClampNeg))) fun v46 =>
  bd1 (x4_23 + (1 : Int32)) fun v47 =>
  rc_23 x1_23 x2_23 v46 v47 RW_23
  else
  if x2_23 = 7 then
  if x4_23 < 0 ∨ 6 ≤ x4_23.toNatClampNeg then none else
  if x2_23 < 0 ∨ 9 ≤ x2_23.toNatClampNeg then none else
  if x4_23 < 0 ∨ 6 ≤ x4_23.toNatClampNeg then none else
  bd1 (kMax x3_23 (((UF 7) x4_23.toNatClampNeg) * ((VF 7) x4_23.toNatClampNeg))) fun v52 =>
  bd1 (x4_23 + (1 : Int32)) fun v53 =>
  rc_23 x1_23 x2_23 v52 v53 RW_23
  else
  if x2_23 = 8 then
  if x4_23 < 0 ∨ 6 ≤ x4_23.toNatClampNeg then none else
  if x2_23 < 0 ∨ 9 ≤ x2_23.toNatClampNeg then none else
  if x4_23 < 0 ∨ 6 ≤ x4_23.toNatClampNeg then none else
  bd1 (kMax x3_23 (((UF 8) x4_23.toNatClampNeg) * ((VF 8) x4_23.toNatClampNeg))) fun v58 =>
  bd1 (x4_23 + (1 : Int32)) fun v59 =>
  rc_23 x1_23 x2_23 v58 v59 RW_23
  else
  none
noncomputable def g_X6_keepAskPlace_4 (UF : Nat → Nat → Int32) (VF : Nat → Nat → Int32) (rc_4 : Int32 → Int32 → kD → Option kD) (x1_4 : Int32) (x2_4 : Int32) (RW_4 : kD) : Option kD :=
  if (RW_4.1 0 3) ≤ x2_4 then
  some RW_4
  else
  if (9 : Int32) ≤ x2_4 then
  some RW_4
  else
  lp (fun _ _ _ _ _ => none) (g_X6_keepAskPlace_23 rc_4 UF VF) 2000 x1_4 x2_4 (0 : Int32) (0 : Int32) RW_4
noncomputable def f_X6_keepAskPlace (RW : kD) (UF : Nat → Nat → Int32) (VF : Nat → Nat → Int32) : Option kD :=
  lp (fun _ _ _ => none) (g_X6_keepAskPlace_4 UF VF) 2000 (0 : Int32) (0 : Int32) RW
noncomputable def g_X6_measure_185 (nA : Nat) (O : kD) (A : Nat → Int32) (x3_185 : Int32) (RW_185 : kD) (UF_185 : Nat → Nat → Int32) (VF_185 : Nat → Nat → Int32) : Option (Int32 × kD × (Nat → Nat → Int32) × (Nat → Nat → Int32)) :=
  bo (f_X11_sumOf 6 (VF_185 0)) fun v2 =>
  if v2 ≤ 0 then
  some (v2, RW_185, UF_185, VF_185)
  else
  bd1 (kI RW_185 0 3 x3_185) fun RWv3 =>
  bo (f_X6_keepFirst RWv3 UF_185 VF_185) fun RWv5 =>
  bo (f_X6_keepAskPlace RWv5 UF_185 VF_185) fun RWv7 =>
  some (v2, RWv7, UF_185, VF_185)
noncomputable def g_X6_measure_179 (rc_105 : Int32 → Int32 → kD → (Nat → Nat → Int32) → (Nat → Nat → Int32) → Option (Int32 × kD × (Nat → Nat → Int32) × (Nat → Nat → Int32))) (nA : Nat) (O : kD) (A : Nat → Int32) (x3_179 : Int32) (x4_179 : Int32) (RW_179 : kD) (UF_179 : Nat → Nat → Int32) (VF_179 : Nat → Nat → Int32) : Option (Int32 × kD × (Nat → Nat → Int32) × (Nat → Nat → Int32)) :=
  bd1 (x4_179 + (-1 : Int32)) fun v9 =>
  rc_105 x3_179 v9 RW_179 UF_179 VF_179
noncomputable def g_X6_measure_172 (rc_105 : Int32 → Int32 → kD → (Nat → Nat → Int32) → (Nat → Nat → Int32) → Option (Int32 × kD × (Nat → Nat → Int32) × (Nat → Nat → Int32))) (rc_113 : Int32 → Int32 → Int32 → kD → (Nat → Nat → Int32) → (Nat → Nat → Int32) → Option (Int32 × kD × (Nat → Nat → Int32) × (Nat → Nat → Int32))) (nA : Nat) (O : kD) (A : Nat → Int32) (x3_172 : Int32) (x4_172 : Int32) (x5_172 : Int32) (t0_172 : Int32) (t1_172 : Int32) (t2_172 : Int32) (RW_172 : kD) (UF_172 : Nat → Nat → Int32) (VF_172 : Nat → Nat → Int32) : Option (Int32 × kD × (Nat → Nat → Int32) × (Nat → Nat → Int32)) :=
  if t0_172 = 0 then
  if t1_172 < 0 ∨ 6 ≤ t1_172.toNatClampNeg then none else
  bd1 (upR VF_172 0 (upd (VF_172 0) t1_172.toNatClampNeg t2_172)) fun VFv12 =>
  bd1 (x5_172 + (1 : Int32)) fun v13 =>
  rc_113 x3_172 x4_172 v13 RW_172 UF_172 VFv12
  else
  if t0_172 = 1 then
  if t1_172 < 0 ∨ 6 ≤ t1_172.toNatClampNeg then none else
  bd1 (upR VF_172 1 (upd (VF_172 1) t1_172.toNatClampNeg t2_172)) fun VFv16 =>
  bd1 (x5_172 + (1 : Int32)) fun v17 =>
  rc_113 x3_172 x4_172 v17 RW_172 UF_172 VFv16
  else
  if t0_172 = 2 then
  if t1_172 < 0 ∨ 6 ≤ t1_172.toNatClampNeg then none else
  bd1 (upR VF_172 2 (upd (VF_172 2) t1_172.toNatClampNeg t2_172)) fun VFv20 =>
  bd1 (x5_172 + (1 : Int32)) fun v21 =>
  rc_113 x3_172 x4_172 v21 RW_172 UF_172 VFv20
  else
  if t0_172 = 3 then
  if t1_172 < 0 ∨ 6 ≤ t1_172.toNatClampNeg then none else
  bd1 (upR VF_172 3 (upd (VF_172 3) t1_172.toNatClampNeg t2_172)) fun VFv24 =>
  bd1 (x5_172 + (1 : Int32)) fun v25 =>
  rc_113 x3_172 x4_172 v25 RW_172 UF_172 VFv24
  else
  if t0_172 = 4 then
  if t1_172 < 0 ∨ 6 ≤ t1_172.toNatClampNeg then none else
  bd1 (upR VF_172 4 (upd (VF_172 4) t1_172.toNatClampNeg t2_172)) fun VFv28 =>
  bd1 (x5_172 + (1 : Int32)) fun v29 =>
  rc_113 x3_172 x4_172 v29 RW_172 UF_172 VFv28
  else
  if t0_172 = 5 then
  if t1_172 < 0 ∨ 6 ≤ t1_172.toNatClampNeg then none else
  bd1 (upR VF_172 5 (upd (VF_172 5) t1_172.toNatClampNeg t2_172)) fun VFv32 =>
  bd1 (x5_172 + (1 : Int32)) fun v33 =>
  rc_113 x3_172 x4_172 v33 RW_172 UF_172 VFv32
  else
  if t0_172 = 6 then
  if t1_172 < 0 ∨ 6 ≤ t1_172.toNatClampNeg then none else
  bd1 (upR VF_172 6 (upd (VF_172 6) t1_172.toNatClampNeg t2_172)) fun VFv36 =>
  bd1 (x5_172 + (1 : Int32)) fun v37 =>
  rc_113 x3_172 x4_172 v37 RW_172 UF_172 VFv36
  else
  if t0_172 = 7 then
  if t1_172 < 0 ∨ 6 ≤ t1_172.toNatClampNeg then none else
  bd1 (upR VF_172 7 (upd (VF_172 7) t1_172.toNatClampNeg t2_172)) fun VFv40 =>
  bd1 (x5_172 + (1 : Int32)) fun v41 =>
  rc_113 x3_172 x4_172 v41 RW_172 UF_172 VFv40
  else
  if t0_172 = 8 then
  if t1_172 < 0 ∨ 6 ≤ t1_172.toNatClampNeg then none else
  bd1 (upR VF_172 8 (upd (VF_172 8) t1_172.toNatClampNeg t2_172)) fun VFv44 =>
  bd1 (x5_172 + (1 : Int32)) fun v45 =>
  rc_113 x3_172 x4_172 v45 RW_172 UF_172 VFv44
  else
  none
noncomputable def g_X6_measure_113 (rc_105 : Int32 → Int32 → kD → (Nat → Nat → Int32) → (Nat → Nat → Int32) → Option (Int32 × kD × (Nat → Nat → Int32) × (Nat → Nat → Int32))) (nA : Nat) (O : kD) (A : Nat → Int32) (rc_113 : Int32 → Int32 → Int32 → kD → (Nat → Nat → Int32) → (Nat → Nat → Int32) → Option (Int32 × kD × (Nat → Nat → Int32) × (Nat → Nat → Int32))) (x3_113 : Int32) (x4_113 : Int32) (x5_113 : Int32) (RW_113 : kD) (UF_113 : Nat → Nat → Int32) (VF_113 : Nat → Nat → Int32) : Option (Int32 × kD × (Nat → Nat → Int32) × (Nat → Nat → Int32)) :=
  if (6 : Int32) ≤ x5_113 then
  g_X6_measure_179 rc_105 nA O A x3_113 x4_113 RW_113 UF_113 VF_113
  else
  if x4_113 < 0 ∨ 9 ≤ x4_113.toNatClampNeg then none else
  if x4_113 < 0 ∨ nA ≤ x4_113.toNatClampNeg then none else
  bo (f_X3_knowsOf x5_113 (A x4_113.toNatClampNeg) O) fun v49 =>
  if v49 = 0 then
  g_X6_measure_172 rc_105 rc_113 nA O A x3_113 x4_113 x5_113 x4_113 x5_113 (0 : Int32) RW_113 UF_113 VF_113
  else
  if x4_113 = (x3_113 - (1 : Int32)) then
  g_X6_measure_172 rc_105 rc_113 nA O A x3_113 x4_113 x5_113 x4_113 x5_113 (1 : Int32) RW_113 UF_113 VF_113
  else
  bd1 (x4_113 + (1 : Int32)) fun v50 =>
  if v50 < 0 ∨ 9 ≤ v50.toNatClampNeg then none else
  if v50 = 0 then
  bo (f_X6_sumWithout x5_113 6 (VF_113 0)) fun v54 =>
  g_X6_measure_172 rc_105 rc_113 nA O A x3_113 x4_113 x5_113 x4_113 x5_113 v54 RW_113 UF_113 VF_113
  else
  if v50 = 1 then
  bo (f_X6_sumWithout x5_113 6 (VF_113 1)) fun v57 =>
  g_X6_measure_172 rc_105 rc_113 nA O A x3_113 x4_113 x5_113 x4_113 x5_113 v57 RW_113 UF_113 VF_113
  else
  if v50 = 2 then
  bo (f_X6_sumWithout x5_113 6 (VF_113 2)) fun v60 =>
  g_X6_measure_172 rc_105 rc_113 nA O A x3_113 x4_113 x5_113 x4_113 x5_113 v60 RW_113 UF_113 VF_113
  else
  if v50 = 3 then
  bo (f_X6_sumWithout x5_113 6 (VF_113 3)) fun v63 =>
  g_X6_measure_172 rc_105 rc_113 nA O A x3_113 x4_113 x5_113 x4_113 x5_113 v63 RW_113 UF_113 VF_113
  else
  if v50 = 4 then
  bo (f_X6_sumWithout x5_113 6 (VF_113 4)) fun v66 =>
  g_X6_measure_172 rc_105 rc_113 nA O A x3_113 x4_113 x5_113 x4_113 x5_113 v66 RW_113 UF_113 VF_113
  else
  if v50 = 5 then
  bo (f_X6_sumWithout x5_113 6 (VF_113 5)) fun v69 =>
  g_X6_measure_172 rc_105 rc_113 nA O A x3_113 x4_113 x5_113 x4_113 x5_113 v69 RW_113 UF_113 VF_113
  else
  if v50 = 6 then
  bo (f_X6_sumWithout x5_113 6 (VF_113 6)) fun v72 =>
  g_X6_measure_172 rc_105 rc_113 nA O A x3_113 x4_113 x5_113 x4_113 x5_113 v72 RW_113 UF_113 VF_113
  else
  if v50 = 7 then
  bo (f_X6_sumWithout x5_113 6 (VF_113 7)) fun v75 =>
  g_X6_measure_172 rc_105 rc_113 nA O A x3_113 x4_113 x5_113 x4_113 x5_113 v75 RW_113 UF_113 VF_113
  else
  if v50 = 8 then
  bo (f_X6_sumWithout x5_113 6 (VF_113 8)) fun v78 =>
  g_X6_measure_172 rc_105 rc_113 nA O A x3_113 x4_113 x5_113 x4_113 x5_113 v78 RW_113 UF_113 VF_113
  else
  none
noncomputable def g_X6_measure_105 (nA : Nat) (O : kD) (A : Nat → Int32) (rc_105 : Int32 → Int32 → kD → (Nat → Nat → Int32) → (Nat → Nat → Int32) → Option (Int32 × kD × (Nat → Nat → Int32) × (Nat → Nat → Int32))) (x3_105 : Int32) (x4_105 : Int32) (RW_105 : kD) (UF_105 : Nat → Nat → Int32) (VF_105 : Nat → Nat → Int32) : Option (Int32 × kD × (Nat → Nat → Int32) × (Nat → Nat → Int32)) :=
  if x4_105 < 0 then
  g_X6_measure_185 nA O A x3_105 RW_105 UF_105 VF_105
  else
  lp (fun _ _ _ _ _ _ => none) (g_X6_measure_113 rc_105 nA O A) 2000 x3_105 x4_105 (0 : Int32) RW_105 UF_105 VF_105
noncomputable def g_X6_measure_100 (nA : Nat) (O : kD) (A : Nat → Int32) (x3_100 : Int32) (RW_100 : kD) (UF_100 : Nat → Nat → Int32) (VF_100 : Nat → Nat → Int32) : Option (Int32 × kD × (Nat → Nat → Int32) × (Nat → Nat → Int32)) :=
  bd1 (x3_100 - (1 : Int32)) fun v83 =>
  lp (fun _ _ _ _ _ => none) (g_X6_measure_105 nA O A) 2000 x3_100 v83 RW_100 UF_100 VF_100
noncomputable def g_X6_measure_94 (rc_22 : Int32 → Int32 → kD → (Nat → Nat → Int32) → (Nat → Nat → Int32) → Option (Int32 × kD × (Nat → Nat → Int32) × (Nat → Nat → Int32))) (nA : Nat) (O : kD) (A : Nat → Int32) (x3_94 : Int32) (x4_94 : Int32) (RW_94 : kD) (UF_94 : Nat → Nat → Int32) (VF_94 : Nat → Nat → Int32) : Option (Int32 × kD × (Nat → Nat → Int32) × (Nat → Nat → Int32)) :=
  bd1 (x4_94 + (1 : Int32)) fun v84 =>
  rc_22 x3_94 v84 RW_94 UF_94 VF_94
noncomputable def g_X6_measure_87 (rc_22 : Int32 → Int32 → kD → (Nat → Nat → Int32) → (Nat → Nat → Int32) → Option (Int32 × kD × (Nat → Nat → Int32) × (Nat → Nat → Int32))) (rc_31 : Int32 → Int32 → Int32 → kD → (Nat → Nat → Int32) → (Nat → Nat → Int32) → Option (Int32 × kD × (Nat → Nat → Int32) × (Nat → Nat → Int32))) (nA : Nat) (O : kD) (A : Nat → Int32) (x3_87 : Int32) (x4_87 : Int32) (x5_87 : Int32) (t0_87 : Int32) (t1_87 : Int32) (t2_87 : Int32) (RW_87 : kD) (UF_87 : Nat → Nat → Int32) (VF_87 : Nat → Nat → Int32) : Option (Int32 × kD × (Nat → Nat → Int32) × (Nat → Nat → Int32)) :=
  if t0_87 = 0 then
  if t1_87 < 0 ∨ 6 ≤ t1_87.toNatClampNeg then none else
  bd1 (upR UF_87 0 (upd (UF_87 0) t1_87.toNatClampNeg t2_87)) fun UFv87 =>
  bd1 (x5_87 + (1 : Int32)) fun v88 =>
  rc_31 x3_87 x4_87 v88 RW_87 UFv87 VF_87
  else
  if t0_87 = 1 then
  if t1_87 < 0 ∨ 6 ≤ t1_87.toNatClampNeg then none else
  bd1 (upR UF_87 1 (upd (UF_87 1) t1_87.toNatClampNeg t2_87)) fun UFv91 =>
  bd1 (x5_87 + (1 : Int32)) fun v92 =>
  rc_31 x3_87 x4_87 v92 RW_87 UFv91 VF_87
  else
  if t0_87 = 2 then
  if t1_87 < 0 ∨ 6 ≤ t1_87.toNatClampNeg then none else
  bd1 (upR UF_87 2 (upd (UF_87 2) t1_87.toNatClampNeg t2_87)) fun UFv95 =>
  bd1 (x5_87 + (1 : Int32)) fun v96 =>
  rc_31 x3_87 x4_87 v96 RW_87 UFv95 VF_87
  else
  if t0_87 = 3 then
  if t1_87 < 0 ∨ 6 ≤ t1_87.toNatClampNeg then none else
  bd1 (upR UF_87 3 (upd (UF_87 3) t1_87.toNatClampNeg t2_87)) fun UFv99 =>
  bd1 (x5_87 + (1 : Int32)) fun v100 =>
  rc_31 x3_87 x4_87 v100 RW_87 UFv99 VF_87
  else
  if t0_87 = 4 then
  if t1_87 < 0 ∨ 6 ≤ t1_87.toNatClampNeg then none else
  bd1 (upR UF_87 4 (upd (UF_87 4) t1_87.toNatClampNeg t2_87)) fun UFv103 =>
  bd1 (x5_87 + (1 : Int32)) fun v104 =>
  rc_31 x3_87 x4_87 v104 RW_87 UFv103 VF_87
  else
  if t0_87 = 5 then
  if t1_87 < 0 ∨ 6 ≤ t1_87.toNatClampNeg then none else
  bd1 (upR UF_87 5 (upd (UF_87 5) t1_87.toNatClampNeg t2_87)) fun UFv107 =>
  bd1 (x5_87 + (1 : Int32)) fun v108 =>
  rc_31 x3_87 x4_87 v108 RW_87 UFv107 VF_87
  else
  if t0_87 = 6 then
  if t1_87 < 0 ∨ 6 ≤ t1_87.toNatClampNeg then none else
  bd1 (upR UF_87 6 (upd (UF_87 6) t1_87.toNatClampNeg t2_87)) fun UFv111 =>
  bd1 (x5_87 + (1 : Int32)) fun v112 =>
  rc_31 x3_87 x4_87 v112 RW_87 UFv111 VF_87
  else
  if t0_87 = 7 then
  if t1_87 < 0 ∨ 6 ≤ t1_87.toNatClampNeg then none else
  bd1 (upR UF_87 7 (upd (UF_87 7) t1_87.toNatClampNeg t2_87)) fun UFv115 =>
  bd1 (x5_87 + (1 : Int32)) fun v116 =>
  rc_31 x3_87 x4_87 v116 RW_87 UFv115 VF_87
  else
  if t0_87 = 8 then
  if t1_87 < 0 ∨ 6 ≤ t1_87.toNatClampNeg then none else
  bd1 (upR UF_87 8 (upd (UF_87 8) t1_87.toNatClampNeg t2_87)) fun UFv119 =>
  bd1 (x5_87 + (1 : Int32)) fun v120 =>
  rc_31 x3_87 x4_87 v120 RW_87 UFv119 VF_87
  else
  none
noncomputable def g_X6_measure_31 (rc_22 : Int32 → Int32 → kD → (Nat → Nat → Int32) → (Nat → Nat → Int32) → Option (Int32 × kD × (Nat → Nat → Int32) × (Nat → Nat → Int32))) (nA : Nat) (O : kD) (A : Nat → Int32) (rc_31 : Int32 → Int32 → Int32 → kD → (Nat → Nat → Int32) → (Nat → Nat → Int32) → Option (Int32 × kD × (Nat → Nat → Int32) × (Nat → Nat → Int32))) (x3_31 : Int32) (x4_31 : Int32) (x5_31 : Int32) (RW_31 : kD) (UF_31 : Nat → Nat → Int32) (VF_31 : Nat → Nat → Int32) : Option (Int32 × kD × (Nat → Nat → Int32) × (Nat → Nat → Int32)) :=
  if (6 : Int32) ≤ x5_31 then
  g_X6_measure_94 rc_22 nA O A x3_31 x4_31 RW_31 UF_31 VF_31
  else
  if x4_31 < 0 ∨ 9 ≤ x4_31.toNatClampNeg then none else
  if x4_31 < 0 ∨ nA ≤ x4_31.toNatClampNeg then none else
  bo (f_X3_knowsOf x5_31 (A x4_31.toNatClampNeg) O) fun v124 =>
  if v124 = 0 then
  g_X6_measure_87 rc_22 rc_31 nA O A x3_31 x4_31 x5_31 x4_31 x5_31 (0 : Int32) RW_31 UF_31 VF_31
  else
  if x4_31 = 0 then
  g_X6_measure_87 rc_22 rc_31 nA O A x3_31 x4_31 x5_31 x4_31 x5_31 (1 : Int32) RW_31 UF_31 VF_31
  else
  bd1 (x4_31 - (1 : Int32)) fun v125 =>
  if v125 < 0 ∨ 9 ≤ v125.toNatClampNeg then none else
  if v125 = 0 then
  bo (f_X6_sumWithout x5_31 6 (UF_31 0)) fun v129 =>
  g_X6_measure_87 rc_22 rc_31 nA O A x3_31 x4_31 x5_31 x4_31 x5_31 v129 RW_31 UF_31 VF_31
  else
  if v125 = 1 then
  bo (f_X6_sumWithout x5_31 6 (UF_31 1)) fun v132 =>
  g_X6_measure_87 rc_22 rc_31 nA O A x3_31 x4_31 x5_31 x4_31 x5_31 v132 RW_31 UF_31 VF_31
  else
  if v125 = 2 then
  bo (f_X6_sumWithout x5_31 6 (UF_31 2)) fun v135 =>
  g_X6_measure_87 rc_22 rc_31 nA O A x3_31 x4_31 x5_31 x4_31 x5_31 v135 RW_31 UF_31 VF_31
  else
  if v125 = 3 then
  bo (f_X6_sumWithout x5_31 6 (UF_31 3)) fun v138 =>
  g_X6_measure_87 rc_22 rc_31 nA O A x3_31 x4_31 x5_31 x4_31 x5_31 v138 RW_31 UF_31 VF_31
  else
  if v125 = 4 then
  bo (f_X6_sumWithout x5_31 6 (UF_31 4)) fun v141 =>
  g_X6_measure_87 rc_22 rc_31 nA O A x3_31 x4_31 x5_31 x4_31 x5_31 v141 RW_31 UF_31 VF_31
  else
  if v125 = 5 then
  bo (f_X6_sumWithout x5_31 6 (UF_31 5)) fun v144 =>
  g_X6_measure_87 rc_22 rc_31 nA O A x3_31 x4_31 x5_31 x4_31 x5_31 v144 RW_31 UF_31 VF_31
  else
  if v125 = 6 then
  bo (f_X6_sumWithout x5_31 6 (UF_31 6)) fun v147 =>
  g_X6_measure_87 rc_22 rc_31 nA O A x3_31 x4_31 x5_31 x4_31 x5_31 v147 RW_31 UF_31 VF_31
  else
  if v125 = 7 then
  bo (f_X6_sumWithout x5_31 6 (UF_31 7)) fun v150 =>
  g_X6_measure_87 rc_22 rc_31 nA O A x3_31 x4_31 x5_31 x4_31 x5_31 v150 RW_31 UF_31 VF_31
  else
  if v125 = 8 then
  bo (f_X6_sumWithout x5_31 6 (UF_31 8)) fun v153 =>
  g_X6_measure_87 rc_22 rc_31 nA O A x3_31 x4_31 x5_31 x4_31 x5_31 v153 RW_31 UF_31 VF_31
  else
  none
noncomputable def g_X6_measure_22 (nA : Nat) (O : kD) (A : Nat → Int32) (rc_22 : Int32 → Int32 → kD → (Nat → Nat → Int32) → (Nat → Nat → Int32) → Option (Int32 × kD × (Nat → Nat → Int32) × (Nat → Nat → Int32))) (x3_22 : Int32) (x4_22 : Int32) (RW_22 : kD) (UF_22 : Nat → Nat → Int32) (VF_22 : Nat → Nat → Int32) : Option (Int32 × kD × (Nat → Nat → Int32) × (Nat → Nat → Int32)) :=
  if x3_22 ≤ x4_22 then
  g_X6_measure_100 nA O A x3_22 RW_22 UF_22 VF_22
  else
  lp (fun _ _ _ _ _ _ => none) (g_X6_measure_31 rc_22 nA O A) 2000 x3_22 x4_22 (0 : Int32) RW_22 UF_22 VF_22
noncomputable def f_X6_measure (a2 : Int32) (nA : Nat) (RW : kD) (UF : Nat → Nat → Int32) (VF : Nat → Nat → Int32) (O : kD) (A : Nat → Int32) : Option (Int32 × kD × (Nat → Nat → Int32) × (Nat → Nat → Int32)) :=
  if a2 < (1 : Int32) then
  some ((0 : Int32), RW, UF, VF)
  else
  if (9 : Int32) < a2 then
  some ((0 : Int32), RW, UF, VF)
  else
  if a2 ≤ (Int32.ofNat nA) then
  lp (fun _ _ _ _ _ => none) (g_X6_measure_22 nA O A) 2000 a2 (0 : Int32) RW UF VF
  else
  some ((0 : Int32), RW, UF, VF)
noncomputable def f_X11_ways (K : kD) (T : Nat → Int32) (C : kD) (O : kD) (S : kD) (N : kD) (RW : kD) (UF : Nat → Nat → Int32) (VF : Nat → Nat → Int32) : Option (Int32 × kD × kD × (Nat → Nat → Int32) × (Nat → Nat → Int32)) :=
  bo2 (f_X11_takeTape K) fun v2 Kv3 =>
  bo (f_X11_tellsPhrases v2 Kv3 T C O S N) fun v5 =>
  if v5 = 0 then
  some ((-1 : Int32), Kv3, RW, UF, VF)
  else
  bo4 (f_X6_measure v2 940 RW UF VF O T) fun v7 RWv8 UFv9 VFv10 =>
  some (v7, Kv3, RWv8, UFv9, VFv10)
