noncomputable def f_X4_seesEnd (nT : Nat) (R : kD) (T : Nat → Int32) : Int32 :=
  if (R.1 0 4) = (1 : Int32) then
  (1 : Int32)
  else
  (0 : Int32)
noncomputable def f_X4_seesWord (a0 : Int32) (nT : Nat) (R : kD) (T : Nat → Int32) : Option Int32 :=
  if (R.1 0 4) = (2 : Int32) then
  if (R.1 0 6) < 0 ∨ 22 ≤ (R.1 0 6).toNatClampNeg then none else
  if a0 < 0 ∨ 22 ≤ a0.toNatClampNeg then none else
  if (R.1 0 6) = a0 then
  some (1 : Int32)
  else
  some (0 : Int32)
  else
  some (0 : Int32)
noncomputable def f_X4_refuse (a0 : Int32) (nT : Nat) (R : kD) (T : Nat → Int32) : Option (Int32 × kD) :=
  bd1 (kI R 0 9 a0) fun Rv1 =>
  bd1 (kI Rv1 0 10 (Rv1.1 0 5)) fun Rv2 =>
  some ((0 : Int32), Rv2)
noncomputable def g_X11_placeOf_3 (nA : Nat) (A : Nat → Int64) (rc_3 : Int64 → Int32 → Int32 → Option Int32) (x0_3 : Int64) (x3_3 : Int32) (x4_3 : Int32) : Option Int32 :=
  if x3_3 ≤ x4_3 then
  some (-1 : Int32)
  else
  if (Int32.ofNat nA) ≤ x4_3 then
  some (-1 : Int32)
  else
  if x4_3 < 0 ∨ nA ≤ x4_3.toNatClampNeg then none else
  if (lg_cmp (A x4_3.toNatClampNeg) x0_3) = 0 then
  some x4_3
  else
  bd1 (x4_3 + (1 : Int32)) fun v2 =>
  rc_3 x0_3 x3_3 v2
noncomputable def f_X11_placeOf (a0 : Int64) (a2 : Int32) (nA : Nat) (A : Nat → Int64) : Option Int32 :=
  lp (fun _ _ _ => none) (g_X11_placeOf_3 nA A) 2000 a0 a2 (0 : Int32)
noncomputable def f_X4_neededOf (a1 : Int32) (nA : Nat) (nT : Nat) (R : kD) (A : Nat → Int64) (T : Nat → Int32) : Option (Int32 × kD) :=
  bo (f_X4_seesWord (0 : Int32) nT R T) fun v2 =>
  if v2 = 0 then
  bo2 (f_X4_refuse (1 : Int32) nT R T) fun v10 Rv11 =>
  some ((-1 : Int32), Rv11)
  else
  bo (f_X11_placeOf (R.2 0 7) a1 nA A) fun v4 =>
  if v4 = (-1 : Int32) then
  bo2 (f_X4_refuse (3 : Int32) nT R T) fun v6 Rv7 =>
  some (v4, Rv7)
  else
  some (v4, R)
noncomputable def g_X4_readRun_204 (nT : Nat) (T : Nat → Int32) (x1_204 : Int32) (x2_204 : Int32) (R_204 : kD) : Option kD :=
  if x1_204 = 0 then
  if (3 : Int32) < x2_204 then
  bd1 (kI R_204 0 4 (0 : Int32)) fun Rv2 =>
  some Rv2
  else
  bd1 (kI R_204 0 4 (3 : Int32)) fun Rv3 =>
  some Rv3
  else
  bd1 (kI R_204 0 4 (0 : Int32)) fun Rv1 =>
  some Rv1
noncomputable def g_X4_readRun_186 (nT : Nat) (T : Nat → Int32) (x1_186 : Int32) (x2_186 : Int32) (R_186 : kD) : Option kD :=
  if x2_186 = 0 then
  if (7 : Int32) < x1_186 then
  g_X4_readRun_204 nT T x1_186 x2_186 R_186
  else
  bd1 (kI R_186 0 4 (2 : Int32)) fun Rv6 =>
  some Rv6
  else
  g_X4_readRun_204 nT T x1_186 x2_186 R_186
noncomputable def g_X4_readRun_173 (rc_14 : Int32 → Int32 → kD → Option kD) (nT : Nat) (T : Nat → Int32) (x1_173 : Int32) (x2_173 : Int32) (R_173 : kD) : Option kD :=
  bd1 (kI R_173 0 3 ((R_173.1 0 3) + (1 : Int32))) fun Rv9 =>
  rc_14 x1_173 x2_173 Rv9
noncomputable def g_X4_readRun_167 (rc_14 : Int32 → Int32 → kD → Option kD) (nT : Nat) (T : Nat → Int32) (x1_167 : Int32) (x2_167 : Int32) (t1_167 : Int32) (R_167 : kD) : Option kD :=
  bd1 (kI R_167 0 8 t1_167) fun Rv10 =>
  bd1 (x2_167 + (1 : Int32)) fun v11 =>
  g_X4_readRun_173 rc_14 nT T x1_167 v11 Rv10
noncomputable def g_X4_readRun_128 (rc_14 : Int32 → Int32 → kD → Option kD) (nT : Nat) (T : Nat → Int32) (x1_128 : Int32) (x2_128 : Int32) (R_128 : kD) : Option kD :=
  bd1 (x1_128 + (1 : Int32)) fun v12 =>
  g_X4_readRun_173 rc_14 nT T v12 x2_128 R_128
noncomputable def g_X4_readRun_81 (rc_14 : Int32 → Int32 → kD → Option kD) (nT : Nat) (T : Nat → Int32) (x1_81 : Int32) (x2_81 : Int32) (R_81 : kD) : Option kD :=
  if ¬ (R_81.1 0 0) = 1 then none else
  bd1 (R_81.1 0 3) fun v14 =>
  if v14 < 0 ∨ nT ≤ v14.toNatClampNeg then none else
  if (T v14.toNatClampNeg) < (97 : Int32) then
  if (3 : Int32) ≤ x2_81 then
  g_X4_readRun_167 rc_14 nT T x1_81 x2_81 (R_81.1 0 8) R_81
  else
  if ¬ (R_81.1 0 0) = 1 then none else
  bd1 (R_81.1 0 3) fun v17 =>
  if v17 < 0 ∨ nT ≤ v17.toNatClampNeg then none else
  g_X4_readRun_167 rc_14 nT T x1_81 x2_81 ((((R_81.1 0 8) * (10 : Int32)) + (T v17.toNatClampNeg)) - (48 : Int32)) R_81
  else
  if (7 : Int32) ≤ x1_81 then
  g_X4_readRun_128 rc_14 nT T x1_81 x2_81 R_81
  else
  if ¬ (R_81.1 0 0) = 1 then none else
  bd1 (R_81.1 0 3) fun v21 =>
  if v21 < 0 ∨ nT ≤ v21.toNatClampNeg then none else
  bd1 (kL R_81 0 7 ((R_81.2 0 7) ||| (((T v21.toNatClampNeg).toInt64) <<< (((8 : Int32) * ((6 : Int32) - x1_81)).toInt64 &&& 63)))) fun Rv23 =>
  g_X4_readRun_128 rc_14 nT T x1_81 x2_81 Rv23
noncomputable def g_X4_readRun_53 (rc_14 : Int32 → Int32 → kD → Option kD) (nT : Nat) (T : Nat → Int32) (x1_53 : Int32) (x2_53 : Int32) (R_53 : kD) : Option kD :=
  if ¬ (R_53.1 0 0) = 1 then none else
  bd1 (R_53.1 0 3) fun v27 =>
  if v27 < 0 ∨ nT ≤ v27.toNatClampNeg then none else
  if (T v27.toNatClampNeg) < (48 : Int32) then
  g_X4_readRun_186 nT T x1_53 x2_53 R_53
  else
  if ¬ (R_53.1 0 0) = 1 then none else
  bd1 (R_53.1 0 3) fun v30 =>
  if v30 < 0 ∨ nT ≤ v30.toNatClampNeg then none else
  if (57 : Int32) < (T v30.toNatClampNeg) then
  g_X4_readRun_186 nT T x1_53 x2_53 R_53
  else
  g_X4_readRun_81 rc_14 nT T x1_53 x2_53 R_53
noncomputable def g_X4_readRun_14 (nT : Nat) (T : Nat → Int32) (rc_14 : Int32 → Int32 → kD → Option kD) (x1_14 : Int32) (x2_14 : Int32) (R_14 : kD) : Option kD :=
  if (R_14.1 0 1) ≤ (R_14.1 0 3) then
  g_X4_readRun_186 nT T x1_14 x2_14 R_14
  else
  if ¬ (R_14.1 0 0) = 1 then none else
  bd1 (R_14.1 0 3) fun v35 =>
  if v35 < 0 ∨ nT ≤ v35.toNatClampNeg then none else
  if (T v35.toNatClampNeg) < (97 : Int32) then
  g_X4_readRun_53 rc_14 nT T x1_14 x2_14 R_14
  else
  if ¬ (R_14.1 0 0) = 1 then none else
  bd1 (R_14.1 0 3) fun v38 =>
  if v38 < 0 ∨ nT ≤ v38.toNatClampNeg then none else
  if (T v38.toNatClampNeg) ≤ (122 : Int32) then
  g_X4_readRun_81 rc_14 nT T x1_14 x2_14 R_14
  else
  g_X4_readRun_53 rc_14 nT T x1_14 x2_14 R_14
noncomputable def f_X4_readRun (nT : Nat) (R : kD) (T : Nat → Int32) : Option kD :=
  bd1 (kL R 0 7 (0 : Int64)) fun Rv43 =>
  bd1 (kI Rv43 0 8 (0 : Int32)) fun Rv44 =>
  lp (fun _ _ _ => none) (g_X4_readRun_14 nT T) 2000 (0 : Int32) (0 : Int32) Rv44
noncomputable def f_X4_isSignByte (a0 : Int32) : Int32 :=
  if a0 = (59 : Int32) then
  (1 : Int32)
  else
  if a0 = (60 : Int32) then
  (1 : Int32)
  else
  if a0 = (61 : Int32) then
  (1 : Int32)
  else
  if a0 = (62 : Int32) then
  (1 : Int32)
  else
  if a0 = (40 : Int32) then
  (1 : Int32)
  else
  if a0 = (41 : Int32) then
  (1 : Int32)
  else
  if a0 = (46 : Int32) then
  (1 : Int32)
  else
  (0 : Int32)
noncomputable def f_X0_keepNumber (a0 : Int32) (Bk : kD) : Option kD :=
  if (Bk.1 0 0) < (1 : Int32) then
  some Bk
  else
  if (40 : Int32) < (Bk.1 0 0) then
  some Bk
  else
  if ((Bk.1 0 0) - (1 : Int32)) < 0 ∨ 40 ≤ ((Bk.1 0 0) - (1 : Int32)).toNatClampNeg then none else
  bd1 (kI Bk 5 ((Bk.1 0 0) - (1 : Int32)).toNatClampNeg a0) fun Bkv2 =>
  some Bkv2
noncomputable def g_X4_needsNumber_30 (nT : Nat) (T : Nat → Int32) (R_30 : kD) : Option (Int32 × kD) :=
  bo2 (f_X4_refuse (2 : Int32) nT R_30 T) fun v2 Rv3 =>
  if v2 = 0 then
  some ((0 : Int32), Rv3)
  else
  some ((1 : Int32), Rv3)
noncomputable def f_X4_needsNumber (a0 : Int32) (a1 : Int32) (nT : Nat) (R : kD) (T : Nat → Int32) : Option (Int32 × kD) :=
  if (R.1 0 4) = (3 : Int32) then
  if (R.1 0 8) < a0 then
  g_X4_needsNumber_30 nT T R
  else
  if (R.1 0 8) ≤ a1 then
  some ((1 : Int32), R)
  else
  g_X4_needsNumber_30 nT T R
  else
  bo2 (f_X4_refuse (1 : Int32) nT R T) fun v8 Rv9 =>
  if ¬ (v8 = 0 ∨ v8 = 1) then none else
  some (v8, Rv9)
noncomputable def f_X4_seesSign (a0 : Int32) (nT : Nat) (R : kD) (T : Nat → Int32) : Int32 :=
  if (R.1 0 4) = (4 : Int32) then
  if (R.1 0 8) = a0 then
  (1 : Int32)
  else
  (0 : Int32)
  else
  (0 : Int32)
noncomputable def f_X4_needsEnd (nT : Nat) (R : kD) (T : Nat → Int32) : Option (Int32 × kD) :=
  if (f_X4_seesEnd nT R T) = 0 then
  bo2 (f_X4_refuse (1 : Int32) nT R T) fun v2 Rv3 =>
  if v2 = 0 then
  some ((0 : Int32), Rv3)
  else
  some ((1 : Int32), Rv3)
  else
  some ((1 : Int32), R)
noncomputable def f_X9_debtOf (a0 : Int32) (a1 : Int32) (S : kD) : Option Int32 :=
  if a0 < 0 then
  some (0 : Int32)
  else
  if (6 : Int32) ≤ a0 then
  some (0 : Int32)
  else
  if a1 < 0 then
  some (0 : Int32)
  else
  if a1 < (6 : Int32) then
  bd1 ((a0 * (6 : Int32)) + a1) fun v1 =>
  if v1 < 0 ∨ 36 ≤ v1.toNatClampNeg then none else
  some (S.1 8 v1.toNatClampNeg)
  else
  some (0 : Int32)
noncomputable def g_X9_owesBothWays_41 (rc_2 : Int32 → Option Int32) (S : kD) (x1_41 : Int32) : Option Int32 :=
  bd1 (x1_41 + (1 : Int32)) fun v1 =>
  rc_2 v1
noncomputable def g_X9_owesBothWays_35 (rc_2 : Int32 → Option Int32) (rc_10 : Int32 → Int32 → Option Int32) (S : kD) (x1_35 : Int32) (x2_35 : Int32) : Option Int32 :=
  bd1 (x2_35 + (1 : Int32)) fun v2 =>
  rc_10 x1_35 v2
noncomputable def g_X9_owesBothWays_10 (rc_2 : Int32 → Option Int32) (S : kD) (rc_10 : Int32 → Int32 → Option Int32) (x1_10 : Int32) (x2_10 : Int32) : Option Int32 :=
  if x1_10 ≤ x2_10 then
  g_X9_owesBothWays_41 rc_2 S x1_10
  else
  bo (f_X9_debtOf x1_10 x2_10 S) fun v4 =>
  if v4 ≤ 0 then
  g_X9_owesBothWays_35 rc_2 rc_10 S x1_10 x2_10
  else
  bo (f_X9_debtOf x2_10 x1_10 S) fun v6 =>
  if v6 ≤ 0 then
  g_X9_owesBothWays_35 rc_2 rc_10 S x1_10 x2_10
  else
  some (1 : Int32)
noncomputable def g_X9_owesBothWays_2 (S : kD) (rc_2 : Int32 → Option Int32) (x1_2 : Int32) : Option Int32 :=
  if (6 : Int32) ≤ x1_2 then
  some (0 : Int32)
  else
  lp (fun _ _ => none) (g_X9_owesBothWays_10 rc_2 S) 2000 x1_2 (0 : Int32)
noncomputable def f_X9_owesBothWays (S : kD) : Option Int32 :=
  lp (fun _ => none) (g_X9_owesBothWays_2 S) 2000 (0 : Int32)
noncomputable def f_X9_daysLeft (S : kD) : Int32 :=
  ((400 : Int32) - (S.1 0 0))
noncomputable def f_X3_hasMachine (a0 : Int32) (O : kD) : Int32 :=
  if a0 < 0 then
  (0 : Int32)
  else
  if (O.1 0 1) ≤ a0 then
  (0 : Int32)
  else
  (1 : Int32)
noncomputable def f_X3_hasPhrase (a0 : Int32) (O : kD) : Int32 :=
  if a0 < 0 then
  (0 : Int32)
  else
  if (O.1 0 2) ≤ a0 then
  (0 : Int32)
  else
  (1 : Int32)
noncomputable def f_X11_hasBit (a0 : Int32) (a1 : Int32) : Int32 :=
  if ((kUshr a0 a1) &&& (1 : Int32)) = (1 : Int32) then
  (1 : Int32)
  else
  (0 : Int32)
noncomputable def f_X9_isHeld (a0 : Int32) (S : kD) : Int32 :=
  (f_X11_hasBit (S.1 0 3) a0)
noncomputable def f_X3_knowsOf (a0 : Int32) (a1 : Int32) (O : kD) : Option Int32 :=
  if (f_X3_hasMachine a0 O) = 0 then
  some (0 : Int32)
  else
  if (f_X3_hasPhrase a1 O) = 0 then
  some (0 : Int32)
  else
  if a0 < 0 ∨ 6 ≤ a0.toNatClampNeg then none else
  if (f_X11_hasBit (O.1 6 a0.toNatClampNeg) a1) = 0 then
  some (0 : Int32)
  else
  some (1 : Int32)
noncomputable def f_X3_isAnswer (a0 : Int32) (a1 : Int32) (O : kD) : Option Int32 :=
  if (f_X3_hasPhrase a0 O) = 0 then
  some (0 : Int32)
  else
  if (f_X3_hasPhrase a1 O) = 0 then
  some (0 : Int32)
  else
  if a1 < 0 ∨ 8 ≤ a1.toNatClampNeg then none else
  if (f_X11_hasBit (O.1 10 a1.toNatClampNeg) a0) = 0 then
  some (0 : Int32)
  else
  some (1 : Int32)
noncomputable def g_X9_whyNotWrite_79 (S : kD) (O : kD) (x2_79 : Int32) (x3_79 : Int32) : Option Int32 :=
  if x2_79 < 0 ∨ 6 ≤ x2_79.toNatClampNeg then none else
  if x3_79 < 0 ∨ 8 ≤ x3_79.toNatClampNeg then none else
  if (O.1 8 x3_79.toNatClampNeg) ≤ (S.1 5 x2_79.toNatClampNeg) then
  some (0 : Int32)
  else
  some (5 : Int32)
noncomputable def g_X9_whyNotWrite_46 (S : kD) (O : kD) (x2_46 : Int32) (x3_46 : Int32) : Option Int32 :=
  bo (f_X3_knowsOf x2_46 x3_46 O) fun v5 =>
  if v5 = 0 then
  some (3 : Int32)
  else
  if (S.1 0 1) = (-1 : Int32) then
  g_X9_whyNotWrite_79 S O x2_46 x3_46
  else
  bo (f_X3_isAnswer x3_46 (S.1 0 1) O) fun v7 =>
  if v7 = 0 then
  some (4 : Int32)
  else
  g_X9_whyNotWrite_79 S O x2_46 x3_46
noncomputable def f_X9_whyNotWrite (a1 : Int32) (a2 : Int32) (S : kD) (O : kD) : Option Int32 :=
  if (f_X3_hasMachine a1 O) = 0 then
  some (-1 : Int32)
  else
  if (f_X3_hasPhrase a2 O) = 0 then
  some (-1 : Int32)
  else
  if (f_X9_isHeld a1 S) = 0 then
  if (S.1 0 1) = (-1 : Int32) then
  g_X9_whyNotWrite_46 S O a1 a2
  else
  if (S.1 0 2) = a1 then
  some (2 : Int32)
  else
  g_X9_whyNotWrite_46 S O a1 a2
  else
  some (1 : Int32)
noncomputable def f_X9_whyNot (a1 : Int32) (a2 : Int32) (a3 : Int32) (S : kD) (O : kD) : Option Int32 :=
  if a1 = (40 : Int32) then
  bo (f_X9_owesBothWays S) fun v16 =>
  if v16 = 0 then
  some (1 : Int32)
  else
  some (0 : Int32)
  else
  if a1 = (50 : Int32) then
  if a3 ≤ (f_X9_daysLeft S) then
  some (0 : Int32)
  else
  some (1 : Int32)
  else
  if (f_X3_hasMachine a2 O) = 0 then
  some (-1 : Int32)
  else
  if a1 = 0 then
  bo (f_X9_whyNotWrite a2 a3 S O) fun v10 =>
  some v10
  else
  if a1 = (10 : Int32) then
  if (f_X9_isHeld a2 S) = 0 then
  some (0 : Int32)
  else
  some (1 : Int32)
  else
  if a1 = (20 : Int32) then
  if (f_X9_isHeld a2 S) = 0 then
  some (1 : Int32)
  else
  some (0 : Int32)
  else
  if a3 < (1 : Int32) then
  some (-1 : Int32)
  else
  if a3 ≤ (999 : Int32) then
  if a2 < 0 ∨ 6 ≤ a2.toNatClampNeg then none else
  if (S.1 5 a2.toNatClampNeg) < a3 then
  some (0 : Int32)
  else
  some (1 : Int32)
  else
  some (-1 : Int32)
noncomputable def f_X9_setDebt (a0 : Int32) (a1 : Int32) (a2 : Int32) (S : kD) : Option kD :=
  if a0 < 0 then
  some S
  else
  if (6 : Int32) ≤ a0 then
  some S
  else
  if a1 < 0 then
  some S
  else
  if (6 : Int32) ≤ a1 then
  some S
  else
  if ((a0 * (6 : Int32)) + a1) < 0 ∨ 36 ≤ ((a0 * (6 : Int32)) + a1).toNatClampNeg then none else
  bd1 (kI S 8 ((a0 * (6 : Int32)) + a1).toNatClampNeg a2) fun Sv2 =>
  some Sv2
noncomputable def g_X9_put_96 (O : kD) (x2_96 : Int32) (x3_96 : Int32) (S_96 : kD) : Option kD :=
  bd1 (kI S_96 0 1 x3_96) fun Sv1 =>
  bd1 (kI Sv1 0 2 x2_96) fun Sv2 =>
  some Sv2
noncomputable def f_X9_put (a1 : Int32) (a2 : Int32) (S : kD) (O : kD) : Option kD :=
  if (f_X3_hasMachine a1 O) = 0 then
  some S
  else
  if (f_X3_hasPhrase a2 O) = 0 then
  some S
  else
  if a1 < 0 ∨ 6 ≤ a1.toNatClampNeg then none else
  if a2 < 0 ∨ 8 ≤ a2.toNatClampNeg then none else
  if a1 < 0 ∨ 6 ≤ a1.toNatClampNeg then none else
  bd1 (kI S 5 a1.toNatClampNeg ((S.1 5 a1.toNatClampNeg) - (O.1 8 a2.toNatClampNeg))) fun Sv6 =>
  if a1 < 0 ∨ 6 ≤ a1.toNatClampNeg then none else
  if a1 < 0 ∨ 6 ≤ a1.toNatClampNeg then none else
  bd1 (kI Sv6 6 a1.toNatClampNeg ((Sv6.1 6 a1.toNatClampNeg) + (1 : Int32))) fun Sv9 =>
  if a1 < 0 ∨ 6 ≤ a1.toNatClampNeg then none else
  if a2 < 0 ∨ 8 ≤ a2.toNatClampNeg then none else
  if a1 < 0 ∨ 6 ≤ a1.toNatClampNeg then none else
  bd1 (kI Sv9 7 a1.toNatClampNeg ((Sv9.1 7 a1.toNatClampNeg) + (O.1 8 a2.toNatClampNeg))) fun Sv13 =>
  if (Sv13.1 0 1) = (-1 : Int32) then
  g_X9_put_96 O a1 a2 Sv13
  else
  bo (f_X9_debtOf (Sv13.1 0 2) a1 Sv13) fun v15 =>
  if a2 < 0 ∨ 8 ≤ a2.toNatClampNeg then none else
  bo (f_X9_setDebt (Sv13.1 0 2) a1 (kMin (9999 : Int32) (v15 + (O.1 9 a2.toNatClampNeg))) Sv13) fun Sv18 =>
  g_X9_put_96 O a1 a2 Sv18
noncomputable def g_X9_writeByTurn_45 (O : kD) (x3_45 : Int32) (x4_45 : Int32) (S_45 : kD) : Option (Int32 × kD) :=
  bo (f_X9_put x3_45 x4_45 S_45 O) fun Sv2 =>
  some ((1 : Int32), Sv2)
noncomputable def g_X9_writeByTurn_61 (rc_2 : Int32 → kD → Option (Int32 × kD)) (O : kD) (x2_61 : Int32) (S_61 : kD) : Option (Int32 × kD) :=
  bd1 (x2_61 + (1 : Int32)) fun v3 =>
  rc_2 v3 S_61
noncomputable def g_X9_writeByTurn_25 (rc_2 : Int32 → kD → Option (Int32 × kD)) (O : kD) (rc_25 : Int32 → Int32 → Int32 → kD → Option (Int32 × kD)) (x2_25 : Int32) (x3_25 : Int32) (x4_25 : Int32) (S_25 : kD) : Option (Int32 × kD) :=
  if (O.1 0 2) ≤ x4_25 then
  g_X9_writeByTurn_61 rc_2 O x2_25 S_25
  else
  bo (f_X9_whyNotWrite x3_25 x4_25 S_25 O) fun v5 =>
  if v5 = 0 then
  g_X9_writeByTurn_45 O x3_25 x4_25 S_25
  else
  bd1 (x4_25 + (1 : Int32)) fun v6 =>
  rc_25 x2_25 x3_25 v6 S_25
noncomputable def g_X9_writeByTurn_2 (O : kD) (rc_2 : Int32 → kD → Option (Int32 × kD)) (x2_2 : Int32) (S_2 : kD) : Option (Int32 × kD) :=
  if (O.1 0 1) < x2_2 then
  some ((0 : Int32), S_2)
  else
  if (O.1 0 1) = 0 then none else
  bd1 (kRem ((S_2.1 0 2) + x2_2) (O.1 0 1)) fun v10 =>
  lp (fun _ _ _ _ => none) (g_X9_writeByTurn_25 rc_2 O) 2000 x2_2 v10 (0 : Int32) S_2
noncomputable def f_X9_writeByTurn (S : kD) (O : kD) : Option (Int32 × kD) :=
  lp (fun _ _ => none) (g_X9_writeByTurn_2 O) 2000 (1 : Int32) S
noncomputable def g_X9_passDay_38 (O : kD) (x2_38 : Int32) (S_38 : kD) : Option (Int32 × kD) :=
  bd1 (kI S_38 0 0 ((S_38.1 0 0) + (1 : Int32))) fun Sv1 =>
  if ¬ (x2_38 = 0 ∨ x2_38 = 1) then none else
  some (x2_38, Sv1)
noncomputable def f_X9_passDay (S : kD) (O : kD) : Option (Int32 × kD) :=
  bo2 (f_X9_writeByTurn S O) fun v4 Sv5 =>
  if v4 = 0 then
  if (Sv5.1 0 1) = (-1 : Int32) then
  g_X9_passDay_38 O v4 Sv5
  else
  bd1 (kI Sv5 0 1 (-1 : Int32)) fun Sv6 =>
  bd1 (kI Sv6 0 2 (-1 : Int32)) fun Sv7 =>
  bd1 (kI Sv7 0 4 ((Sv7.1 0 4) + (1 : Int32))) fun Sv8 =>
  g_X9_passDay_38 O v4 Sv8
  else
  g_X9_passDay_38 O v4 Sv5
noncomputable def g_X9_passDays_2 (O : kD) (rc_2 : Int32 → Int32 → kD → Option kD) (x2_2 : Int32) (x3_2 : Int32) (S_2 : kD) : Option kD :=
  if x2_2 ≤ x3_2 then
  some S_2
  else
  bo2 (f_X9_passDay S_2 O) fun v2 Sv3 =>
  bd1 (x3_2 + (1 : Int32)) fun v4 =>
  rc_2 x2_2 v4 Sv3
noncomputable def f_X9_passDays (a1 : Int32) (S : kD) (O : kD) : Option kD :=
  lp (fun _ _ _ => none) (g_X9_passDays_2 O) 2000 a1 (0 : Int32) S
noncomputable def g_X9_settle_65 (rc_2 : Int32 → kD → Option kD) (x1_65 : Int32) (S_65 : kD) : Option kD :=
  bd1 (x1_65 + (1 : Int32)) fun v1 =>
  rc_2 v1 S_65
noncomputable def g_X9_settle_10 (rc_2 : Int32 → kD → Option kD) (rc_10 : Int32 → Int32 → kD → Option kD) (x1_10 : Int32) (x2_10 : Int32) (S_10 : kD) : Option kD :=
  if x1_10 ≤ x2_10 then
  g_X9_settle_65 rc_2 x1_10 S_10
  else
  bo (f_X9_debtOf x1_10 x2_10 S_10) fun v3 =>
  bo (f_X9_debtOf x2_10 x1_10 S_10) fun v5 =>
  bd1 (kMin v3 v5) fun v6 =>
  bo (f_X9_debtOf x1_10 x2_10 S_10) fun v8 =>
  bo (f_X9_setDebt x1_10 x2_10 (v8 - v6) S_10) fun Sv10 =>
  bo (f_X9_debtOf x2_10 x1_10 Sv10) fun v12 =>
  bo (f_X9_setDebt x2_10 x1_10 (v12 - v6) Sv10) fun Sv14 =>
  bd1 (x2_10 + (1 : Int32)) fun v15 =>
  rc_10 x1_10 v15 Sv14
noncomputable def g_X9_settle_2 (rc_2 : Int32 → kD → Option kD) (x1_2 : Int32) (S_2 : kD) : Option kD :=
  if (6 : Int32) ≤ x1_2 then
  some S_2
  else
  lp (fun _ _ _ => none) (g_X9_settle_10 rc_2) 2000 x1_2 (0 : Int32) S_2
noncomputable def f_X9_settle (S : kD) : Option kD :=
  lp (fun _ _ => none) (g_X9_settle_2) 2000 (0 : Int32) S
noncomputable def g_X9_perform_53 (O : kD) (x2_53 : Int32) (x3_53 : Int32) (S_53 : kD) : Option kD :=
  if x2_53 = (10 : Int32) then
  bd1 (kI S_53 0 3 ((S_53.1 0 3) ||| ((1 : Int32) <<< (x3_53 &&& 31)))) fun Sv3 =>
  some Sv3
  else
  if x2_53 = (20 : Int32) then
  bd1 (kI S_53 0 3 ((S_53.1 0 3) &&& (((1 : Int32) <<< (x3_53 &&& 31)) ^^^ (-1 : Int32)))) fun Sv1 =>
  some Sv1
  else
  some S_53
noncomputable def f_X9_perform (a1 : Int32) (a2 : Int32) (a3 : Int32) (S : kD) (O : kD) : Option kD :=
  if a1 = (40 : Int32) then
  bo (f_X9_settle S) fun Sv13 =>
  some Sv13
  else
  if a1 = 0 then
  bo (f_X9_put a2 a3 S O) fun Sv10 =>
  some Sv10
  else
  if a1 = (30 : Int32) then
  if (f_X3_hasMachine a2 O) = 0 then
  g_X9_perform_53 O a1 a2 S
  else
  if a2 < 0 ∨ 6 ≤ a2.toNatClampNeg then none else
  bd1 (kI S 5 a2.toNatClampNeg a3) fun Sv6 =>
  some Sv6
  else
  g_X9_perform_53 O a1 a2 S
noncomputable def g_X0_live_56 (O : kD) (x3_56 : Int32) (x4_56 : Int32) (Bk_56 : kD) (S_56 : kD) : Option (kD × kD) :=
  if x3_56 < 0 ∨ 40 ≤ x3_56.toNatClampNeg then none else
  bd1 (kI Bk_56 0 2 ((Bk_56.1 3 x3_56.toNatClampNeg) + x4_56)) fun Bkv2 =>
  some (Bkv2, S_56)
noncomputable def g_X0_live_118 (rc_12 : Int32 → kD → kD → Option (kD × kD)) (O : kD) (x3_118 : Int32) (Bk_118 : kD) (S_118 : kD) : Option (kD × kD) :=
  bd1 (kI Bk_118 0 1 ((Bk_118.1 0 1) + (1 : Int32))) fun Bkv3 =>
  bd1 (x3_118 + (1 : Int32)) fun v4 =>
  rc_12 v4 Bkv3 S_118
noncomputable def g_X0_live_12 (O : kD) (rc_12 : Int32 → kD → kD → Option (kD × kD)) (x3_12 : Int32) (Bk_12 : kD) (S_12 : kD) : Option (kD × kD) :=
  if (Bk_12.1 0 0) ≤ x3_12 then
  some (Bk_12, S_12)
  else
  if (40 : Int32) ≤ x3_12 then
  some (Bk_12, S_12)
  else
  if x3_12 < 0 ∨ 40 ≤ x3_12.toNatClampNeg then none else
  if x3_12 < 0 ∨ 40 ≤ x3_12.toNatClampNeg then none else
  if x3_12 < 0 ∨ 40 ≤ x3_12.toNatClampNeg then none else
  bo (f_X9_whyNot (Bk_12.1 3 x3_12.toNatClampNeg) (Bk_12.1 4 x3_12.toNatClampNeg) (Bk_12.1 5 x3_12.toNatClampNeg) S_12 O) fun v9 =>
  if v9 = 0 then
  if x3_12 < 0 ∨ 40 ≤ x3_12.toNatClampNeg then none else
  if (Bk_12.1 3 x3_12.toNatClampNeg) = (50 : Int32) then
  if x3_12 < 0 ∨ 40 ≤ x3_12.toNatClampNeg then none else
  bo (f_X9_passDays (Bk_12.1 5 x3_12.toNatClampNeg) S_12 O) fun Sv18 =>
  g_X0_live_118 rc_12 O x3_12 Bk_12 Sv18
  else
  if x3_12 < 0 ∨ 40 ≤ x3_12.toNatClampNeg then none else
  if x3_12 < 0 ∨ 40 ≤ x3_12.toNatClampNeg then none else
  if x3_12 < 0 ∨ 40 ≤ x3_12.toNatClampNeg then none else
  bo (f_X9_perform (Bk_12.1 3 x3_12.toNatClampNeg) (Bk_12.1 4 x3_12.toNatClampNeg) (Bk_12.1 5 x3_12.toNatClampNeg) S_12 O) fun Sv15 =>
  g_X0_live_118 rc_12 O x3_12 Bk_12 Sv15
  else
  g_X0_live_56 O x3_12 v9 Bk_12 S_12
noncomputable def f_X0_live (Bk : kD) (O : kD) (S : kD) : Option (kD × kD) :=
  bd1 (kI Bk 0 1 (0 : Int32)) fun Bkv23 =>
  bd1 (kI Bkv23 0 2 (0 : Int32)) fun Bkv24 =>
  lp (fun _ _ _ => none) (g_X0_live_12 O) 2000 (0 : Int32) Bkv24 S
noncomputable def f_X1_draw (a0 : Int32) (D : kD) : Option (Int32 × kD) :=
  bd1 (kI D 0 0 (((D.1 0 0) * (1103515245 : Int32)) + (12345 : Int32))) fun Dv1 =>
  if a0 ≤ 0 then
  some ((0 : Int32), Dv1)
  else
  if a0 = 0 then none else
  some ((kRem (kUshr (Dv1.1 0 0) (8 : Int32)) a0), Dv1)
noncomputable def f_X2_forget (Hy : kD) (HS : Nat → kD) : Option kD :=
  bd1 (kI Hy 0 0 (0 : Int32)) fun Hyv1 =>
  some Hyv1
noncomputable def f_X9_copyFrom (S : kD) (S2 : kD) : Option kD :=
  bd1 (kI S 0 0 (S2.1 0 0)) fun Sv1 =>
  bd1 (kI Sv1 0 1 (S2.1 0 1)) fun Sv2 =>
  bd1 (kI Sv2 0 2 (S2.1 0 2)) fun Sv3 =>
  bd1 (kI Sv3 0 3 (S2.1 0 3)) fun Sv4 =>
  bd1 (kI Sv4 0 4 (S2.1 0 4)) fun Sv5 =>
  bd1 (kSI Sv5 5 (va_cpy (S2.1 5) (Sv5.1 5) 0 0 6)) fun Sv6 =>
  bd1 (kSI Sv6 6 (va_cpy (S2.1 6) (Sv6.1 6) 0 0 6)) fun Sv7 =>
  bd1 (kSI Sv7 7 (va_cpy (S2.1 7) (Sv7.1 7) 0 0 6)) fun Sv8 =>
  bd1 (kSI Sv8 8 (va_cpy (S2.1 8) (Sv8.1 8) 0 0 36)) fun Sv9 =>
  some Sv9
noncomputable def g_X2_keep_32 (S : kD) (Hy_32 : kD) (HS_32 : Nat → kD) : Option (kD × (Nat → kD)) :=
  bd1 (kRem ((Hy_32.1 0 1) + (Hy_32.1 0 0)) (8 : Int32)) fun v1 =>
  if v1 = 0 then
  bo (f_X9_copyFrom (HS_32 0) S) fun HSv3 =>
  bd1 ((upF HS_32 0 HSv3)) fun HSv4 =>
  bd1 (kI Hy_32 0 0 ((Hy_32.1 0 0) + (1 : Int32))) fun Hyv5 =>
  some (Hyv5, HSv4)
  else
  if v1 = 1 then
  bo (f_X9_copyFrom (HS_32 1) S) fun HSv8 =>
  bd1 ((upF HS_32 1 HSv8)) fun HSv9 =>
  bd1 (kI Hy_32 0 0 ((Hy_32.1 0 0) + (1 : Int32))) fun Hyv10 =>
  some (Hyv10, HSv9)
  else
  if v1 = 2 then
  bo (f_X9_copyFrom (HS_32 2) S) fun HSv13 =>
  bd1 ((upF HS_32 2 HSv13)) fun HSv14 =>
  bd1 (kI Hy_32 0 0 ((Hy_32.1 0 0) + (1 : Int32))) fun Hyv15 =>
  some (Hyv15, HSv14)
  else
  if v1 = 3 then
  bo (f_X9_copyFrom (HS_32 3) S) fun HSv18 =>
  bd1 ((upF HS_32 3 HSv18)) fun HSv19 =>
  bd1 (kI Hy_32 0 0 ((Hy_32.1 0 0) + (1 : Int32))) fun Hyv20 =>
  some (Hyv20, HSv19)
  else
  if v1 = 4 then
  bo (f_X9_copyFrom (HS_32 4) S) fun HSv23 =>
  bd1 ((upF HS_32 4 HSv23)) fun HSv24 =>
  bd1 (kI Hy_32 0 0 ((Hy_32.1 0 0) + (1 : Int32))) fun Hyv25 =>
  some (Hyv25, HSv24)
  else
  if v1 = 5 then
  bo (f_X9_copyFrom (HS_32 5) S) fun HSv28 =>
  bd1 ((upF HS_32 5 HSv28)) fun HSv29 =>
  bd1 (kI Hy_32 0 0 ((Hy_32.1 0 0) + (1 : Int32))) fun Hyv30 =>
  some (Hyv30, HSv29)
  else
  if v1 = 6 then
  bo (f_X9_copyFrom (HS_32 6) S) fun HSv33 =>
  bd1 ((upF HS_32 6 HSv33)) fun HSv34 =>
  bd1 (kI Hy_32 0 0 ((Hy_32.1 0 0) + (1 : Int32))) fun Hyv35 =>
  some (Hyv35, HSv34)
  else
  if v1 = 7 then
  bo (f_X9_copyFrom (HS_32 7) S) fun HSv38 =>
  bd1 ((upF HS_32 7 HSv38)) fun HSv39 =>
  bd1 (kI Hy_32 0 0 ((Hy_32.1 0 0) + (1 : Int32))) fun Hyv40 =>
  some (Hyv40, HSv39)
  else
  none
noncomputable def f_X2_keep (Hy : kD) (HS : Nat → kD) (S : kD) : Option (kD × (Nat → kD)) :=
  if (Hy.1 0 0) = (8 : Int32) then
  bd1 (kI Hy 0 1 (kRem ((Hy.1 0 1) + (1 : Int32)) (8 : Int32))) fun Hyv42 =>
  bd1 (kI Hyv42 0 0 ((Hyv42.1 0 0) - (1 : Int32))) fun Hyv43 =>
  g_X2_keep_32 S Hyv43 HS
  else
  g_X2_keep_32 S Hy HS
noncomputable def f_X2_takeBack (Hy : kD) (HS : Nat → kD) (S : kD) : Option (Int32 × kD × kD) :=
  if (Hy.1 0 0) = 0 then
  some ((0 : Int32), Hy, S)
  else
  bd1 (kI Hy 0 0 ((Hy.1 0 0) - (1 : Int32))) fun Hyv1 =>
  bd1 (kRem ((Hyv1.1 0 1) + (Hyv1.1 0 0)) (8 : Int32)) fun v2 =>
  if v2 = 0 then
  bo (f_X9_copyFrom S (HS 0)) fun Sv4 =>
  some ((1 : Int32), Hyv1, Sv4)
  else
  if v2 = 1 then
  bo (f_X9_copyFrom S (HS 1)) fun Sv7 =>
  some ((1 : Int32), Hyv1, Sv7)
  else
  if v2 = 2 then
  bo (f_X9_copyFrom S (HS 2)) fun Sv10 =>
  some ((1 : Int32), Hyv1, Sv10)
  else
  if v2 = 3 then
  bo (f_X9_copyFrom S (HS 3)) fun Sv13 =>
  some ((1 : Int32), Hyv1, Sv13)
  else
  if v2 = 4 then
  bo (f_X9_copyFrom S (HS 4)) fun Sv16 =>
  some ((1 : Int32), Hyv1, Sv16)
  else
  if v2 = 5 then
  bo (f_X9_copyFrom S (HS 5)) fun Sv19 =>
  some ((1 : Int32), Hyv1, Sv19)
  else
  if v2 = 6 then
  bo (f_X9_copyFrom S (HS 6)) fun Sv22 =>
  some ((1 : Int32), Hyv1, Sv22)
  else
  if v2 = 7 then
  bo (f_X9_copyFrom S (HS 7)) fun Sv25 =>
  some ((1 : Int32), Hyv1, Sv25)
  else
  none
noncomputable def f_X3_copyFrom (O : kD) (O2 : kD) : Option kD :=
  bd1 (kI O 0 0 (O2.1 0 0)) fun Ov1 =>
  bd1 (kI Ov1 0 1 (O2.1 0 1)) fun Ov2 =>
  bd1 (kI Ov2 0 2 (O2.1 0 2)) fun Ov3 =>
  bd1 (kI Ov3 0 3 (O2.1 0 3)) fun Ov4 =>
  bd1 (kSL Ov4 4 (va_cpy (O2.2 4) (Ov4.2 4) 0 0 6)) fun Ov5 =>
  bd1 (kSI Ov5 5 (va_cpy (O2.1 5) (Ov5.1 5) 0 0 6)) fun Ov6 =>
  bd1 (kSI Ov6 6 (va_cpy (O2.1 6) (Ov6.1 6) 0 0 6)) fun Ov7 =>
  bd1 (kSL Ov7 7 (va_cpy (O2.2 7) (Ov7.2 7) 0 0 8)) fun Ov8 =>
  bd1 (kSI Ov8 8 (va_cpy (O2.1 8) (Ov8.1 8) 0 0 8)) fun Ov9 =>
  bd1 (kSI Ov9 9 (va_cpy (O2.1 9) (Ov9.1 9) 0 0 8)) fun Ov10 =>
  bd1 (kSI Ov10 10 (va_cpy (O2.1 10) (Ov10.1 10) 0 0 8)) fun Ov11 =>
  some Ov11
noncomputable def g_X3_answeredBy_27 (rc_4 : Int32 → Int32 → Int32 → Option Int32) (O : kD) (x1_27 : Int32) (x2_27 : Int32) (x3_27 : Int32) : Option Int32 :=
  bd1 (x3_27 + (1 : Int32)) fun v1 =>
  rc_4 x1_27 x2_27 v1
noncomputable def g_X3_answeredBy_4 (O : kD) (rc_4 : Int32 → Int32 → Int32 → Option Int32) (x1_4 : Int32) (x2_4 : Int32) (x3_4 : Int32) : Option Int32 :=
  if (O.1 0 2) ≤ x3_4 then
  some x2_4
  else
  bo (f_X3_isAnswer x1_4 x3_4 O) fun v3 =>
  if v3 = 0 then
  g_X3_answeredBy_27 rc_4 O x1_4 x2_4 x3_4
  else
  bd1 (x2_4 ||| ((1 : Int32) <<< (x3_4 &&& 31))) fun v4 =>
  g_X3_answeredBy_27 rc_4 O x1_4 v4 x3_4
noncomputable def f_X3_answeredBy (a0 : Int32) (O : kD) : Option Int32 :=
  lp (fun _ _ _ => none) (g_X3_answeredBy_4 O) 2000 a0 (0 : Int32) (0 : Int32)
noncomputable def g_X3_machinesKnowing_27 (rc_4 : Int32 → Int32 → Int32 → Option Int32) (O : kD) (x1_27 : Int32) (x2_27 : Int32) (x3_27 : Int32) : Option Int32 :=
  bd1 (x3_27 + (1 : Int32)) fun v1 =>
  rc_4 x1_27 x2_27 v1
noncomputable def g_X3_machinesKnowing_4 (O : kD) (rc_4 : Int32 → Int32 → Int32 → Option Int32) (x1_4 : Int32) (x2_4 : Int32) (x3_4 : Int32) : Option Int32 :=
  if (O.1 0 1) ≤ x3_4 then
  some x2_4
  else
  bo (f_X3_knowsOf x3_4 x1_4 O) fun v3 =>
  if v3 = 0 then
  g_X3_machinesKnowing_27 rc_4 O x1_4 x2_4 x3_4
  else
  bd1 (x2_4 ||| ((1 : Int32) <<< (x3_4 &&& 31))) fun v4 =>
  g_X3_machinesKnowing_27 rc_4 O x1_4 v4 x3_4
noncomputable def f_X3_machinesKnowing (a0 : Int32) (O : kD) : Option Int32 :=
  lp (fun _ _ _ => none) (g_X3_machinesKnowing_4 O) 2000 a0 (0 : Int32) (0 : Int32)
noncomputable def f_X4_needsName (nT : Nat) (R : kD) (T : Nat → Int32) : Option (Int32 × kD) :=
  bo (f_X4_seesWord (0 : Int32) nT R T) fun v2 =>
  if v2 = 0 then
  bo2 (f_X4_refuse (1 : Int32) nT R T) fun v4 Rv5 =>
  if v4 = 0 then
  some ((0 : Int32), Rv5)
  else
  some ((1 : Int32), Rv5)
  else
  some ((1 : Int32), R)
noncomputable def g_X3_needsNewName_52 (nT : Nat) (O : kD) (T : Nat → Int32) (t0_52 : Int32) (R_52 : kD) : Option (Int32 × kD) :=
  if t0_52 = 0 then
  bo2 (f_X4_refuse (3 : Int32) nT R_52 T) fun v2 Rv3 =>
  if v2 = 0 then
  some ((0 : Int32), Rv3)
  else
  some ((1 : Int32), Rv3)
  else
  some ((1 : Int32), R_52)
noncomputable def g_X3_needsNewName_51 (nT : Nat) (O : kD) (T : Nat → Int32) (R_51 : kD) : Option (Int32 × kD) :=
  g_X3_needsNewName_52 nT O T (0 : Int32) R_51
noncomputable def f_X3_needsNewName (nT : Nat) (O : kD) (R : kD) (T : Nat → Int32) : Option (Int32 × kD) :=
  bo2 (f_X4_needsName nT R T) fun v7 Rv8 =>
  if v7 = 0 then
  some ((0 : Int32), Rv8)
  else
  bo (f_X11_placeOf (Rv8.2 0 7) (O.1 0 1) 6 (O.2 4)) fun v10 =>
  if v10 = (-1 : Int32) then
  bo (f_X11_placeOf (Rv8.2 0 7) (O.1 0 2) 8 (O.2 7)) fun v12 =>
  if v12 = (-1 : Int32) then
  g_X3_needsNewName_52 nT O T (1 : Int32) Rv8
  else
  g_X3_needsNewName_51 nT O T Rv8
  else
  g_X3_needsNewName_51 nT O T Rv8
noncomputable def f_X5_canBe (a2 : Int32) (O : kD) (S : kD) : Option Int32 :=
  bd1 (a2 / (8 : Int32)) fun v1 =>
  if (f_X9_isHeld v1 S) = 0 then
  bo (f_X3_knowsOf v1 (kRem a2 (8 : Int32)) O) fun v3 =>
  if v3 = 0 then
  some (0 : Int32)
  else
  some (1 : Int32)
  else
  some (0 : Int32)
noncomputable def f_X5_follows (a1 : Int32) (a2 : Int32) (a3 : Int32) (O : kD) : Option Int32 :=
  if a2 = (-1 : Int32) then
  some (1 : Int32)
  else
  if (a3 / (8 : Int32)) = a1 then
  some (0 : Int32)
  else
  bo (f_X3_isAnswer (kRem a3 (8 : Int32)) a2 O) fun v2 =>
  if v2 = 0 then
  some (0 : Int32)
  else
  some (1 : Int32)
noncomputable def g_X5_measure_183 (rc_69 : Int32 → Int32 → kD → Option kD) (O : kD) (S : kD) (x4_183 : Int32) (x5_183 : Int32) (P_183 : kD) : Option kD :=
  bd1 (x5_183 + (1 : Int32)) fun v1 =>
  rc_69 x4_183 v1 P_183
noncomputable def g_X5_measure_177 (rc_69 : Int32 → Int32 → kD → Option kD) (rc_95 : Int32 → Int32 → Int32 → Int32 → kD → Option kD) (O : kD) (S : kD) (x4_177 : Int32) (x5_177 : Int32) (x6_177 : Int32) (x7_177 : Int32) (P_177 : kD) : Option kD :=
  bd1 (x7_177 + (1 : Int32)) fun v2 =>
  rc_95 x4_177 x5_177 x6_177 v2 P_177
noncomputable def g_X5_measure_95 (rc_69 : Int32 → Int32 → kD → Option kD) (O : kD) (S : kD) (rc_95 : Int32 → Int32 → Int32 → Int32 → kD → Option kD) (x4_95 : Int32) (x5_95 : Int32) (x6_95 : Int32) (x7_95 : Int32) (P_95 : kD) : Option kD :=
  if (48 : Int32) ≤ x7_95 then
  g_X5_measure_183 rc_69 O S x4_95 x5_95 P_95
  else
  if (48 : Int32) ≤ x4_95 then
  g_X5_measure_183 rc_69 O S x4_95 x5_95 P_95
  else
  if x7_95 < 0 ∨ 48 ≤ x7_95.toNatClampNeg then none else
  if (P_95.1 100 x7_95.toNatClampNeg) = (-1 : Int32) then
  bo (f_X5_canBe x7_95 O S) fun v5 =>
  if v5 = 0 then
  g_X5_measure_177 rc_69 rc_95 O S x4_95 x5_95 x6_95 x7_95 P_95
  else
  bo (f_X5_follows (x7_95 / (8 : Int32)) (kRem x7_95 (8 : Int32)) x6_95 O) fun v7 =>
  if v7 = 0 then
  g_X5_measure_177 rc_69 rc_95 O S x4_95 x5_95 x6_95 x7_95 P_95
  else
  if x6_95 < 0 ∨ 48 ≤ x6_95.toNatClampNeg then none else
  if x7_95 < 0 ∨ 48 ≤ x7_95.toNatClampNeg then none else
  bd1 (kI P_95 100 x7_95.toNatClampNeg ((P_95.1 100 x6_95.toNatClampNeg) + (1 : Int32))) fun Pv10 =>
  if x4_95 < 0 ∨ 48 ≤ x4_95.toNatClampNeg then none else
  bd1 (kI Pv10 1 x4_95.toNatClampNeg x7_95) fun Pv12 =>
  bd1 (x4_95 + (1 : Int32)) fun v13 =>
  g_X5_measure_177 rc_69 rc_95 O S v13 x5_95 x6_95 x7_95 Pv12
  else
  g_X5_measure_177 rc_69 rc_95 O S x4_95 x5_95 x6_95 x7_95 P_95
noncomputable def g_X5_measure_69 (O : kD) (S : kD) (rc_69 : Int32 → Int32 → kD → Option kD) (x4_69 : Int32) (x5_69 : Int32) (P_69 : kD) : Option kD :=
  if x4_69 ≤ x5_69 then
  some P_69
  else
  if (48 : Int32) ≤ x5_69 then
  some P_69
  else
  if x5_69 < 0 ∨ 48 ≤ x5_69.toNatClampNeg then none else
  bd1 (P_69.1 1 x5_69.toNatClampNeg) fun v20 =>
  lp (fun _ _ _ _ _ => none) (g_X5_measure_95 rc_69 O S) 2000 x4_69 x5_69 v20 (0 : Int32) P_69
noncomputable def g_X5_measure_66 (O : kD) (S : kD) (x4_66 : Int32) (P_66 : kD) : Option kD :=
  lp (fun _ _ _ => none) (g_X5_measure_69 O S) 2000 x4_66 (0 : Int32) P_66
noncomputable def g_X5_measure_60 (rc_6 : Int32 → Int32 → Int32 → kD → Option kD) (O : kD) (S : kD) (x3_60 : Int32) (x4_60 : Int32) (x5_60 : Int32) (P_60 : kD) : Option kD :=
  bd1 (x5_60 + (1 : Int32)) fun v23 =>
  rc_6 x3_60 x4_60 v23 P_60
noncomputable def g_X5_measure_6 (O : kD) (S : kD) (rc_6 : Int32 → Int32 → Int32 → kD → Option kD) (x3_6 : Int32) (x4_6 : Int32) (x5_6 : Int32) (P_6 : kD) : Option kD :=
  if (48 : Int32) ≤ x5_6 then
  g_X5_measure_66 O S x4_6 P_6
  else
  if x5_6 < 0 ∨ 48 ≤ x5_6.toNatClampNeg then none else
  bd1 (kI P_6 100 x5_6.toNatClampNeg (-1 : Int32)) fun Pv25 =>
  if (kRem x5_6 (8 : Int32)) = x3_6 then
  bo (f_X5_canBe x5_6 O S) fun v27 =>
  if v27 = 0 then
  g_X5_measure_60 rc_6 O S x3_6 x4_6 x5_6 Pv25
  else
  if x5_6 < 0 ∨ 48 ≤ x5_6.toNatClampNeg then none else
  bd1 (kI Pv25 100 x5_6.toNatClampNeg (0 : Int32)) fun Pv29 =>
  if x4_6 < 0 ∨ 48 ≤ x4_6.toNatClampNeg then none else
  bd1 (kI Pv29 1 x4_6.toNatClampNeg x5_6) fun Pv31 =>
  bd1 (x4_6 + (1 : Int32)) fun v32 =>
  g_X5_measure_60 rc_6 O S x3_6 v32 x5_6 Pv31
  else
  g_X5_measure_60 rc_6 O S x3_6 x4_6 x5_6 Pv25
noncomputable def f_X5_measure (a2 : Int32) (P : kD) (O : kD) (S : kD) : Option kD :=
  lp (fun _ _ _ _ => none) (g_X5_measure_6 O S) 2000 a2 (0 : Int32) (0 : Int32) P
noncomputable def g_X5_nearest_62 (rc_6 : Int32 → Int32 → Int32 → Int32 → Option Int32) (P : kD) (O : kD) (x2_62 : Int32) (x3_62 : Int32) (x4_62 : Int32) (x5_62 : Int32) : Option Int32 :=
  bd1 (x5_62 + (1 : Int32)) fun v1 =>
  rc_6 x2_62 x3_62 x4_62 v1
noncomputable def g_X5_nearest_58 (rc_6 : Int32 → Int32 → Int32 → Int32 → Option Int32) (P : kD) (O : kD) (x2_58 : Int32) (x3_58 : Int32) (x5_58 : Int32) : Option Int32 :=
  g_X5_nearest_62 rc_6 P O x2_58 x3_58 x5_58 x5_58
noncomputable def g_X5_nearest_6 (P : kD) (O : kD) (rc_6 : Int32 → Int32 → Int32 → Int32 → Option Int32) (x2_6 : Int32) (x3_6 : Int32) (x4_6 : Int32) (x5_6 : Int32) : Option Int32 :=
  if (48 : Int32) ≤ x5_6 then
  some x4_6
  else
  if x5_6 < 0 ∨ 48 ≤ x5_6.toNatClampNeg then none else
  if (P.1 100 x5_6.toNatClampNeg) = (-1 : Int32) then
  g_X5_nearest_62 rc_6 P O x2_6 x3_6 x4_6 x5_6
  else
  bo (f_X5_follows x2_6 x3_6 x5_6 O) fun v4 =>
  if v4 = 0 then
  g_X5_nearest_62 rc_6 P O x2_6 x3_6 x4_6 x5_6
  else
  if x4_6 = (-1 : Int32) then
  g_X5_nearest_58 rc_6 P O x2_6 x3_6 x5_6
  else
  if x5_6 < 0 ∨ 48 ≤ x5_6.toNatClampNeg then none else
  if x4_6 < 0 ∨ 48 ≤ x4_6.toNatClampNeg then none else
  if (P.1 100 x4_6.toNatClampNeg) ≤ (P.1 100 x5_6.toNatClampNeg) then
  g_X5_nearest_62 rc_6 P O x2_6 x3_6 x4_6 x5_6
  else
  g_X5_nearest_58 rc_6 P O x2_6 x3_6 x5_6
noncomputable def f_X5_nearest (a1 : Int32) (a2 : Int32) (P : kD) (O : kD) : Option Int32 :=
  lp (fun _ _ _ _ => none) (g_X5_nearest_6 P O) 2000 a1 a2 (-1 : Int32) (0 : Int32)
noncomputable def g_X5_find_54 (O : kD) (S : kD) (rc_54 : Int32 → Int32 → kD → Option (Int32 × kD)) (x4_54 : Int32) (x5_54 : Int32) (P_54 : kD) : Option (Int32 × kD) :=
  if (P_54.1 0 3) ≤ x5_54 then
  some ((P_54.1 0 3), P_54)
  else
  if (48 : Int32) ≤ x5_54 then
  some ((P_54.1 0 3), P_54)
  else
  if x4_54 = (-1 : Int32) then
  some ((P_54.1 0 3), P_54)
  else
  bo (f_X5_nearest (x4_54 / (8 : Int32)) (kRem x4_54 (8 : Int32)) P_54 O) fun v2 =>
  if x5_54 < 0 ∨ 48 ≤ x5_54.toNatClampNeg then none else
  bd1 (kI P_54 2 x5_54.toNatClampNeg v2) fun Pv4 =>
  bd1 (x5_54 + (1 : Int32)) fun v5 =>
  rc_54 v2 v5 Pv4
noncomputable def f_X5_find (a2 : Int32) (P : kD) (O : kD) (S : kD) : Option (Int32 × kD) :=
  bo (f_X5_measure a2 P O S) fun Pv10 =>
  bo (f_X5_nearest (S.1 0 2) (S.1 0 1) Pv10 O) fun v12 =>
  if v12 = (-1 : Int32) then
  some ((-1 : Int32), Pv10)
  else
  if v12 < 0 ∨ 48 ≤ v12.toNatClampNeg then none else
  bd1 (kI Pv10 0 3 ((Pv10.1 100 v12.toNatClampNeg) + (1 : Int32))) fun Pv14 =>
  bd1 (kI Pv14 2 (0 : Int32).toNatClampNeg v12) fun Pv15 =>
  lp (fun _ _ _ => none) (g_X5_find_54 O S) 2000 v12 (1 : Int32) Pv15
noncomputable def g_X9_begin_67 (O : kD) (rc_67 : Int32 → kD → Option kD) (x2_67 : Int32) (S_67 : kD) : Option kD :=
  if (36 : Int32) ≤ x2_67 then
  some S_67
  else
  if x2_67 < 0 ∨ 36 ≤ x2_67.toNatClampNeg then none else
  bd1 (kI S_67 8 x2_67.toNatClampNeg (0 : Int32)) fun Sv2 =>
  bd1 (x2_67 + (1 : Int32)) fun v3 =>
  rc_67 v3 Sv2
noncomputable def g_X9_begin_65 (O : kD) (S_65 : kD) : Option kD :=
  lp (fun _ _ => none) (g_X9_begin_67 O) 2000 (0 : Int32) S_65
noncomputable def g_X9_begin_27 (O : kD) (rc_27 : Int32 → kD → Option kD) (x2_27 : Int32) (S_27 : kD) : Option kD :=
  if (6 : Int32) ≤ x2_27 then
  g_X9_begin_65 O S_27
  else
  if x2_27 < 0 ∨ 6 ≤ x2_27.toNatClampNeg then none else
  if x2_27 < 0 ∨ 6 ≤ x2_27.toNatClampNeg then none else
  bd1 (kI S_27 5 x2_27.toNatClampNeg (O.1 5 x2_27.toNatClampNeg)) fun Sv7 =>
  if x2_27 < 0 ∨ 6 ≤ x2_27.toNatClampNeg then none else
  bd1 (kI Sv7 6 x2_27.toNatClampNeg (0 : Int32)) fun Sv9 =>
  if x2_27 < 0 ∨ 6 ≤ x2_27.toNatClampNeg then none else
  bd1 (kI Sv9 7 x2_27.toNatClampNeg (0 : Int32)) fun Sv11 =>
  bd1 (x2_27 + (1 : Int32)) fun v12 =>
  rc_27 v12 Sv11
noncomputable def f_X9_begin (S : kD) (O : kD) : Option kD :=
  bd1 (kI S 0 0 (0 : Int32)) fun Sv14 =>
  bd1 (kI Sv14 0 1 (-1 : Int32)) fun Sv15 =>
  bd1 (kI Sv15 0 2 (-1 : Int32)) fun Sv16 =>
  bd1 (kI Sv16 0 3 (0 : Int32)) fun Sv17 =>
  bd1 (kI Sv17 0 4 (0 : Int32)) fun Sv18 =>
  lp (fun _ _ => none) (g_X9_begin_27 O) 2000 (0 : Int32) Sv18
noncomputable def f_X8_forget (N : kD) : Option kD :=
  bd1 (kI N 0 0 (0 : Int32)) fun Nv1 =>
  bd1 (kI Nv1 0 1 (0 : Int32)) fun Nv2 =>
  some Nv2
noncomputable def f_X7_begin (C : kD) (O : kD) (S : kD) (N : kD) (O2 : kD) : Option (kD × kD × kD) :=
  bo (f_X3_copyFrom O O2) fun Ov2 =>
  bo (f_X9_begin S O2) fun Sv4 =>
  bo (f_X8_forget N) fun Nv6 =>
  some (Ov2, Sv4, Nv6)
noncomputable def g_X8_copyFrom_18 (N2 : kD) (rc_18 : Int32 → kD → Option kD) (x2_18 : Int32) (N_18 : kD) : Option kD :=
  if (40 : Int32) ≤ x2_18 then
  some N_18
  else
  if x2_18 < 0 ∨ 40 ≤ x2_18.toNatClampNeg then none else
  if x2_18 < 0 ∨ 40 ≤ x2_18.toNatClampNeg then none else
  bd1 (kI N_18 2 x2_18.toNatClampNeg (N2.1 2 x2_18.toNatClampNeg)) fun Nv3 =>
  if x2_18 < 0 ∨ 40 ≤ x2_18.toNatClampNeg then none else
  if x2_18 < 0 ∨ 40 ≤ x2_18.toNatClampNeg then none else
  bd1 (kI Nv3 3 x2_18.toNatClampNeg (N2.1 3 x2_18.toNatClampNeg)) fun Nv6 =>
  if x2_18 < 0 ∨ 40 ≤ x2_18.toNatClampNeg then none else
  if x2_18 < 0 ∨ 40 ≤ x2_18.toNatClampNeg then none else
  bd1 (kI Nv6 4 x2_18.toNatClampNeg (N2.1 4 x2_18.toNatClampNeg)) fun Nv9 =>
  bd1 (x2_18 + (1 : Int32)) fun v10 =>
  rc_18 v10 Nv9
noncomputable def f_X8_copyFrom (N : kD) (N2 : kD) : Option kD :=
  bd1 (kI N 0 0 (N2.1 0 0)) fun Nv12 =>
  bd1 (kI Nv12 0 1 (N2.1 0 1)) fun Nv13 =>
  lp (fun _ _ => none) (g_X8_copyFrom_18 N2) 2000 (0 : Int32) Nv13
noncomputable def f_X7_copyFrom (C : kD) (O : kD) (S : kD) (N : kD) (C2 : kD) (O2 : kD) (S2 : kD) (N2 : kD) : Option (kD × kD × kD) :=
  bo (f_X3_copyFrom O O2) fun Ov2 =>
  bo (f_X9_copyFrom S S2) fun Sv4 =>
  bo (f_X8_copyFrom N N2) fun Nv6 =>
  some (Ov2, Sv4, Nv6)
noncomputable def f_X8_isTold (N : kD) : Int32 :=
  if (N.1 0 1) ≤ 0 then
  (0 : Int32)
  else
  (1 : Int32)
noncomputable def f_X8_keepWord (a0 : Int32) (a1 : Int32) (a2 : Int32) (N : kD) : Option (Int32 × kD) :=
  if (40 : Int32) ≤ (N.1 0 1) then
  some ((1 : Int32), N)
  else
  if (N.1 0 1) < 0 ∨ 40 ≤ (N.1 0 1).toNatClampNeg then none else
  bd1 (kI N 2 (N.1 0 1).toNatClampNeg a0) fun Nv2 =>
  if a0 < 0 ∨ 22 ≤ a0.toNatClampNeg then none else
  if (Nv2.1 0 1) < 0 ∨ 40 ≤ (Nv2.1 0 1).toNatClampNeg then none else
  bd1 (kI Nv2 3 (Nv2.1 0 1).toNatClampNeg a1) fun Nv5 =>
  if (Nv5.1 0 1) < 0 ∨ 40 ≤ (Nv5.1 0 1).toNatClampNeg then none else
  bd1 (kI Nv5 4 (Nv5.1 0 1).toNatClampNeg a2) fun Nv7 =>
  bd1 (kI Nv7 0 1 ((Nv7.1 0 1) + (1 : Int32))) fun Nv8 =>
  some ((1 : Int32), Nv8)
noncomputable def g_X9_phrasesAble_32 (rc_5 : Int32 → Int32 → Int32 → Option Int32) (S : kD) (O : kD) (x2_32 : Int32) (x3_32 : Int32) (x4_32 : Int32) : Option Int32 :=
  bd1 (x4_32 + (1 : Int32)) fun v1 =>
  rc_5 x2_32 x3_32 v1
noncomputable def g_X9_phrasesAble_5 (S : kD) (O : kD) (rc_5 : Int32 → Int32 → Int32 → Option Int32) (x2_5 : Int32) (x3_5 : Int32) (x4_5 : Int32) : Option Int32 :=
  if (O.1 0 2) ≤ x4_5 then
  some x3_5
  else
  bo (f_X9_whyNotWrite x2_5 x4_5 S O) fun v3 =>
  if v3 = 0 then
  bd1 (x3_5 ||| ((1 : Int32) <<< (x4_5 &&& 31))) fun v4 =>
  g_X9_phrasesAble_32 rc_5 S O x2_5 v4 x4_5
  else
  g_X9_phrasesAble_32 rc_5 S O x2_5 x3_5 x4_5
noncomputable def f_X9_phrasesAble (a1 : Int32) (S : kD) (O : kD) : Option Int32 :=
  lp (fun _ _ _ => none) (g_X9_phrasesAble_5 S O) 2000 a1 (0 : Int32) (0 : Int32)
noncomputable def g_X8_isSo_189 (N : kD) (O : kD) (S : kD) (x1_189 : Int32) (t0_189 : Int32) : Option Int32 :=
  if x1_189 < 0 ∨ 40 ≤ x1_189.toNatClampNeg then none else
  if (N.1 3 x1_189.toNatClampNeg) = (60 : Int32) then
  if x1_189 < 0 ∨ 40 ≤ x1_189.toNatClampNeg then none else
  if (N.1 4 x1_189.toNatClampNeg) ≤ t0_189 then
  some (0 : Int32)
  else
  some (1 : Int32)
  else
  if x1_189 < 0 ∨ 40 ≤ x1_189.toNatClampNeg then none else
  if (N.1 3 x1_189.toNatClampNeg) = (62 : Int32) then
  if x1_189 < 0 ∨ 40 ≤ x1_189.toNatClampNeg then none else
  if t0_189 ≤ (N.1 4 x1_189.toNatClampNeg) then
  some (0 : Int32)
  else
  some (1 : Int32)
  else
  if x1_189 < 0 ∨ 40 ≤ x1_189.toNatClampNeg then none else
  if t0_189 = (N.1 4 x1_189.toNatClampNeg) then
  some (1 : Int32)
  else
  some (0 : Int32)
noncomputable def f_X8_isSo (a0 : Int32) (a1 : Int32) (N : kD) (O : kD) (S : kD) : Option Int32 :=
  if a0 < 0 then
  some (0 : Int32)
  else
  if (40 : Int32) ≤ a0 then
  some (0 : Int32)
  else
  if (f_X3_hasMachine a1 O) = 0 then
  some (0 : Int32)
  else
  if a0 < 0 ∨ 40 ≤ a0.toNatClampNeg then none else
  if (N.1 2 a0.toNatClampNeg) < 0 ∨ 22 ≤ (N.1 2 a0.toNatClampNeg).toNatClampNeg then none else
  if (N.1 2 a0.toNatClampNeg) = (14 : Int32) then
  some (f_X9_isHeld a1 S)
  else
  if (N.1 2 a0.toNatClampNeg) = (15 : Int32) then
  if (S.1 0 2) = a1 then
  some (1 : Int32)
  else
  some (0 : Int32)
  else
  if (N.1 2 a0.toNatClampNeg) = (16 : Int32) then
  bo (f_X9_phrasesAble a1 S O) fun v28 =>
  if v28 = 0 then
  some (1 : Int32)
  else
  some (0 : Int32)
  else
  if (N.1 2 a0.toNatClampNeg) = (17 : Int32) then
  if a0 < 0 ∨ 40 ≤ a0.toNatClampNeg then none else
  bo (f_X9_whyNotWrite a1 (N.1 4 a0.toNatClampNeg) S O) fun v24 =>
  if v24 = 0 then
  some (1 : Int32)
  else
  some (0 : Int32)
  else
  if (N.1 2 a0.toNatClampNeg) = (18 : Int32) then
  if a0 < 0 ∨ 40 ≤ a0.toNatClampNeg then none else
  bo (f_X9_debtOf a1 (N.1 4 a0.toNatClampNeg) S) fun v19 =>
  if v19 ≤ 0 then
  some (0 : Int32)
  else
  some (1 : Int32)
  else
  if (N.1 2 a0.toNatClampNeg) = (19 : Int32) then
  if a1 < 0 ∨ 6 ≤ a1.toNatClampNeg then none else
  g_X8_isSo_189 N O S a0 (S.1 5 a1.toNatClampNeg)
  else
  if (N.1 2 a0.toNatClampNeg) = (20 : Int32) then
  if a1 < 0 ∨ 6 ≤ a1.toNatClampNeg then none else
  g_X8_isSo_189 N O S a0 (S.1 6 a1.toNatClampNeg)
  else
  g_X8_isSo_189 N O S a0 a1
noncomputable def g_X8_machinesOfPlain_36 (rc_6 : Int32 → Int32 → Int32 → Option Int32) (N : kD) (O : kD) (S : kD) (x1_36 : Int32) (x4_36 : Int32) (x5_36 : Int32) : Option Int32 :=
  bd1 (x5_36 + (1 : Int32)) fun v1 =>
  rc_6 x1_36 x4_36 v1
noncomputable def g_X8_machinesOfPlain_6 (N : kD) (O : kD) (S : kD) (rc_6 : Int32 → Int32 → Int32 → Option Int32) (x1_6 : Int32) (x4_6 : Int32) (x5_6 : Int32) : Option Int32 :=
  if (O.1 0 1) ≤ x5_6 then
  some x4_6
  else
  bo (f_X8_isSo x1_6 x5_6 N O S) fun v3 =>
  if v3 = 0 then
  g_X8_machinesOfPlain_36 rc_6 N O S x1_6 x4_6 x5_6
  else
  bd1 (x4_6 ||| ((1 : Int32) <<< (x5_6 &&& 31))) fun v4 =>
  g_X8_machinesOfPlain_36 rc_6 N O S x1_6 v4 x5_6
noncomputable def f_X8_machinesOfPlain (a0 : Int32) (N : kD) (O : kD) (S : kD) : Option Int32 :=
  lp (fun _ _ _ => none) (g_X8_machinesOfPlain_6 N O S) 2000 a0 (0 : Int32) (0 : Int32)
noncomputable def g_X8_machinesOf_194 (O : kD) (S : kD) (x4_194 : Int32) (N_194 : kD) : Option (Int32 × kD) :=
  if x4_194 ≤ 0 then
  some ((0 : Int32), N_194)
  else
  some ((N_194.1 5 (0 : Int32).toNatClampNeg), N_194)
noncomputable def g_X8_machinesOf_188 (rc_15 : Int32 → Int32 → Int32 → kD → Option (Int32 × kD)) (O : kD) (S : kD) (x3_188 : Int32) (x4_188 : Int32) (x5_188 : Int32) (N_188 : kD) : Option (Int32 × kD) :=
  bd1 (x5_188 + (1 : Int32)) fun v2 =>
  rc_15 x3_188 x4_188 v2 N_188
noncomputable def g_X8_machinesOf_160 (rc_15 : Int32 → Int32 → Int32 → kD → Option (Int32 × kD)) (O : kD) (S : kD) (x3_160 : Int32) (x4_160 : Int32) (x5_160 : Int32) (N_160 : kD) : Option (Int32 × kD) :=
  if (20 : Int32) ≤ x4_160 then
  g_X8_machinesOf_188 rc_15 O S x3_160 x4_160 x5_160 N_160
  else
  bo (f_X8_machinesOfPlain x5_160 N_160 O S) fun v4 =>
  if x4_160 < 0 ∨ 20 ≤ x4_160.toNatClampNeg then none else
  bd1 (kI N_160 5 x4_160.toNatClampNeg v4) fun Nv6 =>
  bd1 (x4_160 + (1 : Int32)) fun v7 =>
  g_X8_machinesOf_188 rc_15 O S x3_160 v7 x5_160 Nv6
noncomputable def g_X8_machinesOf_121 (rc_15 : Int32 → Int32 → Int32 → kD → Option (Int32 × kD)) (O : kD) (S : kD) (x3_121 : Int32) (x4_121 : Int32) (x5_121 : Int32) (x6_121 : Int32) (N_121 : kD) : Option (Int32 × kD) :=
  if x6_121 < 0 ∨ 22 ≤ x6_121.toNatClampNeg then none else
  if x6_121 = (11 : Int32) then
  if x4_121 < (2 : Int32) then
  g_X8_machinesOf_160 rc_15 O S x3_121 x4_121 x5_121 N_121
  else
  bd1 (x4_121 + (-1 : Int32)) fun v10 =>
  bd1 (v10 - (1 : Int32)) fun v11 =>
  if v11 < 0 ∨ 20 ≤ v11.toNatClampNeg then none else
  if v10 < 0 ∨ 20 ≤ v10.toNatClampNeg then none else
  if v11 < 0 ∨ 20 ≤ v11.toNatClampNeg then none else
  bd1 (kI N_121 5 v11.toNatClampNeg ((N_121.1 5 v11.toNatClampNeg) ||| (N_121.1 5 v10.toNatClampNeg))) fun Nv15 =>
  g_X8_machinesOf_188 rc_15 O S x3_121 v10 x5_121 Nv15
  else
  g_X8_machinesOf_160 rc_15 O S x3_121 x4_121 x5_121 N_121
noncomputable def g_X8_machinesOf_82 (rc_15 : Int32 → Int32 → Int32 → kD → Option (Int32 × kD)) (O : kD) (S : kD) (x3_82 : Int32) (x4_82 : Int32) (x5_82 : Int32) (x6_82 : Int32) (N_82 : kD) : Option (Int32 × kD) :=
  if x6_82 < 0 ∨ 22 ≤ x6_82.toNatClampNeg then none else
  if x6_82 = (12 : Int32) then
  if x4_82 < (2 : Int32) then
  g_X8_machinesOf_121 rc_15 O S x3_82 x4_82 x5_82 x6_82 N_82
  else
  bd1 (x4_82 + (-1 : Int32)) fun v19 =>
  bd1 (v19 - (1 : Int32)) fun v20 =>
  if v20 < 0 ∨ 20 ≤ v20.toNatClampNeg then none else
  if v19 < 0 ∨ 20 ≤ v19.toNatClampNeg then none else
  if v20 < 0 ∨ 20 ≤ v20.toNatClampNeg then none else
  bd1 (kI N_82 5 v20.toNatClampNeg ((N_82.1 5 v20.toNatClampNeg) &&& (N_82.1 5 v19.toNatClampNeg))) fun Nv24 =>
  g_X8_machinesOf_188 rc_15 O S x3_82 v19 x5_82 Nv24
  else
  g_X8_machinesOf_121 rc_15 O S x3_82 x4_82 x5_82 x6_82 N_82
noncomputable def g_X8_machinesOf_15 (O : kD) (S : kD) (rc_15 : Int32 → Int32 → Int32 → kD → Option (Int32 × kD)) (x3_15 : Int32) (x4_15 : Int32) (x5_15 : Int32) (N_15 : kD) : Option (Int32 × kD) :=
  if (N_15.1 0 1) ≤ x5_15 then
  g_X8_machinesOf_194 O S x4_15 N_15
  else
  if (40 : Int32) ≤ x5_15 then
  g_X8_machinesOf_194 O S x4_15 N_15
  else
  if x5_15 < 0 ∨ 40 ≤ x5_15.toNatClampNeg then none else
  if (N_15.1 2 x5_15.toNatClampNeg) < 0 ∨ 22 ≤ (N_15.1 2 x5_15.toNatClampNeg).toNatClampNeg then none else
  if (N_15.1 2 x5_15.toNatClampNeg) = (13 : Int32) then
  if x4_15 < (1 : Int32) then
  g_X8_machinesOf_82 rc_15 O S x3_15 x4_15 x5_15 (N_15.1 2 x5_15.toNatClampNeg) N_15
  else
  bd1 (x4_15 - (1 : Int32)) fun v29 =>
  if v29 < 0 ∨ 20 ≤ v29.toNatClampNeg then none else
  if (x4_15 - (1 : Int32)) < 0 ∨ 20 ≤ (x4_15 - (1 : Int32)).toNatClampNeg then none else
  bd1 (kI N_15 5 (x4_15 - (1 : Int32)).toNatClampNeg (x3_15 &&& ((N_15.1 5 v29.toNatClampNeg) ^^^ (-1 : Int32)))) fun Nv32 =>
  g_X8_machinesOf_188 rc_15 O S x3_15 x4_15 x5_15 Nv32
  else
  g_X8_machinesOf_82 rc_15 O S x3_15 x4_15 x5_15 (N_15.1 2 x5_15.toNatClampNeg) N_15
noncomputable def f_X8_machinesOf (N : kD) (O : kD) (S : kD) : Option (Int32 × kD) :=
  bd1 (((1 : Int32) <<< ((O.1 0 1) &&& 31)) - (1 : Int32)) fun v37 =>
  lp (fun _ _ _ _ => none) (g_X8_machinesOf_15 O S) 2000 v37 (0 : Int32) (0 : Int32) N
noncomputable def g_X9_owedBy_4 (S : kD) (rc_4 : Int32 → Int32 → Int32 → Option Int32) (x1_4 : Int32) (x2_4 : Int32) (x3_4 : Int32) : Option Int32 :=
  if (6 : Int32) ≤ x3_4 then
  some x2_4
  else
  bo (f_X9_debtOf x1_4 x3_4 S) fun v2 =>
  bd1 (x2_4 + v2) fun v3 =>
  bd1 (x3_4 + (1 : Int32)) fun v4 =>
  rc_4 x1_4 v3 v4
noncomputable def f_X9_owedBy (a0 : Int32) (S : kD) : Option Int32 :=
  lp (fun _ _ _ => none) (g_X9_owedBy_4 S) 2000 a0 (0 : Int32) (0 : Int32)
noncomputable def g_X9_owedTo_4 (S : kD) (rc_4 : Int32 → Int32 → Int32 → Option Int32) (x1_4 : Int32) (x2_4 : Int32) (x3_4 : Int32) : Option Int32 :=
  if (6 : Int32) ≤ x3_4 then
  some x2_4
  else
  bo (f_X9_debtOf x3_4 x1_4 S) fun v2 =>
  bd1 (x2_4 + v2) fun v3 =>
  bd1 (x3_4 + (1 : Int32)) fun v4 =>
  rc_4 x1_4 v3 v4
noncomputable def f_X9_owedTo (a0 : Int32) (S : kD) : Option Int32 :=
  lp (fun _ _ _ => none) (g_X9_owedTo_4 S) 2000 a0 (0 : Int32) (0 : Int32)
noncomputable def f_X9_performIfItCan (a1 : Int32) (a2 : Int32) (a3 : Int32) (S : kD) (O : kD) : Option kD :=
  bo (f_X9_whyNot a1 a2 a3 S O) fun v2 =>
  if v2 = 0 then
  bo (f_X9_perform a1 a2 a3 S O) fun Sv4 =>
  some Sv4
  else
  some S
noncomputable def g_X9_drawAct_47 (O : kD) (x4_47 : Int32) (t2_47 : Int32) (S_47 : kD) (D_47 : kD) : Option (kD × kD) :=
  bo (f_X9_performIfItCan t2_47 x4_47 (0 : Int32) S_47 O) fun Sv2 =>
  some (Sv2, D_47)
noncomputable def f_X9_drawAct (S : kD) (O : kD) (D : kD) : Option (kD × kD) :=
  if (O.1 0 1) = 0 then
  some (S, D)
  else
  bo2 (f_X1_draw (8 : Int32) D) fun v4 Dv5 =>
  if v4 = 0 then
  bo2 (f_X1_draw (O.1 0 1) Dv5) fun v26 Dv27 =>
  if (f_X9_isHeld v26 S) = 0 then
  g_X9_drawAct_47 O v26 (10 : Int32) S Dv27
  else
  g_X9_drawAct_47 O v26 (20 : Int32) S Dv27
  else
  if v4 = (1 : Int32) then
  bo2 (f_X1_draw (O.1 0 1) Dv5) fun v17 Dv18 =>
  bo2 (f_X1_draw (60 : Int32) Dv18) fun v20 Dv21 =>
  bo (f_X9_performIfItCan (30 : Int32) v17 (v20 + (1 : Int32)) S O) fun Sv23 =>
  some (Sv23, Dv21)
  else
  if (4 : Int32) < v4 then
  some (S, Dv5)
  else
  if (O.1 0 2) ≤ 0 then
  some (S, Dv5)
  else
  bo2 (f_X1_draw (O.1 0 1) Dv5) fun v7 Dv8 =>
  bo2 (f_X1_draw (O.1 0 2) Dv8) fun v10 Dv11 =>
  bo (f_X9_performIfItCan (0 : Int32) v7 v10 S O) fun Sv13 =>
  some (Sv13, Dv11)
noncomputable def g_X9_drawDays_3 (O : kD) (rc_3 : Int32 → Int32 → kD → kD → Option (kD × kD)) (x3_3 : Int32) (x4_3 : Int32) (S_3 : kD) (D_3 : kD) : Option (kD × kD) :=
  if x3_3 ≤ x4_3 then
  some (S_3, D_3)
  else
  if (400 : Int32) ≤ (S_3.1 0 0) then
  some (S_3, D_3)
  else
  bo2 (f_X9_drawAct S_3 O D_3) fun Sv2 Dv3 =>
  bo2 (f_X9_passDay Sv2 O) fun v5 Sv6 =>
  bd1 (x4_3 + (1 : Int32)) fun v7 =>
  rc_3 x3_3 v7 Sv6 Dv3
noncomputable def f_X9_drawDays (a2 : Int32) (S : kD) (O : kD) (D : kD) : Option (kD × kD) :=
  lp (fun _ _ _ _ => none) (g_X9_drawDays_3 O) 2000 a2 (0 : Int32) S D
noncomputable def g_X11_appendBytes_3 (rc_3 : Int32 → Int32 → kD → (Nat → Int32) → Option (kD × (Nat → Int32))) (x1_3 : Int32) (x2_3 : Int32) (K_3 : kD) (T_3 : Nat → Int32) : Option (kD × (Nat → Int32)) :=
  if x2_3 < 0 then
  some (K_3, T_3)
  else
  if (940 : Int32) ≤ (K_3.1 0 1) then
  some (K_3, T_3)
  else
  if (K_3.1 0 1) < 0 ∨ 940 ≤ (K_3.1 0 1).toNatClampNeg then none else
  bd1 (upd T_3 (K_3.1 0 1).toNatClampNeg ((kUshr x1_3 x2_3) &&& (255 : Int32))) fun Tv2 =>
  bd1 (kI K_3 0 1 ((K_3.1 0 1) + (1 : Int32))) fun Kv3 =>
  bd1 (x2_3 + (-8 : Int32)) fun v4 =>
  rc_3 x1_3 v4 Kv3 Tv2
noncomputable def f_X11_appendBytes (a0 : Int32) (K : kD) (T : Nat → Int32) : Option (kD × (Nat → Int32)) :=
  lp (fun _ _ _ _ => none) (g_X11_appendBytes_3) 2000 a0 (24 : Int32) K T
noncomputable def f_X11_feed (a0 : Int32) (a1 : Int32) (a2 : Int32) (a3 : Int32) (a4 : Int32) (K : kD) (T : Nat → Int32) : Option (Int32 × kD × (Nat → Int32)) :=
  if ((K.1 0 1) + (20 : Int32)) ≤ (940 : Int32) then
  bo2 (f_X11_appendBytes a0 K T) fun Kv2 Tv3 =>
  bo2 (f_X11_appendBytes a1 Kv2 Tv3) fun Kv5 Tv6 =>
  bo2 (f_X11_appendBytes a2 Kv5 Tv6) fun Kv8 Tv9 =>
  bo2 (f_X11_appendBytes a3 Kv8 Tv9) fun Kv11 Tv12 =>
  bo2 (f_X11_appendBytes a4 Kv11 Tv12) fun Kv14 Tv15 =>
  some ((Kv14.1 0 1), Kv14, Tv15)
  else
  some ((-1 : Int32), K, T)
noncomputable def f_X11_end (a0 : Int32) (K : kD) : Option (Int32 × kD) :=
  if a0 < 0 then
  some ((0 : Int32), K)
  else
  if a0 ≤ (K.1 0 1) then
  bd1 (kI K 0 1 a0) fun Kv1 =>
  some ((1 : Int32), Kv1)
  else
  some ((0 : Int32), K)
noncomputable def f_X11_takeTape (K : kD) : Option (Int32 × kD) :=
  bd1 (K.1 0 1) fun v1 =>
  bd1 (kI K 0 1 (0 : Int32)) fun Kv2 =>
  some (v1, Kv2)
noncomputable def f_X11_fault (K : kD) : Int32 :=
  (K.1 0 16)
noncomputable def f_X11_phrase (a0 : Int32) (a1 : Int32) (K : kD) (C : kD) (O : kD) (S : kD) (N : kD) : Option Int32 :=
  if (f_X3_hasPhrase a0 O) = 0 then
  some (-1 : Int32)
  else
  if a1 = 0 then
  if a0 < 0 ∨ 8 ≤ a0.toNatClampNeg then none else
  some (O.1 8 a0.toNatClampNeg)
  else
  if a1 = 1 then
  if a0 < 0 ∨ 8 ≤ a0.toNatClampNeg then none else
  some (O.1 9 a0.toNatClampNeg)
  else
  if a1 = 2 then
  if a0 < 0 ∨ 8 ≤ a0.toNatClampNeg then none else
  some (O.1 10 a0.toNatClampNeg)
  else
  if a1 = 3 then
  bo (f_X3_answeredBy a0 O) fun v8 =>
  some v8
  else
  if a1 = 4 then
  bo (f_X3_machinesKnowing a0 O) fun v11 =>
  some v11
  else
  some (-1 : Int32)
noncomputable def f_X11_owes (a0 : Int32) (a1 : Int32) (K : kD) (C : kD) (O : kD) (S : kD) (N : kD) : Option Int32 :=
  if a0 = a1 then
  some (-1 : Int32)
  else
  if (f_X3_hasMachine a0 O) = 0 then
  some (-1 : Int32)
  else
  if (f_X3_hasMachine a1 O) = 0 then
  some (-1 : Int32)
  else
  bo (f_X9_debtOf a0 a1 S) fun v2 =>
  some v2
noncomputable def g_X11_sumOf_4 (nA : Nat) (A : Nat → Int32) (rc_4 : Int32 → Int32 → Option Int32) (x1_4 : Int32) (x2_4 : Int32) : Option Int32 :=
  if (Int32.ofNat nA) ≤ x2_4 then
  some x1_4
  else
  if x2_4 < 0 ∨ nA ≤ x2_4.toNatClampNeg then none else
  bd1 (x1_4 + (A x2_4.toNatClampNeg)) fun v2 =>
  bd1 (x2_4 + (1 : Int32)) fun v3 =>
  rc_4 v2 v3
noncomputable def f_X11_sumOf (nA : Nat) (A : Nat → Int32) : Option Int32 :=
  lp (fun _ _ => none) (g_X11_sumOf_4 nA A) 2000 (0 : Int32) (0 : Int32)
noncomputable def f_X11_now (a0 : Int32) (K : kD) (C : kD) (O : kD) (S : kD) (N : kD) : Option Int32 :=
  if a0 = 0 then
  some (S.1 0 0)
  else
  if a0 = 1 then
  some (S.1 0 1)
  else
  if a0 = 2 then
  some (S.1 0 2)
  else
  if a0 = 3 then
  some (S.1 0 3)
  else
  if a0 = 4 then
  bo (f_X11_sumOf 6 (S.1 6)) fun v6 =>
  some v6
  else
  if a0 = 5 then
  bo (f_X11_sumOf 6 (S.1 7)) fun v9 =>
  some v9
  else
  if a0 = 6 then
  some (S.1 0 4)
  else
  if a0 = 7 then
  bo (f_X11_sumOf 36 (S.1 8)) fun v13 =>
  some v13
  else
  some (-1 : Int32)
noncomputable def f_X11_doOne (a0 : Int32) (a1 : Int32) (a2 : Int32) (K : kD) (C : kD) (O : kD) (S : kD) (N : kD) (Hy : kD) (HS : Nat → kD) : Option (Int32 × kD × kD × (Nat → kD)) :=
  bo (f_X9_whyNot a0 a1 a2 S O) fun v2 =>
  if v2 = 0 then
  bo2 (f_X2_keep Hy HS S) fun Hyv4 HSv5 =>
  bo (f_X9_perform a0 a1 a2 S O) fun Sv7 =>
  some (v2, Sv7, Hyv4, HSv5)
  else
  some (v2, S, Hy, HS)
noncomputable def f_X11_write (a0 : Int32) (a1 : Int32) (K : kD) (C : kD) (O : kD) (S : kD) (N : kD) (Hy : kD) (HS : Nat → kD) : Option (Int32 × kD × kD × (Nat → kD)) :=
  bo4 (f_X11_doOne (0 : Int32) a0 a1 K C O S N Hy HS) fun v2 Sv3 Hyv4 HSv5 =>
  some (v2, Sv3, Hyv4, HSv5)
noncomputable def f_X11_sit (a0 : Int32) (K : kD) (C : kD) (O : kD) (S : kD) (N : kD) (Hy : kD) (HS : Nat → kD) : Option (Int32 × kD × kD × (Nat → kD)) :=
  bo4 (f_X11_doOne (10 : Int32) a0 (0 : Int32) K C O S N Hy HS) fun v2 Sv3 Hyv4 HSv5 =>
  some (v2, Sv3, Hyv4, HSv5)
noncomputable def f_X11_leave (a0 : Int32) (K : kD) (C : kD) (O : kD) (S : kD) (N : kD) (Hy : kD) (HS : Nat → kD) : Option (Int32 × kD × kD × (Nat → kD)) :=
  bo4 (f_X11_doOne (20 : Int32) a0 (0 : Int32) K C O S N Hy HS) fun v2 Sv3 Hyv4 HSv5 =>
  some (v2, Sv3, Hyv4, HSv5)
noncomputable def f_X11_ribbon (a0 : Int32) (a1 : Int32) (K : kD) (C : kD) (O : kD) (S : kD) (N : kD) (Hy : kD) (HS : Nat → kD) : Option (Int32 × kD × kD × (Nat → kD)) :=
  bo4 (f_X11_doOne (30 : Int32) a0 a1 K C O S N Hy HS) fun v2 Sv3 Hyv4 HSv5 =>
  some (v2, Sv3, Hyv4, HSv5)
noncomputable def f_X11_clear (K : kD) (C : kD) (O : kD) (S : kD) (N : kD) (Hy : kD) (HS : Nat → kD) : Option (Int32 × kD × kD × (Nat → kD)) :=
  bo4 (f_X11_doOne (40 : Int32) (0 : Int32) (0 : Int32) K C O S N Hy HS) fun v2 Sv3 Hyv4 HSv5 =>
  some (v2, Sv3, Hyv4, HSv5)
noncomputable def f_X11_isDays (a0 : Int32) : Int32 :=
  if a0 < (1 : Int32) then
  (0 : Int32)
  else
  if (60 : Int32) < a0 then
  (0 : Int32)
  else
  (1 : Int32)
noncomputable def f_X11_days (a0 : Int32) (K : kD) (C : kD) (O : kD) (S : kD) (N : kD) (Hy : kD) (HS : Nat → kD) : Option (Int32 × kD × kD × (Nat → kD)) :=
  if (f_X11_isDays a0) = 0 then
  some ((-1 : Int32), S, Hy, HS)
  else
  bd1 (kMin a0 (f_X9_daysLeft S)) fun v1 =>
  if v1 ≤ 0 then
  some (v1, S, Hy, HS)
  else
  bo2 (f_X2_keep Hy HS S) fun Hyv3 HSv4 =>
  bo (f_X9_passDays v1 S O) fun Sv6 =>
  some (v1, Sv6, Hyv3, HSv4)
noncomputable def f_X11_undo (K : kD) (C : kD) (O : kD) (S : kD) (N : kD) (Hy : kD) (HS : Nat → kD) : Option (Int32 × kD × kD) :=
  bo3 (f_X2_takeBack Hy HS S) fun v2 Hyv3 Sv4 =>
  if v2 = 0 then
  some ((-1 : Int32), Sv4, Hyv3)
  else
  some ((Hyv3.1 0 0), Sv4, Hyv3)
noncomputable def f_X11_comes (a0 : Int32) (K : kD) (C : kD) (O : kD) (S : kD) (N : kD) (P : kD) : Option (Int32 × kD) :=
  bo2 (f_X5_find a0 P O S) fun v2 Pv3 =>
  some (v2, Pv3)
noncomputable def f_X11_comesAt (a0 : Int32) (K : kD) (P : kD) : Option Int32 :=
  if a0 < 0 then
  some (-1 : Int32)
  else
  if (P.1 0 3) ≤ a0 then
  some (-1 : Int32)
  else
  if a0 < 0 ∨ 48 ≤ a0.toNatClampNeg then none else
  some (P.1 2 a0.toNatClampNeg)
noncomputable def g_X11_silent_16 (K : kD) (C : kD) (O : kD) (S : kD) (N : kD) (rc_16 : Int32 → kD → Option (Int32 × kD)) (x1_16 : Int32) (TR_16 : kD) : Option (Int32 × kD) :=
  if (99 : Int32) < x1_16 then
  some ((-1 : Int32), TR_16)
  else
  bo2 (f_X9_passDay TR_16 O) fun v2 TRv3 =>
  if v2 = 0 then
  some (x1_16, TRv3)
  else
  bd1 (x1_16 + (1 : Int32)) fun v4 =>
  rc_16 v4 TRv3
noncomputable def f_X11_silent (K : kD) (C : kD) (O : kD) (S : kD) (N : kD) (TR : kD) : Option (Int32 × kD) :=
  bo (f_X9_copyFrom TR S) fun TRv8 =>
  lp (fun _ _ => none) (g_X11_silent_16 K C O S N) 2000 (1 : Int32) TRv8
noncomputable def f_X11_waysAt (a0 : Int32) (K : kD) (RW : kD) : Option Int32 :=
  if a0 < 0 then
  some (-1 : Int32)
  else
  if (RW.1 0 3) ≤ a0 then
  some (-1 : Int32)
  else
  if a0 < 0 ∨ 9 ≤ a0.toNatClampNeg then none else
  some (RW.1 2 a0.toNatClampNeg)
noncomputable def f_X11_ask (K : kD) (RW : kD) : Int32 :=
  (RW.1 0 4)
noncomputable def g_X11_tellsPhrases_15 (K : kD) (T : Nat → Int32) (C : kD) (O : kD) (S : kD) (N : kD) (rc_15 : Int32 → Int32 → Option Int32) (x1_15 : Int32) (x2_15 : Int32) : Option Int32 :=
  if x1_15 ≤ x2_15 then
  some (1 : Int32)
  else
  if x2_15 < 0 ∨ 940 ≤ x2_15.toNatClampNeg then none else
  if (f_X3_hasPhrase (T x2_15.toNatClampNeg) O) = 0 then
  some (0 : Int32)
  else
  bd1 (x2_15 + (1 : Int32)) fun v2 =>
  rc_15 x1_15 v2
noncomputable def f_X11_tellsPhrases (a0 : Int32) (K : kD) (T : Nat → Int32) (C : kD) (O : kD) (S : kD) (N : kD) : Option Int32 :=
  if a0 < (1 : Int32) then
  some (0 : Int32)
  else
  if a0 ≤ (9 : Int32) then
  lp (fun _ _ => none) (g_X11_tellsPhrases_15 K T C O S N) 2000 a0 (0 : Int32)
  else
  some (0 : Int32)
noncomputable def f_J13_bitCount_95d88 (a0 : Int64) : Int32 :=
  bd1 (a0 - ((kUshrL a0 (1 : Int32)) &&& (6148914691236517205 : Int64))) fun v1 =>
  bd1 ((v1 &&& (3689348814741910323 : Int64)) + ((kUshrL v1 (2 : Int32)) &&& (3689348814741910323 : Int64))) fun v2 =>
  bd1 ((v2 + (kUshrL v2 (4 : Int32))) &&& (1085102592571150095 : Int64)) fun v3 =>
  bd1 (v3 + (kUshrL v3 (8 : Int32))) fun v4 =>
  bd1 (v4 + (kUshrL v4 (16 : Int32))) fun v5 =>
  bd1 (v5 + (kUshrL v5 (32 : Int32))) fun v6 =>
  (v6.toInt32 &&& (127 : Int32))
noncomputable def g_X11_lacks_86 (T : Nat → Int32) (C : kD) (O : kD) (S : kD) (N : kD) (x2_86 : Int64) (K_86 : kD) : Option (Int32 × kD) :=
  some ((f_J13_bitCount_95d88 x2_86), K_86)
noncomputable def g_X11_lacks_80 (rc_20 : Int32 → Int64 → Int32 → kD → Option (Int32 × kD)) (T : Nat → Int32) (C : kD) (O : kD) (S : kD) (N : kD) (x1_80 : Int32) (x2_80 : Int64) (x4_80 : Int32) (K_80 : kD) : Option (Int32 × kD) :=
  bd1 (x4_80 + (1 : Int32)) fun v1 =>
  rc_20 x1_80 x2_80 v1 K_80
noncomputable def g_X11_lacks_20 (T : Nat → Int32) (C : kD) (O : kD) (S : kD) (N : kD) (rc_20 : Int32 → Int64 → Int32 → kD → Option (Int32 × kD)) (x1_20 : Int32) (x2_20 : Int64) (x4_20 : Int32) (K_20 : kD) : Option (Int32 × kD) :=
  if x1_20 ≤ x4_20 then
  g_X11_lacks_86 T C O S N x2_20 K_20
  else
  if x4_20 < 0 ∨ 940 ≤ x4_20.toNatClampNeg then none else
  bd1 (x4_20 - (1 : Int32)) fun v3 =>
  if v3 < 0 ∨ 940 ≤ v3.toNatClampNeg then none else
  bo (f_X3_isAnswer (T x4_20.toNatClampNeg) (T v3.toNatClampNeg) O) fun v6 =>
  if v6 = 0 then
  bd1 (x4_20 - (1 : Int32)) fun v7 =>
  if v7 < 0 ∨ 940 ≤ v7.toNatClampNeg then none else
  if x4_20 < 0 ∨ 940 ≤ x4_20.toNatClampNeg then none else
  bd1 (x2_20 ||| ((1 : Int64) <<< ((((T v7.toNatClampNeg) * (8 : Int32)) + (T x4_20.toNatClampNeg)).toInt64 &&& 63))) fun v10 =>
  g_X11_lacks_80 rc_20 T C O S N x1_20 v10 x4_20 K_20
  else
  g_X11_lacks_80 rc_20 T C O S N x1_20 x2_20 x4_20 K_20
noncomputable def f_X11_lacks (K : kD) (T : Nat → Int32) (C : kD) (O : kD) (S : kD) (N : kD) : Option (Int32 × kD) :=
  bo2 (f_X11_takeTape K) fun v14 Kv15 =>
  bo (f_X11_tellsPhrases v14 Kv15 T C O S N) fun v17 =>
  if v17 = 0 then
  some ((-1 : Int32), Kv15)
  else
  lp (fun _ _ _ _ => none) (g_X11_lacks_20 T C O S N) 2000 v14 (0 : Int64) (1 : Int32) Kv15
noncomputable def f_X11_isLetter (a0 : Int32) : Int32 :=
  if a0 < (97 : Int32) then
  (0 : Int32)
  else
  if (122 : Int32) < a0 then
  (0 : Int32)
  else
  (1 : Int32)
noncomputable def g_X11_tellsFaintLetters_45 (rc_15 : Int32 → Int32 → Option Int32) (K : kD) (T : Nat → Int32) (x1_45 : Int32) (x2_45 : Int32) : Option Int32 :=
  bd1 (x2_45 + (1 : Int32)) fun v1 =>
  rc_15 x1_45 v1
noncomputable def g_X11_tellsFaintLetters_15 (K : kD) (T : Nat → Int32) (rc_15 : Int32 → Int32 → Option Int32) (x1_15 : Int32) (x2_15 : Int32) : Option Int32 :=
  if x1_15 ≤ x2_15 then
  some (1 : Int32)
  else
  if x2_15 < 0 ∨ 940 ≤ x2_15.toNatClampNeg then none else
  if (T x2_15.toNatClampNeg) = (63 : Int32) then
  g_X11_tellsFaintLetters_45 rc_15 K T x1_15 x2_15
  else
  if x2_15 < 0 ∨ 940 ≤ x2_15.toNatClampNeg then none else
  if (f_X11_isLetter (T x2_15.toNatClampNeg)) = 0 then
  some (0 : Int32)
  else
  g_X11_tellsFaintLetters_45 rc_15 K T x1_15 x2_15
noncomputable def f_X11_tellsFaintLetters (a0 : Int32) (K : kD) (T : Nat → Int32) : Option Int32 :=
  if a0 < (1 : Int32) then
  some (0 : Int32)
  else
  if a0 ≤ (7 : Int32) then
  lp (fun _ _ => none) (g_X11_tellsFaintLetters_15 K T) 2000 a0 (0 : Int32)
  else
  some (0 : Int32)
noncomputable def f_X11_letterAt (a0 : Int64) (a1 : Int32) : Int32 :=
  if a1 < 0 then
  (0 : Int32)
  else
  if a1 < (7 : Int32) then
  (((kUshrL a0 ((8 : Int32) * ((6 : Int32) - a1))).toInt32) &&& (255 : Int32))
  else
  (0 : Int32)
noncomputable def g_X11_fits_59 (rc_23 : Int64 → Int32 → Int32 → Option Int32) (K : kD) (T : Nat → Int32) (x1_59 : Int64) (x3_59 : Int32) (x4_59 : Int32) : Option Int32 :=
  bd1 (x4_59 + (1 : Int32)) fun v1 =>
  rc_23 x1_59 x3_59 v1
noncomputable def g_X11_fits_23 (K : kD) (T : Nat → Int32) (rc_23 : Int64 → Int32 → Int32 → Option Int32) (x1_23 : Int64) (x3_23 : Int32) (x4_23 : Int32) : Option Int32 :=
  if x3_23 ≤ x4_23 then
  some (1 : Int32)
  else
  if x4_23 < 0 ∨ 940 ≤ x4_23.toNatClampNeg then none else
  if (T x4_23.toNatClampNeg) = (63 : Int32) then
  g_X11_fits_59 rc_23 K T x1_23 x3_23 x4_23
  else
  if x4_23 < 0 ∨ 940 ≤ x4_23.toNatClampNeg then none else
  if (T x4_23.toNatClampNeg) = (f_X11_letterAt x1_23 x4_23) then
  g_X11_fits_59 rc_23 K T x1_23 x3_23 x4_23
  else
  some (0 : Int32)
noncomputable def f_X11_fits (a0 : Int64) (a1 : Int32) (K : kD) (T : Nat → Int32) : Option Int32 :=
  if (f_X11_letterAt a0 (a1 - (1 : Int32))) = 0 then
  some (0 : Int32)
  else
  if (f_X11_letterAt a0 a1) = 0 then
  lp (fun _ _ _ => none) (g_X11_fits_23 K T) 2000 a0 a1 (0 : Int32)
  else
  some (0 : Int32)
noncomputable def g_X11_mostAlikeAt_90 (rc_14 : Int32 → Int32 → Int32 → Int32 → Option Int32) (K : kD) (C : kD) (O : kD) (S : kD) (N : kD) (x1_90 : Int32) (x2_90 : Int32) (x4_90 : Int32) (x5_90 : Int32) (x6_90 : Int32) : Option Int32 :=
  bd1 (kMax x4_90 x6_90) fun v1 =>
  bd1 (x5_90 + (1 : Int32)) fun v2 =>
  rc_14 x1_90 x2_90 v1 v2
noncomputable def g_X11_mostAlikeAt_84 (rc_14 : Int32 → Int32 → Int32 → Int32 → Option Int32) (rc_29 : Int32 → Int32 → Int32 → Int32 → Int32 → Int32 → Option Int32) (K : kD) (C : kD) (O : kD) (S : kD) (N : kD) (x1_84 : Int32) (x2_84 : Int32) (x4_84 : Int32) (x5_84 : Int32) (x6_84 : Int32) (x7_84 : Int32) : Option Int32 :=
  bd1 (x7_84 + (1 : Int32)) fun v3 =>
  rc_29 x1_84 x2_84 x4_84 x5_84 x6_84 v3
noncomputable def g_X11_mostAlikeAt_29 (rc_14 : Int32 → Int32 → Int32 → Int32 → Option Int32) (K : kD) (C : kD) (O : kD) (S : kD) (N : kD) (rc_29 : Int32 → Int32 → Int32 → Int32 → Int32 → Int32 → Option Int32) (x1_29 : Int32) (x2_29 : Int32) (x4_29 : Int32) (x5_29 : Int32) (x6_29 : Int32) (x7_29 : Int32) : Option Int32 :=
  if (O.1 0 2) ≤ x7_29 then
  g_X11_mostAlikeAt_90 rc_14 K C O S N x1_29 x2_29 x4_29 x5_29 x6_29
  else
  if (f_X11_hasBit x2_29 x5_29) = 0 then
  g_X11_mostAlikeAt_90 rc_14 K C O S N x1_29 x2_29 x4_29 x5_29 x6_29
  else
  if (f_X11_hasBit x2_29 x7_29) = 0 then
  g_X11_mostAlikeAt_84 rc_14 rc_29 K C O S N x1_29 x2_29 x4_29 x5_29 x6_29 x7_29
  else
  if x5_29 < 0 ∨ 8 ≤ x5_29.toNatClampNeg then none else
  if x7_29 < 0 ∨ 8 ≤ x7_29.toNatClampNeg then none else
  if (f_X11_letterAt (O.2 7 x5_29.toNatClampNeg) x1_29) = (f_X11_letterAt (O.2 7 x7_29.toNatClampNeg) x1_29) then
  bd1 (x6_29 + (1 : Int32)) fun v6 =>
  g_X11_mostAlikeAt_84 rc_14 rc_29 K C O S N x1_29 x2_29 x4_29 x5_29 v6 x7_29
  else
  g_X11_mostAlikeAt_84 rc_14 rc_29 K C O S N x1_29 x2_29 x4_29 x5_29 x6_29 x7_29
noncomputable def g_X11_mostAlikeAt_14 (K : kD) (C : kD) (O : kD) (S : kD) (N : kD) (rc_14 : Int32 → Int32 → Int32 → Int32 → Option Int32) (x1_14 : Int32) (x2_14 : Int32) (x4_14 : Int32) (x5_14 : Int32) : Option Int32 :=
  if (O.1 0 2) ≤ x5_14 then
  some x4_14
  else
  lp (fun _ _ _ _ _ _ => none) (g_X11_mostAlikeAt_29 rc_14 K C O S N) 2000 x1_14 x2_14 x4_14 x5_14 (0 : Int32) (0 : Int32)
noncomputable def f_X11_mostAlikeAt (a0 : Int32) (a1 : Int32) (K : kD) (C : kD) (O : kD) (S : kD) (N : kD) : Option Int32 :=
  lp (fun _ _ _ _ => none) (g_X11_mostAlikeAt_14 K C O S N) 2000 a0 a1 (0 : Int32) (0 : Int32)
noncomputable def g_X11_placeToLook_38 (rc_9 : Int32 → Int32 → Int32 → Int32 → Int32 → Option Int32) (K : kD) (C : kD) (O : kD) (S : kD) (N : kD) (x1_38 : Int32) (x2_38 : Int32) (x3_38 : Int32) (x4_38 : Int32) (x5_38 : Int32) : Option Int32 :=
  bd1 (x5_38 + (1 : Int32)) fun v1 =>
  rc_9 x1_38 x2_38 x3_38 x4_38 v1
noncomputable def g_X11_placeToLook_9 (K : kD) (C : kD) (O : kD) (S : kD) (N : kD) (rc_9 : Int32 → Int32 → Int32 → Int32 → Int32 → Option Int32) (x1_9 : Int32) (x2_9 : Int32) (x3_9 : Int32) (x4_9 : Int32) (x5_9 : Int32) : Option Int32 :=
  if x2_9 ≤ x5_9 then
  some x3_9
  else
  bo (f_X11_mostAlikeAt x5_9 x1_9 K C O S N) fun v3 =>
  if x4_9 ≤ v3 then
  g_X11_placeToLook_38 rc_9 K C O S N x1_9 x2_9 x3_9 x4_9 x5_9
  else
  g_X11_placeToLook_38 rc_9 K C O S N x1_9 x2_9 x5_9 v3 x5_9
noncomputable def f_X11_placeToLook (a0 : Int32) (a1 : Int32) (K : kD) (C : kD) (O : kD) (S : kD) (N : kD) : Option Int32 :=
  lp (fun _ _ _ _ _ => none) (g_X11_placeToLook_9 K C O S N) 2000 a0 a1 (0 : Int32) (9 : Int32) (0 : Int32)
noncomputable def g_X11_faint_65 (T : Nat → Int32) (C : kD) (O : kD) (S : kD) (N : kD) (x1_65 : Int32) (x3_65 : Int32) (K_65 : kD) : Option (Int32 × kD) :=
  if x3_65 ≤ 0 then
  some (x3_65, K_65)
  else
  bo (f_X11_placeToLook x3_65 x1_65 K_65 C O S N) fun v2 =>
  bd1 (kI K_65 0 17 v2) fun Kv3 =>
  some (x3_65, Kv3)
noncomputable def g_X11_faint_59 (rc_28 : Int32 → Int32 → Int32 → kD → Option (Int32 × kD)) (T : Nat → Int32) (C : kD) (O : kD) (S : kD) (N : kD) (x1_59 : Int32) (x3_59 : Int32) (x4_59 : Int32) (K_59 : kD) : Option (Int32 × kD) :=
  bd1 (x4_59 + (1 : Int32)) fun v5 =>
  rc_28 x1_59 x3_59 v5 K_59
noncomputable def g_X11_faint_28 (T : Nat → Int32) (C : kD) (O : kD) (S : kD) (N : kD) (rc_28 : Int32 → Int32 → Int32 → kD → Option (Int32 × kD)) (x1_28 : Int32) (x3_28 : Int32) (x4_28 : Int32) (K_28 : kD) : Option (Int32 × kD) :=
  if (O.1 0 2) ≤ x4_28 then
  g_X11_faint_65 T C O S N x1_28 x3_28 K_28
  else
  if x4_28 < 0 ∨ 8 ≤ x4_28.toNatClampNeg then none else
  bo (f_X11_fits (O.2 7 x4_28.toNatClampNeg) x1_28 K_28 T) fun v8 =>
  if v8 = 0 then
  g_X11_faint_59 rc_28 T C O S N x1_28 x3_28 x4_28 K_28
  else
  bd1 (x3_28 ||| ((1 : Int32) <<< (x4_28 &&& 31))) fun v9 =>
  g_X11_faint_59 rc_28 T C O S N x1_28 v9 x4_28 K_28
noncomputable def f_X11_faint (K : kD) (T : Nat → Int32) (C : kD) (O : kD) (S : kD) (N : kD) : Option (Int32 × kD) :=
  bo2 (f_X11_takeTape K) fun v13 Kv14 =>
  bo (f_X11_tellsFaintLetters v13 Kv14 T) fun v16 =>
  if v16 = 0 then
  some ((-1 : Int32), Kv14)
  else
  lp (fun _ _ _ _ => none) (g_X11_faint_28 T C O S N) 2000 v13 (0 : Int32) (0 : Int32) Kv14
noncomputable def f_X11_look (K : kD) : Int32 :=
  (K.1 0 17)
noncomputable def g_X11_commonDivisor_34 (x2_34 : Int32) : Option Int32 :=
  some (kMax (1 : Int32) x2_34)
noncomputable def g_X11_commonDivisor_7 (rc_7 : Int32 → Int32 → Int32 → Option Int32) (x2_7 : Int32) (x3_7 : Int32) (x4_7 : Int32) : Option Int32 :=
  if (100 : Int32) ≤ x4_7 then
  g_X11_commonDivisor_34 x2_7
  else
  if x3_7 = 0 then
  g_X11_commonDivisor_34 x2_7
  else
  if x3_7 = 0 then none else
  bd1 (kRem x2_7 x3_7) fun v2 =>
  bd1 (x4_7 + (1 : Int32)) fun v3 =>
  rc_7 x3_7 v2 v3
noncomputable def f_X11_commonDivisor (a0 : Int32) (a1 : Int32) : Option Int32 :=
  lp (fun _ _ _ => none) (g_X11_commonDivisor_7) 2000 a0 a1 (0 : Int32)
noncomputable def g_X11_ship_77 (T : Nat → Int32) (x2_77 : Int64) (K_77 : kD) : Option (Int32 × kD) :=
  if (lg_cmp x2_77 (99999999 : Int64)) ≤ 0 then
  some (x2_77.toInt32, K_77)
  else
  some ((-1 : Int32), K_77)
noncomputable def g_X11_ship_23 (T : Nat → Int32) (rc_23 : Int32 → Int64 → Int32 → kD → Option (Int32 × kD)) (x1_23 : Int32) (x2_23 : Int64) (x4_23 : Int32) (K_23 : kD) : Option (Int32 × kD) :=
  if x1_23 ≤ x4_23 then
  g_X11_ship_77 T x2_23 K_23
  else
  if x4_23 < 0 ∨ 940 ≤ x4_23.toNatClampNeg then none else
  bd1 (T x4_23.toNatClampNeg) fun v3 =>
  if v3 < (1 : Int32) then
  some ((-1 : Int32), K_23)
  else
  if v3 ≤ (60 : Int32) then
  if v3.toInt64 = 0 then none else
  bo (f_X11_commonDivisor ((kRemL x2_23 v3.toInt64).toInt32) v3) fun v6 =>
  if v6 = 0 then none else
  bd1 (x2_23 * ((v3 / v6).toInt64)) fun v8 =>
  bd1 (x4_23 + (1 : Int32)) fun v9 =>
  rc_23 x1_23 v8 v9 K_23
  else
  some ((-1 : Int32), K_23)
noncomputable def f_X11_ship (K : kD) (T : Nat → Int32) : Option (Int32 × kD) :=
  bo2 (f_X11_takeTape K) fun v14 Kv15 =>
  if v14 < (1 : Int32) then
  some ((-1 : Int32), Kv15)
  else
  if v14 ≤ (6 : Int32) then
  lp (fun _ _ _ _ => none) (g_X11_ship_23 T) 2000 v14 (1 : Int64) (0 : Int32) Kv15
  else
  some ((-1 : Int32), Kv15)
noncomputable def f_X11_drawn (a0 : Int32) (a1 : Int32) (K : kD) (C : kD) (O : kD) (S : kD) (N : kD) (Hy : kD) (HS : Nat → kD) (D : kD) : Option (Int32 × kD × kD × (Nat → kD) × kD) :=
  if (f_X11_isDays a0) = 0 then
  some ((-1 : Int32), S, Hy, HS, D)
  else
  bd1 (kMin a0 (f_X9_daysLeft S)) fun v1 =>
  if v1 ≤ 0 then
  some (v1, S, Hy, HS, D)
  else
  bo2 (f_X2_keep Hy HS S) fun Hyv3 HSv4 =>
  bd1 (kI D 0 0 a1) fun Dv5 =>
  bo2 (f_X9_drawDays v1 S O Dv5) fun Sv7 Dv8 =>
  some (v1, Sv7, Hyv3, HSv4, Dv8)
noncomputable def g_X11_odds_111 (rc_33 : Int32 → Int32 → Int32 → Int32 → Int32 → kD → kD → Option (Int32 × kD × kD)) (K : kD) (C : kD) (O : kD) (S : kD) (N : kD) (x1_111 : Int32) (x2_111 : Int32) (x3_111 : Int32) (x4_111 : Int32) (x5_111 : Int32) (TR_111 : kD) (D_111 : kD) : Option (Int32 × kD × kD) :=
  bd1 (x5_111 + (1 : Int32)) fun v1 =>
  rc_33 x1_111 x2_111 x3_111 x4_111 v1 TR_111 D_111
noncomputable def g_X11_odds_33 (K : kD) (C : kD) (O : kD) (S : kD) (N : kD) (rc_33 : Int32 → Int32 → Int32 → Int32 → Int32 → kD → kD → Option (Int32 × kD × kD)) (x1_33 : Int32) (x2_33 : Int32) (x3_33 : Int32) (x4_33 : Int32) (x5_33 : Int32) (TR_33 : kD) (D_33 : kD) : Option (Int32 × kD × kD) :=
  if x2_33 ≤ x5_33 then
  some (x4_33, TR_33, D_33)
  else
  bo (f_X9_copyFrom TR_33 S) fun TRv3 =>
  bd1 (kI D_33 0 0 (x3_33 + x5_33)) fun Dv4 =>
  bo2 (f_X9_drawDays (10 : Int32) TRv3 O Dv4) fun TRv6 Dv7 =>
  if x1_33 < 0 ∨ 6 ≤ x1_33.toNatClampNeg then none else
  if x1_33 < 0 ∨ 6 ≤ x1_33.toNatClampNeg then none else
  if (TRv6.1 6 x1_33.toNatClampNeg) ≤ (S.1 6 x1_33.toNatClampNeg) then
  g_X11_odds_111 rc_33 K C O S N x1_33 x2_33 x3_33 x4_33 x5_33 TRv6 Dv7
  else
  bd1 (x4_33 + (1 : Int32)) fun v10 =>
  g_X11_odds_111 rc_33 K C O S N x1_33 x2_33 x3_33 v10 x5_33 TRv6 Dv7
noncomputable def f_X11_odds (a0 : Int32) (a1 : Int32) (a2 : Int32) (K : kD) (C : kD) (O : kD) (S : kD) (N : kD) (TR : kD) (D : kD) : Option (Int32 × kD × kD) :=
  if (f_X3_hasMachine a0 O) = 0 then
  some ((-1 : Int32), TR, D)
  else
  if a1 < (1 : Int32) then
  some ((-1 : Int32), TR, D)
  else
  if a1 ≤ (30 : Int32) then
  lp (fun _ _ _ _ _ _ _ => none) (g_X11_odds_33 K C O S N) 2000 a0 a1 a2 (0 : Int32) (0 : Int32) TR D
  else
  some ((-1 : Int32), TR, D)
noncomputable def f_X11_told (a0 : Int32) (K : kD) (BT : Nat → Int32) : Option Int32 :=
  if (K.1 0 15) = 0 then
  some (-1 : Int32)
  else
  if a0 < 0 then
  some (-1 : Int32)
  else
  if (4 : Int32) ≤ a0 then
  some (-1 : Int32)
  else
  if a0 < 0 ∨ 4 ≤ a0.toNatClampNeg then none else
  some (BT a0.toNatClampNeg)
noncomputable def f_J6_bitCount_0f7a4 (a0 : Int32) : Int32 :=
  bd1 (a0 - ((kUshr a0 (1 : Int32)) &&& (1431655765 : Int32))) fun v1 =>
  bd1 ((v1 &&& (858993459 : Int32)) + ((kUshr v1 (2 : Int32)) &&& (858993459 : Int32))) fun v2 =>
  bd1 ((v2 + (kUshr v2 (4 : Int32))) &&& (252645135 : Int32)) fun v3 =>
  bd1 (v3 + (kUshr v3 (8 : Int32))) fun v4 =>
  bd1 (v4 + (kUshr v4 (16 : Int32))) fun v5 =>
  (v5 &&& (63 : Int32))
noncomputable def g_X11_bitAt_27 (rc_4 : Int32 → Int32 → Int32 → Option Int32) (x0_27 : Int32) (x2_27 : Int32) (x3_27 : Int32) : Option Int32 :=
  bd1 (x3_27 + (1 : Int32)) fun v1 =>
  rc_4 x0_27 x2_27 v1
noncomputable def g_X11_bitAt_4 (rc_4 : Int32 → Int32 → Int32 → Option Int32) (x0_4 : Int32) (x2_4 : Int32) (x3_4 : Int32) : Option Int32 :=
  if (6 : Int32) ≤ x3_4 then
  some (-1 : Int32)
  else
  if (f_X11_hasBit x0_4 x3_4) = 0 then
  g_X11_bitAt_27 rc_4 x0_4 x2_4 x3_4
  else
  if x2_4 = 0 then
  some x3_4
  else
  bd1 (x2_4 + (-1 : Int32)) fun v2 =>
  g_X11_bitAt_27 rc_4 x0_4 v2 x3_4
noncomputable def f_X11_bitAt (a0 : Int32) (a1 : Int32) : Option Int32 :=
  lp (fun _ _ _ => none) (g_X11_bitAt_4) 2000 a0 a1 (0 : Int32)
noncomputable def f_X11_said (a0 : Int32) (K : kD) (C : kD) (O : kD) (S : kD) (N : kD) : Option (Int32 × kD) :=
  if (f_X8_isTold N) = 0 then
  some ((-1 : Int32), N)
  else
  if (-1 : Int32) ≤ a0 then
  bo2 (f_X8_machinesOf N O S) fun v2 Nv3 =>
  if a0 = (-1 : Int32) then
  some ((f_J6_bitCount_0f7a4 v2), Nv3)
  else
  bo (f_X11_bitAt v2 a0) fun v5 =>
  some (v5, Nv3)
  else
  some ((-1 : Int32), N)
noncomputable def f_X11_image (a0 : Int32) (K : kD) (C : kD) (O : kD) (S : kD) (N : kD) (IO : Nat → kD) (IS : Nat → kD) (IN : Nat → kD) (IK : Nat → Int32) : Option (Int32 × (Nat → kD) × (Nat → kD) × (Nat → kD) × (Nat → Int32)) :=
  if a0 < 0 then
  some ((0 : Int32), IO, IS, IN, IK)
  else
  if a0 < (2 : Int32) then
  if a0 = 0 then
  bo3 (f_X7_copyFrom zD (IO 0) (IS 0) (IN 0) C O S N) fun IOv2 ISv3 INv4 =>
  bd1 ((upF IO 0 IOv2)) fun IOv5 =>
  bd1 ((upF IS 0 ISv3)) fun ISv6 =>
  bd1 ((upF IN 0 INv4)) fun INv7 =>
  if a0 < 0 ∨ 2 ≤ a0.toNatClampNeg then none else
  bd1 (upd IK a0.toNatClampNeg (vp_nar .boolean (1 : Int32))) fun IKv9 =>
  some ((1 : Int32), IOv5, ISv6, INv7, IKv9)
  else
  if a0 = 1 then
  bo3 (f_X7_copyFrom zD (IO 1) (IS 1) (IN 1) C O S N) fun IOv12 ISv13 INv14 =>
  bd1 ((upF IO 1 IOv12)) fun IOv15 =>
  bd1 ((upF IS 1 ISv13)) fun ISv16 =>
  bd1 ((upF IN 1 INv14)) fun INv17 =>
  if a0 < 0 ∨ 2 ≤ a0.toNatClampNeg then none else
  bd1 (upd IK a0.toNatClampNeg (vp_nar .boolean (1 : Int32))) fun IKv19 =>
  some ((1 : Int32), IOv15, ISv16, INv17, IKv19)
  else
  none
  else
  some ((0 : Int32), IO, IS, IN, IK)
noncomputable def f_X11_restore (a0 : Int32) (K : kD) (C : kD) (O : kD) (S : kD) (N : kD) (IO : Nat → kD) (IS : Nat → kD) (IN : Nat → kD) (IK : Nat → Int32) (Hy : kD) (HS : Nat → kD) : Option (Int32 × kD × kD × kD × kD) :=
  if a0 < 0 then
  some ((0 : Int32), O, S, N, Hy)
  else
  if (2 : Int32) ≤ a0 then
  some ((0 : Int32), O, S, N, Hy)
  else
  if a0 < 0 ∨ 2 ≤ a0.toNatClampNeg then none else
  if (IK a0.toNatClampNeg) = 0 then
  some ((0 : Int32), O, S, N, Hy)
  else
  if a0 = 0 then
  bo3 (f_X7_copyFrom C O S N zD (IO 0) (IS 0) (IN 0)) fun Ov3 Sv4 Nv5 =>
  bo (f_X2_forget Hy HS) fun Hyv7 =>
  some ((1 : Int32), Ov3, Sv4, Nv5, Hyv7)
  else
  if a0 = 1 then
  bo3 (f_X7_copyFrom C O S N zD (IO 1) (IS 1) (IN 1)) fun Ov10 Sv11 Nv12 =>
  bo (f_X2_forget Hy HS) fun Hyv14 =>
  some ((1 : Int32), Ov10, Sv11, Nv12, Hyv14)
  else
  none
noncomputable def f_X11_count (a0 : Int32) (K : kD) (C : kD) (O : kD) (S : kD) (N : kD) : Int32 :=
  if a0 = 0 then
  (O.1 0 1)
  else
  if a0 = 1 then
  (O.1 0 2)
  else
  if a0 = 2 then
  (O.1 0 3)
  else
  if a0 = 3 then
  (K.1 0 1)
  else
  (-1 : Int32)
noncomputable def g_X4_wordOf_99 (rc_2 : Int32 → Option Int32) (x2_99 : Int32) (x4_99 : Int32) : Option Int32 :=
  if x4_99 = 0 then
  bd1 (x2_99 + (1 : Int32)) fun v1 =>
  rc_2 v1
  else
  some x2_99
noncomputable def g_X4_wordOf_91 (rc_37 : Int32 → Int32 → Option Int32) (x5_91 : Int32) (t0_91 : Int32) : Option Int32 :=
  bd1 (x5_91 + (1 : Int32)) fun v2 =>
  rc_37 t0_91 v2
noncomputable def g_X4_wordOf_37 (rc_2 : Int32 → Option Int32) (nT : Nat) (R : kD) (T : Nat → Int32) (x2_32 : Int32) (rc_37 : Int32 → Int32 → Option Int32) (x4_37 : Int32) (x5_37 : Int32) : Option Int32 :=
  if x4_37 = 0 then
  g_X4_wordOf_99 rc_2 x2_32 x4_37
  else
  if (Int32.ofNat (wLn x2_32.toNatClampNeg)) ≤ x5_37 then
  g_X4_wordOf_99 rc_2 x2_32 x4_37
  else
  if (R.1 0 1) ≤ ((R.1 0 5) + x5_37) then
  g_X4_wordOf_99 rc_2 x2_32 x4_37
  else
  if x5_37 < 0 ∨ wLn x2_32.toNatClampNeg ≤ x5_37.toNatClampNeg then none else
  if ¬ (R.1 0 0) = 1 then none else
  bd1 ((R.1 0 5) + x5_37) fun v3 =>
  if v3 < 0 ∨ nT ≤ v3.toNatClampNeg then none else
  if (wCh x2_32.toNatClampNeg x5_37.toNatClampNeg) = (T v3.toNatClampNeg) then
  g_X4_wordOf_91 rc_37 x5_37 (1 : Int32)
  else
  g_X4_wordOf_91 rc_37 x5_37 (0 : Int32)
noncomputable def g_X4_wordOf_32 (rc_2 : Int32 → Option Int32) (nT : Nat) (R : kD) (T : Nat → Int32) (x2_32 : Int32) (t0_32 : Int32) : Option Int32 :=
  lp (fun _ _ => none) (g_X4_wordOf_37 rc_2 nT R T x2_32) 2000 t0_32 (0 : Int32)
noncomputable def g_X4_wordOf_2 (nT : Nat) (R : kD) (T : Nat → Int32) (x1_2 : Int32) (rc_2 : Int32 → Option Int32) (x2_2 : Int32) : Option Int32 :=
  if (22 : Int32) ≤ x2_2 then
  some (0 : Int32)
  else
  if x2_2 < 0 ∨ 22 ≤ x2_2.toNatClampNeg then none else
  if (Int32.ofNat (wLn x2_2.toNatClampNeg)) = x1_2 then
  g_X4_wordOf_32 rc_2 nT R T x2_2 (1 : Int32)
  else
  g_X4_wordOf_32 rc_2 nT R T x2_2 (0 : Int32)
noncomputable def f_X4_wordOf (a0 : Int32) (nT : Nat) (R : kD) (T : Nat → Int32) : Option Int32 :=
  lp (fun _ => none) (g_X4_wordOf_2 nT R T a0) 2000 (0 : Int32)
noncomputable def g_X4_advance_154 (nT : Nat) (T : Nat → Int32) (t1_154 : Int32) (R_154 : kD) : Option kD :=
  bd1 (kI R_154 0 4 t1_154) fun Rv1 =>
  bd1 (kI Rv1 0 3 ((Rv1.1 0 3) + (1 : Int32))) fun Rv2 =>
  some Rv2
noncomputable def g_X4_advance_61 (nT : Nat) (T : Nat → Int32) (x1_61 : Int32) (R_61 : kD) : Option kD :=
  bd1 (kI R_61 0 6 (0 : Int32)) fun Rv3 =>
  if (Rv3.1 0 3) < x1_61 then
  bd1 (kI Rv3 0 5 (Rv3.1 0 3)) fun Rv4 =>
  bo (f_X4_readRun nT Rv4 T) fun Rv6 =>
  if (Rv6.1 0 3) = (Rv6.1 0 5) then
  if ¬ (Rv6.1 0 0) = 1 then none else
  bd1 (Rv6.1 0 5) fun v12 =>
  if v12 < 0 ∨ nT ≤ v12.toNatClampNeg then none else
  bd1 (kI Rv6 0 8 (T v12.toNatClampNeg)) fun Rv14 =>
  if (f_X4_isSignByte (Rv14.1 0 8)) = 0 then
  g_X4_advance_154 nT T (0 : Int32) Rv14
  else
  g_X4_advance_154 nT T (4 : Int32) Rv14
  else
  if (Rv6.1 0 4) = (2 : Int32) then
  bo (f_X4_wordOf ((Rv6.1 0 3) - (Rv6.1 0 5)) nT Rv6 T) fun v8 =>
  bd1 (kI Rv6 0 6 v8) fun Rv9 =>
  some Rv9
  else
  some Rv6
  else
  bd1 (kI Rv3 0 5 x1_61) fun Rv17 =>
  if (Rv17.1 0 1) ≤ (Rv17.1 0 2) then
  bd1 (kI Rv17 0 4 (1 : Int32)) fun Rv18 =>
  some Rv18
  else
  bd1 (kI Rv17 0 4 (0 : Int32)) fun Rv19 =>
  some Rv19
noncomputable def g_X4_advance_48 (rc_12 : Int32 → kD → Option kD) (nT : Nat) (T : Nat → Int32) (x1_48 : Int32) (R_48 : kD) : Option kD :=
  bd1 (kI R_48 0 3 ((R_48.1 0 3) + (1 : Int32))) fun Rv22 =>
  rc_12 x1_48 Rv22
noncomputable def g_X4_advance_12 (nT : Nat) (T : Nat → Int32) (rc_12 : Int32 → kD → Option kD) (x1_12 : Int32) (R_12 : kD) : Option kD :=
  if x1_12 ≤ (R_12.1 0 3) then
  g_X4_advance_61 nT T x1_12 R_12
  else
  if ¬ (R_12.1 0 0) = 1 then none else
  bd1 (R_12.1 0 3) fun v24 =>
  if v24 < 0 ∨ nT ≤ v24.toNatClampNeg then none else
  if (T v24.toNatClampNeg) = (32 : Int32) then
  g_X4_advance_48 rc_12 nT T x1_12 R_12
  else
  if ¬ (R_12.1 0 0) = 1 then none else
  bd1 (R_12.1 0 3) fun v27 =>
  if v27 < 0 ∨ nT ≤ v27.toNatClampNeg then none else
  if (T v27.toNatClampNeg) = (10 : Int32) then
  g_X4_advance_48 rc_12 nT T x1_12 R_12
  else
  g_X4_advance_61 nT T x1_12 R_12
noncomputable def f_X4_advance (nT : Nat) (R : kD) (T : Nat → Int32) : Option kD :=
  bd1 (kMin (R.1 0 1) (R.1 0 2)) fun v32 =>
  lp (fun _ _ => none) (g_X4_advance_12 nT T) 2000 v32 R
noncomputable def g_X0_passAct_29 (nT : Nat) (T : Nat → Int32) (Bk_29 : kD) (R_29 : kD) : Option (Int32 × kD × kD) :=
  bo (f_X4_advance nT R_29 T) fun Rv2 =>
  some ((1 : Int32), Bk_29, Rv2)
noncomputable def f_X0_passAct (a1 : Int32) (nT : Nat) (Bk : kD) (R : kD) (T : Nat → Int32) : Option (Int32 × kD × kD) :=
  if (Bk.1 0 0) < (1 : Int32) then
  g_X0_passAct_29 nT T Bk R
  else
  if (40 : Int32) < (Bk.1 0 0) then
  g_X0_passAct_29 nT T Bk R
  else
  if ((Bk.1 0 0) - (1 : Int32)) < 0 ∨ 40 ≤ ((Bk.1 0 0) - (1 : Int32)).toNatClampNeg then none else
  bd1 (kI Bk 3 ((Bk.1 0 0) - (1 : Int32)).toNatClampNeg a1) fun Bkv4 =>
  g_X0_passAct_29 nT T Bkv4 R
noncomputable def f_X0_passPhrase (nT : Nat) (Bk : kD) (R : kD) (O : kD) (T : Nat → Int32) : Option (Int32 × kD × kD) :=
  bo2 (f_X4_neededOf (O.1 0 2) 8 nT R (O.2 7) T) fun v2 Rv3 =>
  if v2 = (-1 : Int32) then
  some ((0 : Int32), Bk, Rv3)
  else
  bo (f_X0_keepNumber v2 Bk) fun Bkv5 =>
  bo (f_X4_advance nT Rv3 T) fun Rv7 =>
  some ((1 : Int32), Bkv5, Rv7)
noncomputable def f_X0_passNumber (a1 : Int32) (nT : Nat) (Bk : kD) (R : kD) (T : Nat → Int32) : Option (Int32 × kD × kD) :=
  bo2 (f_X4_needsNumber (1 : Int32) a1 nT R T) fun v2 Rv3 =>
  if v2 = 0 then
  some ((0 : Int32), Bk, Rv3)
  else
  bo (f_X0_keepNumber (Rv3.1 0 8) Bk) fun Bkv5 =>
  bo (f_X4_advance nT Rv3 T) fun Rv7 =>
  some ((1 : Int32), Bkv5, Rv7)
noncomputable def f_X0_readMachineAct (nT : Nat) (Bk : kD) (R : kD) (O : kD) (T : Nat → Int32) : Option (Int32 × kD × kD) :=
  bo (f_X4_seesWord (5 : Int32) nT R T) fun v2 =>
  if v2 = 0 then
  bo (f_X4_seesWord (6 : Int32) nT R T) fun v4 =>
  if v4 = 0 then
  bo (f_X4_seesWord (7 : Int32) nT R T) fun v6 =>
  if v6 = 0 then
  bo (f_X4_seesWord (8 : Int32) nT R T) fun v8 =>
  if v8 = 0 then
  bo2 (f_X4_refuse (1 : Int32) nT R T) fun v10 Rv11 =>
  if ¬ (v10 = 0 ∨ v10 = 1) then none else
  some (v10, Bk, Rv11)
  else
  bo3 (f_X0_passAct (30 : Int32) nT Bk R T) fun v14 Bkv15 Rv16 =>
  if v14 = 0 then
  some ((0 : Int32), Bkv15, Rv16)
  else
  bo3 (f_X0_passNumber (999 : Int32) nT Bkv15 Rv16 T) fun v18 Bkv19 Rv20 =>
  if v18 = 0 then
  some ((0 : Int32), Bkv19, Rv20)
  else
  some ((1 : Int32), Bkv19, Rv20)
  else
  bo3 (f_X0_passAct (20 : Int32) nT Bk R T) fun v25 Bkv26 Rv27 =>
  if ¬ (v25 = 0 ∨ v25 = 1) then none else
  some (v25, Bkv26, Rv27)
  else
  bo3 (f_X0_passAct (10 : Int32) nT Bk R T) fun v31 Bkv32 Rv33 =>
  if ¬ (v31 = 0 ∨ v31 = 1) then none else
  some (v31, Bkv32, Rv33)
  else
  bo3 (f_X0_passAct (0 : Int32) nT Bk R T) fun v37 Bkv38 Rv39 =>
  if v37 = 0 then
  some ((0 : Int32), Bkv38, Rv39)
  else
  bo3 (f_X0_passPhrase nT Bkv38 Rv39 O T) fun v41 Bkv42 Rv43 =>
  if v41 = 0 then
  some ((0 : Int32), Bkv42, Rv43)
  else
  some ((1 : Int32), Bkv42, Rv43)
noncomputable def g_X0_readLine_60 (nT : Nat) (O : kD) (T : Nat → Int32) (x3_60 : Int32) (x4_60 : Int32) (Bk_60 : kD) (R_60 : kD) : Option (Int32 × kD × kD) :=
  if (Bk_60.1 0 0) < (40 : Int32) then
  if (Bk_60.1 0 0) < 0 ∨ 40 ≤ (Bk_60.1 0 0).toNatClampNeg then none else
  bd1 (kI Bk_60 4 (Bk_60.1 0 0).toNatClampNeg x4_60) fun Bkv2 =>
  if (Bkv2.1 0 0) < 0 ∨ 40 ≤ (Bkv2.1 0 0).toNatClampNeg then none else
  bd1 (kI Bkv2 5 (Bkv2.1 0 0).toNatClampNeg (0 : Int32)) fun Bkv4 =>
  bd1 (kI Bkv4 0 0 ((Bkv4.1 0 0) + (1 : Int32))) fun Bkv5 =>
  if x3_60 = 0 then
  bo (f_X4_seesWord (9 : Int32) nT R_60 T) fun v7 =>
  if v7 = 0 then
  bo3 (f_X0_passAct (50 : Int32) nT Bkv5 R_60 T) fun v9 Bkv10 Rv11 =>
  if v9 = 0 then
  some ((0 : Int32), Bkv10, Rv11)
  else
  bo3 (f_X0_passNumber (60 : Int32) nT Bkv10 Rv11 T) fun v13 Bkv14 Rv15 =>
  if v13 = 0 then
  some ((0 : Int32), Bkv14, Rv15)
  else
  some ((1 : Int32), Bkv14, Rv15)
  else
  bo3 (f_X0_passAct (40 : Int32) nT Bkv5 R_60 T) fun v19 Bkv20 Rv21 =>
  if ¬ (v19 = 0 ∨ v19 = 1) then none else
  some (v19, Bkv20, Rv21)
  else
  bo (f_X4_advance nT R_60 T) fun Rv25 =>
  bo3 (f_X0_readMachineAct nT Bkv5 Rv25 O T) fun v27 Bkv28 Rv29 =>
  if ¬ (v27 = 0 ∨ v27 = 1) then none else
  some (v27, Bkv28, Rv29)
  else
  bo2 (f_X4_refuse (4 : Int32) nT R_60 T) fun v33 Rv34 =>
  if ¬ (v33 = 0 ∨ v33 = 1) then none else
  some (v33, Bk_60, Rv34)
noncomputable def g_X0_readLine_46 (nT : Nat) (O : kD) (T : Nat → Int32) (x3_46 : Int32) (t0_46 : Int32) (Bk_46 : kD) (R_46 : kD) : Option (Int32 × kD × kD) :=
  if x3_46 = 0 then
  g_X0_readLine_60 nT O T x3_46 t0_46 Bk_46 R_46
  else
  if t0_46 = (-1 : Int32) then
  some ((0 : Int32), Bk_46, R_46)
  else
  g_X0_readLine_60 nT O T x3_46 t0_46 Bk_46 R_46
noncomputable def g_X0_readLine_25 (nT : Nat) (O : kD) (T : Nat → Int32) (t0_25 : Int32) (Bk_25 : kD) (R_25 : kD) : Option (Int32 × kD × kD) :=
  if t0_25 = 0 then
  g_X0_readLine_46 nT O T t0_25 (-1 : Int32) Bk_25 R_25
  else
  bo2 (f_X4_neededOf (O.1 0 1) 6 nT R_25 (O.2 4) T) fun v40 Rv41 =>
  g_X0_readLine_46 nT O T t0_25 v40 Bk_25 Rv41
noncomputable def g_X0_readLine_24 (nT : Nat) (O : kD) (T : Nat → Int32) (Bk_24 : kD) (R_24 : kD) : Option (Int32 × kD × kD) :=
  g_X0_readLine_25 nT O T (0 : Int32) Bk_24 R_24
noncomputable def f_X0_readLine (nT : Nat) (Bk : kD) (R : kD) (O : kD) (T : Nat → Int32) : Option (Int32 × kD × kD) :=
  bo (f_X4_seesWord (9 : Int32) nT R T) fun v44 =>
  if v44 = 0 then
  bo (f_X4_seesWord (10 : Int32) nT R T) fun v46 =>
  if v46 = 0 then
  g_X0_readLine_25 nT O T (1 : Int32) Bk R
  else
  g_X0_readLine_24 nT O T Bk R
  else
  g_X0_readLine_24 nT O T Bk R
noncomputable def f_X4_passSign (a0 : Int32) (nT : Nat) (R : kD) (T : Nat → Int32) : Option (Int32 × kD) :=
  if (f_X4_seesSign a0 nT R T) = 0 then
  bo2 (f_X4_refuse (1 : Int32) nT R T) fun v4 Rv5 =>
  if ¬ (v4 = 0 ∨ v4 = 1) then none else
  some (v4, Rv5)
  else
  bo (f_X4_advance nT R T) fun Rv2 =>
  some ((1 : Int32), Rv2)
noncomputable def g_X0_read_46 (nT : Nat) (O : kD) (T : Nat → Int32) (Bk_46 : kD) (R_46 : kD) : Option (Int32 × kD × kD) :=
  bo2 (f_X4_needsEnd nT R_46 T) fun v2 Rv3 =>
  if ¬ (v2 = 0 ∨ v2 = 1) then none else
  some (v2, Bk_46, Rv3)
noncomputable def g_X0_read_7 (nT : Nat) (O : kD) (T : Nat → Int32) (rc_7 : Int32 → kD → kD → Option (Int32 × kD × kD)) (x3_7 : Int32) (Bk_7 : kD) (R_7 : kD) : Option (Int32 × kD × kD) :=
  if (40 : Int32) < x3_7 then
  g_X0_read_46 nT O T Bk_7 R_7
  else
  if (f_X4_seesEnd nT R_7 T) = 0 then
  bo3 (f_X0_readLine nT Bk_7 R_7 O T) fun v6 Bkv7 Rv8 =>
  if v6 = 0 then
  some ((0 : Int32), Bkv7, Rv8)
  else
  bo2 (f_X4_passSign (59 : Int32) nT Rv8 T) fun v10 Rv11 =>
  if v10 = 0 then
  some ((0 : Int32), Bkv7, Rv11)
  else
  bd1 (x3_7 + (1 : Int32)) fun v12 =>
  rc_7 v12 Bkv7 Rv11
  else
  g_X0_read_46 nT O T Bk_7 R_7
noncomputable def f_X0_read (nT : Nat) (Bk : kD) (R : kD) (O : kD) (T : Nat → Int32) : Option (Int32 × kD × kD) :=
  bd1 (kI Bk 0 0 (0 : Int32)) fun Bkv17 =>
  lp (fun _ _ _ => none) (g_X0_read_7 nT O T) 2000 (0 : Int32) Bkv17 R
noncomputable def f_X3_readMachine (nT : Nat) (O : kD) (R : kD) (T : Nat → Int32) : Option (Int32 × kD × kD) :=
  if (O.1 0 1) < (6 : Int32) then
  bo (f_X4_advance nT R T) fun Rv2 =>
  bo2 (f_X3_needsNewName nT O Rv2 T) fun v4 Rv5 =>
  if v4 = 0 then
  some ((0 : Int32), O, Rv5)
  else
  if (O.1 0 1) < 0 ∨ 6 ≤ (O.1 0 1).toNatClampNeg then none else
  bd1 (kL O 4 (O.1 0 1).toNatClampNeg (Rv5.2 0 7)) fun Ov7 =>
  bo (f_X4_advance nT Rv5 T) fun Rv9 =>
  bo2 (f_X4_needsNumber (0 : Int32) (999 : Int32) nT Rv9 T) fun v11 Rv12 =>
  if v11 = 0 then
  some ((0 : Int32), Ov7, Rv12)
  else
  if (Ov7.1 0 1) < 0 ∨ 6 ≤ (Ov7.1 0 1).toNatClampNeg then none else
  bd1 (kI Ov7 5 (Ov7.1 0 1).toNatClampNeg (Rv12.1 0 8)) fun Ov14 =>
  if (Ov14.1 0 1) < 0 ∨ 6 ≤ (Ov14.1 0 1).toNatClampNeg then none else
  bd1 (kI Ov14 6 (Ov14.1 0 1).toNatClampNeg (0 : Int32)) fun Ov16 =>
  bd1 (kI Ov16 0 1 ((Ov16.1 0 1) + (1 : Int32))) fun Ov17 =>
  bo (f_X4_advance nT Rv12 T) fun Rv19 =>
  some ((1 : Int32), Ov17, Rv19)
  else
  bo2 (f_X4_refuse (4 : Int32) nT R T) fun v23 Rv24 =>
  if ¬ (v23 = 0 ∨ v23 = 1) then none else
  some (v23, O, Rv24)
noncomputable def f_X3_readPhrase (nT : Nat) (O : kD) (R : kD) (T : Nat → Int32) : Option (Int32 × kD × kD) :=
  if (O.1 0 2) < (8 : Int32) then
  bo (f_X4_advance nT R T) fun Rv2 =>
  bo2 (f_X3_needsNewName nT O Rv2 T) fun v4 Rv5 =>
  if v4 = 0 then
  some ((0 : Int32), O, Rv5)
  else
  if (O.1 0 2) < 0 ∨ 8 ≤ (O.1 0 2).toNatClampNeg then none else
  bd1 (kL O 7 (O.1 0 2).toNatClampNeg (Rv5.2 0 7)) fun Ov7 =>
  bo (f_X4_advance nT Rv5 T) fun Rv9 =>
  bo2 (f_X4_needsNumber (1 : Int32) (40 : Int32) nT Rv9 T) fun v11 Rv12 =>
  if v11 = 0 then
  some ((0 : Int32), Ov7, Rv12)
  else
  if (Ov7.1 0 2) < 0 ∨ 8 ≤ (Ov7.1 0 2).toNatClampNeg then none else
  bd1 (kI Ov7 8 (Ov7.1 0 2).toNatClampNeg (Rv12.1 0 8)) fun Ov14 =>
  bo (f_X4_advance nT Rv12 T) fun Rv16 =>
  bo2 (f_X4_needsNumber (0 : Int32) (99 : Int32) nT Rv16 T) fun v18 Rv19 =>
  if v18 = 0 then
  some ((0 : Int32), Ov14, Rv19)
  else
  if (Ov14.1 0 2) < 0 ∨ 8 ≤ (Ov14.1 0 2).toNatClampNeg then none else
  bd1 (kI Ov14 9 (Ov14.1 0 2).toNatClampNeg (Rv19.1 0 8)) fun Ov21 =>
  if (Ov21.1 0 2) < 0 ∨ 8 ≤ (Ov21.1 0 2).toNatClampNeg then none else
  bd1 (kI Ov21 10 (Ov21.1 0 2).toNatClampNeg (0 : Int32)) fun Ov23 =>
  bd1 (kI Ov23 0 2 ((Ov23.1 0 2) + (1 : Int32))) fun Ov24 =>
  bo (f_X4_advance nT Rv19 T) fun Rv26 =>
  some ((1 : Int32), Ov24, Rv26)
  else
  bo2 (f_X4_refuse (4 : Int32) nT R T) fun v31 Rv32 =>
  if ¬ (v31 = 0 ∨ v31 = 1) then none else
  some (v31, O, Rv32)
noncomputable def f_X3_readKnows (nT : Nat) (O : kD) (R : kD) (T : Nat → Int32) : Option (Int32 × kD × kD) :=
  bo (f_X4_advance nT R T) fun Rv2 =>
  bo2 (f_X4_neededOf (O.1 0 1) 6 nT Rv2 (O.2 4) T) fun v4 Rv5 =>
  if v4 = (-1 : Int32) then
  some ((0 : Int32), O, Rv5)
  else
  bo (f_X4_advance nT Rv5 T) fun Rv7 =>
  bo2 (f_X4_neededOf (O.1 0 2) 8 nT Rv7 (O.2 7) T) fun v9 Rv10 =>
  if v9 = (-1 : Int32) then
  some ((0 : Int32), O, Rv10)
  else
  bo (f_X3_knowsOf v4 v9 O) fun v12 =>
  if v12 = 0 then
  if v4 < 0 ∨ 6 ≤ v4.toNatClampNeg then none else
  if v4 < 0 ∨ 6 ≤ v4.toNatClampNeg then none else
  bd1 (kI O 6 v4.toNatClampNeg ((O.1 6 v4.toNatClampNeg) ||| ((1 : Int32) <<< (v9 &&& 31)))) fun Ov15 =>
  bo (f_X4_advance nT Rv10 T) fun Rv17 =>
  some ((1 : Int32), Ov15, Rv17)
  else
  bo2 (f_X4_refuse (3 : Int32) nT Rv10 T) fun v19 Rv20 =>
  if ¬ (v19 = 0 ∨ v19 = 1) then none else
  some (v19, O, Rv20)
noncomputable def f_X3_readAnswers (nT : Nat) (O : kD) (R : kD) (T : Nat → Int32) : Option (Int32 × kD × kD) :=
  bo (f_X4_advance nT R T) fun Rv2 =>
  bo2 (f_X4_neededOf (O.1 0 2) 8 nT Rv2 (O.2 7) T) fun v4 Rv5 =>
  if v4 = (-1 : Int32) then
  some ((0 : Int32), O, Rv5)
  else
  bo (f_X4_advance nT Rv5 T) fun Rv7 =>
  bo2 (f_X4_neededOf (O.1 0 2) 8 nT Rv7 (O.2 7) T) fun v9 Rv10 =>
  if v9 = (-1 : Int32) then
  some ((0 : Int32), O, Rv10)
  else
  bo (f_X3_isAnswer v4 v9 O) fun v12 =>
  if v12 = 0 then
  if v9 < 0 ∨ 8 ≤ v9.toNatClampNeg then none else
  if v9 < 0 ∨ 8 ≤ v9.toNatClampNeg then none else
  bd1 (kI O 10 v9.toNatClampNeg ((O.1 10 v9.toNatClampNeg) ||| ((1 : Int32) <<< (v4 &&& 31)))) fun Ov15 =>
  bd1 (kI Ov15 0 3 ((Ov15.1 0 3) + (1 : Int32))) fun Ov16 =>
  bo (f_X4_advance nT Rv10 T) fun Rv18 =>
  some ((1 : Int32), Ov16, Rv18)
  else
  bo2 (f_X4_refuse (3 : Int32) nT Rv10 T) fun v20 Rv21 =>
  if ¬ (v20 = 0 ∨ v20 = 1) then none else
  some (v20, O, Rv21)
noncomputable def f_X3_readLine (nT : Nat) (O : kD) (R : kD) (T : Nat → Int32) : Option (Int32 × kD × kD) :=
  bo (f_X4_seesWord (1 : Int32) nT R T) fun v2 =>
  if v2 = 0 then
  bo (f_X4_seesWord (2 : Int32) nT R T) fun v4 =>
  if v4 = 0 then
  bo (f_X4_seesWord (3 : Int32) nT R T) fun v6 =>
  if v6 = 0 then
  bo (f_X4_seesWord (4 : Int32) nT R T) fun v8 =>
  if v8 = 0 then
  bo2 (f_X4_refuse (1 : Int32) nT R T) fun v10 Rv11 =>
  if ¬ (v10 = 0 ∨ v10 = 1) then none else
  some (v10, O, Rv11)
  else
  bo3 (f_X3_readAnswers nT O R T) fun v14 Ov15 Rv16 =>
  if ¬ (v14 = 0 ∨ v14 = 1) then none else
  some (v14, Ov15, Rv16)
  else
  bo3 (f_X3_readKnows nT O R T) fun v20 Ov21 Rv22 =>
  if ¬ (v20 = 0 ∨ v20 = 1) then none else
  some (v20, Ov21, Rv22)
  else
  bo3 (f_X3_readPhrase nT O R T) fun v26 Ov27 Rv28 =>
  if ¬ (v26 = 0 ∨ v26 = 1) then none else
  some (v26, Ov27, Rv28)
  else
  bo3 (f_X3_readMachine nT O R T) fun v32 Ov33 Rv34 =>
  if ¬ (v32 = 0 ∨ v32 = 1) then none else
  some (v32, Ov33, Rv34)
noncomputable def g_X3_read_69 (nT : Nat) (T : Nat → Int32) (O_69 : kD) (R_69 : kD) : Option (Int32 × kD × kD) :=
  bo2 (f_X4_needsEnd nT R_69 T) fun v2 Rv3 =>
  if ¬ (v2 = 0 ∨ v2 = 1) then none else
  some (v2, O_69, Rv3)
noncomputable def g_X3_read_20 (nT : Nat) (T : Nat → Int32) (rc_20 : kD → kD → Option (Int32 × kD × kD)) (O_20 : kD) (R_20 : kD) : Option (Int32 × kD × kD) :=
  if (900 : Int32) ≤ (O_20.1 0 0) then
  g_X3_read_69 nT T O_20 R_20
  else
  if (f_X4_seesEnd nT R_20 T) = 0 then
  bo3 (f_X3_readLine nT O_20 R_20 T) fun v6 Ov7 Rv8 =>
  if v6 = 0 then
  some ((0 : Int32), Ov7, Rv8)
  else
  bo2 (f_X4_passSign (59 : Int32) nT Rv8 T) fun v10 Rv11 =>
  if v10 = 0 then
  some ((0 : Int32), Ov7, Rv11)
  else
  bd1 (kI Ov7 0 0 ((Ov7.1 0 0) + (1 : Int32))) fun Ov12 =>
  rc_20 Ov12 Rv11
  else
  g_X3_read_69 nT T O_20 R_20
noncomputable def f_X3_read (nT : Nat) (O : kD) (R : kD) (T : Nat → Int32) : Option (Int32 × kD × kD) :=
  bd1 (kI O 0 0 (0 : Int32)) fun Ov17 =>
  bd1 (kI Ov17 0 1 (0 : Int32)) fun Ov18 =>
  bd1 (kI Ov18 0 2 (0 : Int32)) fun Ov19 =>
  bd1 (kI Ov19 0 3 (0 : Int32)) fun Ov20 =>
  lp (fun _ _ => none) (g_X3_read_20 nT T) 2000 Ov20 R
noncomputable def f_X4_open (a1 : Int32) (a2 : Int32) (nT : Nat) (R : kD) (T : Nat → Int32) : Option kD :=
  bd1 (kI R 0 0 (1 : Int32)) fun Rv1 =>
  bd1 (kI Rv1 0 1 (kMin a1 (Int32.ofNat nT))) fun Rv2 =>
  bd1 (kI Rv2 0 2 a2) fun Rv3 =>
  bd1 (kI Rv3 0 3 (0 : Int32)) fun Rv4 =>
  bd1 (kI Rv4 0 9 (0 : Int32)) fun Rv5 =>
  bd1 (kI Rv5 0 10 (0 : Int32)) fun Rv6 =>
  bo (f_X4_advance nT Rv6 T) fun Rv8 =>
  some Rv8
noncomputable def f_X8_readNamed (a1 : Int32) (a3 : Int32) (nA : Nat) (nT : Nat) (N : kD) (R : kD) (A : Nat → Int64) (T : Nat → Int32) : Option (Int32 × kD × kD) :=
  bo2 (f_X4_neededOf a3 nA nT R A T) fun v2 Rv3 =>
  if v2 = (-1 : Int32) then
  some ((0 : Int32), N, Rv3)
  else
  bo (f_X4_advance nT Rv3 T) fun Rv5 =>
  bo2 (f_X8_keepWord a1 (0 : Int32) v2 N) fun v7 Nv8 =>
  if ¬ (v7 = 0 ∨ v7 = 1) then none else
  some (v7, Nv8, Rv5)
noncomputable def g_X8_readComparison_33 (nT : Nat) (T : Nat → Int32) (x2_33 : Int32) (N_33 : kD) (R_33 : kD) : Option (Int32 × kD × kD) :=
  bd1 (R_33.1 0 8) fun v1 =>
  bo (f_X4_advance nT R_33 T) fun Rv3 =>
  bo2 (f_X4_needsNumber (0 : Int32) (999 : Int32) nT Rv3 T) fun v5 Rv6 =>
  if v5 = 0 then
  some ((0 : Int32), N_33, Rv6)
  else
  bd1 (Rv6.1 0 8) fun v7 =>
  bo (f_X4_advance nT Rv6 T) fun Rv9 =>
  bo2 (f_X8_keepWord x2_33 v1 v7 N_33) fun v11 Nv12 =>
  if ¬ (v11 = 0 ∨ v11 = 1) then none else
  some (v11, Nv12, Rv9)
noncomputable def f_X8_readComparison (a1 : Int32) (nT : Nat) (N : kD) (R : kD) (T : Nat → Int32) : Option (Int32 × kD × kD) :=
  if (f_X4_seesSign (60 : Int32) nT R T) = 0 then
  if (f_X4_seesSign (61 : Int32) nT R T) = 0 then
  if (f_X4_seesSign (62 : Int32) nT R T) = 0 then
  bo2 (f_X4_refuse (1 : Int32) nT R T) fun v16 Rv17 =>
  if ¬ (v16 = 0 ∨ v16 = 1) then none else
  some (v16, N, Rv17)
  else
  g_X8_readComparison_33 nT T a1 N R
  else
  g_X8_readComparison_33 nT T a1 N R
  else
  g_X8_readComparison_33 nT T a1 N R
noncomputable def g_X8_readAll_15 (fO : Int32 → Nat → kD → kD → kD → (Nat → Int32) → Option (Int32 × kD × kD)) (nT : Nat) (O : kD) (T : Nat → Int32) (rc_15 : Int32 → Int32 → kD → kD → Option (Int32 × kD × kD)) (x3_15 : Int32) (x4_15 : Int32) (N_15 : kD) (R_15 : kD) : Option (Int32 × kD × kD) :=
  if (20 : Int32) ≤ x4_15 then
  some ((1 : Int32), N_15, R_15)
  else
  bo (f_X4_seesWord (12 : Int32) nT R_15 T) fun v2 =>
  if v2 = 0 then
  some ((1 : Int32), N_15, R_15)
  else
  bo (f_X4_advance nT R_15 T) fun Rv4 =>
  bo3 (fO x3_15 nT N_15 Rv4 O T) fun v6 Nv7 Rv8 =>
  if v6 = 0 then
  some ((0 : Int32), Nv7, Rv8)
  else
  bo2 (f_X8_keepWord (12 : Int32) (0 : Int32) (0 : Int32) Nv7) fun v10 Nv11 =>
  bd1 (x4_15 + (1 : Int32)) fun v12 =>
  rc_15 x3_15 v12 Nv11 Rv8
noncomputable def F_X8_readAll (fO : Int32 → Nat → kD → kD → kD → (Nat → Int32) → Option (Int32 × kD × kD)) (a2 : Int32) (nT : Nat) (N : kD) (R : kD) (O : kD) (T : Nat → Int32) : Option (Int32 × kD × kD) :=
  bo3 (fO a2 nT N R O T) fun v17 Nv18 Rv19 =>
  if v17 = 0 then
  some ((0 : Int32), Nv18, Rv19)
  else
  lp (fun _ _ _ _ => none) (g_X8_readAll_15 fO nT O T) 2000 a2 (0 : Int32) Nv18 Rv19
noncomputable def g_X8_readCond_15 (fA : Int32 → Nat → kD → kD → kD → (Nat → Int32) → Option (Int32 × kD × kD)) (nT : Nat) (O : kD) (T : Nat → Int32) (rc_15 : Int32 → Int32 → kD → kD → Option (Int32 × kD × kD)) (x3_15 : Int32) (x4_15 : Int32) (N_15 : kD) (R_15 : kD) : Option (Int32 × kD × kD) :=
  if (20 : Int32) ≤ x4_15 then
  some ((1 : Int32), N_15, R_15)
  else
  bo (f_X4_seesWord (11 : Int32) nT R_15 T) fun v2 =>
  if v2 = 0 then
  some ((1 : Int32), N_15, R_15)
  else
  bo (f_X4_advance nT R_15 T) fun Rv4 =>
  bo3 (fA x3_15 nT N_15 Rv4 O T) fun v6 Nv7 Rv8 =>
  if v6 = 0 then
  some ((0 : Int32), Nv7, Rv8)
  else
  bo2 (f_X8_keepWord (11 : Int32) (0 : Int32) (0 : Int32) Nv7) fun v10 Nv11 =>
  bd1 (x4_15 + (1 : Int32)) fun v12 =>
  rc_15 x3_15 v12 Nv11 Rv8
noncomputable def F_X8_readCond (fA : Int32 → Nat → kD → kD → kD → (Nat → Int32) → Option (Int32 × kD × kD)) (a2 : Int32) (nT : Nat) (N : kD) (R : kD) (O : kD) (T : Nat → Int32) : Option (Int32 × kD × kD) :=
  bo3 (fA a2 nT N R O T) fun v17 Nv18 Rv19 =>
  if v17 = 0 then
  some ((0 : Int32), Nv18, Rv19)
  else
  lp (fun _ _ _ _ => none) (g_X8_readCond_15 fA nT O T) 2000 a2 (0 : Int32) Nv18 Rv19
noncomputable def g_X8_readOne_48 (fC : Int32 → Nat → kD → kD → kD → (Nat → Int32) → Option (Int32 × kD × kD)) (fO : Int32 → Nat → kD → kD → kD → (Nat → Int32) → Option (Int32 × kD × kD)) (nT : Nat) (O : kD) (T : Nat → Int32) (N_48 : kD) (R_48 : kD) : Option (Int32 × kD × kD) :=
  bo2 (f_X4_refuse (4 : Int32) nT R_48 T) fun v2 Rv3 =>
  if ¬ (v2 = 0 ∨ v2 = 1) then none else
  some (v2, N_48, Rv3)
noncomputable def g_X8_readOne_210 (fC : Int32 → Nat → kD → kD → kD → (Nat → Int32) → Option (Int32 × kD × kD)) (fO : Int32 → Nat → kD → kD → kD → (Nat → Int32) → Option (Int32 × kD × kD)) (nT : Nat) (O : kD) (T : Nat → Int32) (x5_210 : Int32) (N_210 : kD) (R_210 : kD) : Option (Int32 × kD × kD) :=
  bo3 (f_X8_readComparison x5_210 nT N_210 R_210 T) fun v6 Nv7 Rv8 =>
  if ¬ (v6 = 0 ∨ v6 = 1) then none else
  some (v6, Nv7, Rv8)
noncomputable def g_X8_readOne_33 (fC : Int32 → Nat → kD → kD → kD → (Nat → Int32) → Option (Int32 × kD × kD)) (fO : Int32 → Nat → kD → kD → kD → (Nat → Int32) → Option (Int32 × kD × kD)) (nT : Nat) (O : kD) (T : Nat → Int32) (x3_33 : Int32) (x4_33 : Int32) (x5_33 : Int32) (N_33 : kD) (R_33 : kD) : Option (Int32 × kD × kD) :=
  if (20 : Int32) ≤ (N_33.1 0 0) then
  g_X8_readOne_48 fC fO nT O T N_33 R_33
  else
  if x3_33 ≤ (8 : Int32) then
  bd1 (kI N_33 0 0 ((N_33.1 0 0) + (1 : Int32))) fun Nv10 =>
  bo (f_X4_advance nT R_33 T) fun Rv12 =>
  if x4_33 = 0 then
  if x5_33 < 0 ∨ 22 ≤ x5_33.toNatClampNeg then none else
  if x5_33 = (13 : Int32) then
  bo3 (fO (x3_33 + (1 : Int32)) nT Nv10 Rv12 O T) fun v34 Nv35 Rv36 =>
  if v34 = 0 then
  some ((0 : Int32), Nv35, Rv36)
  else
  bo2 (f_X8_keepWord (13 : Int32) (0 : Int32) (0 : Int32) Nv35) fun v38 Nv39 =>
  if v38 = 0 then
  some ((0 : Int32), Nv39, Rv36)
  else
  some ((1 : Int32), Nv39, Rv36)
  else
  if x5_33 = (17 : Int32) then
  bo3 (f_X8_readNamed x5_33 (O.1 0 2) 8 nT Nv10 Rv12 (O.2 7) T) fun v28 Nv29 Rv30 =>
  if ¬ (v28 = 0 ∨ v28 = 1) then none else
  some (v28, Nv29, Rv30)
  else
  if x5_33 = (18 : Int32) then
  bo3 (f_X8_readNamed x5_33 (O.1 0 1) 6 nT Nv10 Rv12 (O.2 4) T) fun v22 Nv23 Rv24 =>
  if ¬ (v22 = 0 ∨ v22 = 1) then none else
  some (v22, Nv23, Rv24)
  else
  if x5_33 = (19 : Int32) then
  g_X8_readOne_210 fC fO nT O T x5_33 Nv10 Rv12
  else
  if x5_33 = (20 : Int32) then
  g_X8_readOne_210 fC fO nT O T x5_33 Nv10 Rv12
  else
  if x5_33 = (21 : Int32) then
  g_X8_readOne_210 fC fO nT O T x5_33 Nv10 Rv12
  else
  bo2 (f_X8_keepWord x5_33 (0 : Int32) (0 : Int32) Nv10) fun v15 Nv16 =>
  if ¬ (v15 = 0 ∨ v15 = 1) then none else
  some (v15, Nv16, Rv12)
  else
  bo3 (fC (x3_33 + (1 : Int32)) nT Nv10 Rv12 O T) fun v44 Nv45 Rv46 =>
  if v44 = 0 then
  some ((0 : Int32), Nv45, Rv46)
  else
  bo2 (f_X4_passSign (41 : Int32) nT Rv46 T) fun v48 Rv49 =>
  if v48 = 0 then
  some ((0 : Int32), Nv45, Rv49)
  else
  some ((1 : Int32), Nv45, Rv49)
  else
  g_X8_readOne_48 fC fO nT O T N_33 R_33
noncomputable def F_X8_readOne (fC : Int32 → Nat → kD → kD → kD → (Nat → Int32) → Option (Int32 × kD × kD)) (fO : Int32 → Nat → kD → kD → kD → (Nat → Int32) → Option (Int32 × kD × kD)) (a2 : Int32) (nT : Nat) (N : kD) (R : kD) (O : kD) (T : Nat → Int32) : Option (Int32 × kD × kD) :=
  bd1 (f_X4_seesSign (40 : Int32) nT R T) fun v55 =>
  if (R.1 0 6) < 0 ∨ 22 ≤ (R.1 0 6).toNatClampNeg then none else
  if v55 = 0 then
  if (kBeg (R.1 0 6)) = 0 then
  bo2 (f_X4_refuse (1 : Int32) nT R T) fun v58 Rv59 =>
  if ¬ (v58 = 0 ∨ v58 = 1) then none else
  some (v58, N, Rv59)
  else
  g_X8_readOne_33 fC fO nT O T a2 v55 (R.1 0 6) N R
  else
  g_X8_readOne_33 fC fO nT O T a2 v55 (R.1 0 6) N R
noncomputable def f_X8_rO : Nat → (Int32 → Nat → kD → kD → kD → (Nat → Int32) → Option (Int32 × kD × kD)) := fun n => Nat.rec (motive := fun _ => Int32 → Nat → kD → kD → kD → (Nat → Int32) → Option (Int32 × kD × kD)) (fun _ _ _ _ _ _ => none) (fun _ ih => F_X8_readOne (F_X8_readCond (F_X8_readAll ih)) ih) n
noncomputable def f_X8_readCond : Int32 → Nat → kD → kD → kD → (Nat → Int32) → Option (Int32 × kD × kD) := F_X8_readCond (F_X8_readAll (f_X8_rO 12))
noncomputable def f_X8_read (nT : Nat) (N : kD) (R : kD) (O : kD) (T : Nat → Int32) : Option (Int32 × kD × kD) :=
  bo (f_X8_forget N) fun Nv2 =>
  bo3 (f_X8_readCond (1 : Int32) nT Nv2 R O T) fun v4 Nv5 Rv6 =>
  if v4 = 0 then
  some ((0 : Int32), Nv5, Rv6)
  else
  bo2 (f_X4_needsEnd nT Rv6 T) fun v8 Rv9 =>
  if v8 = 0 then
  some ((0 : Int32), Nv5, Rv9)
  else
  some ((1 : Int32), Nv5, Rv9)
noncomputable def f_X11_office (K : kD) (T : Nat → Int32) (R : kD) (C : kD) (O : kD) (S : kD) (N : kD) (Hy : kD) (HS : Nat → kD) (RO : kD) : Option (Int32 × kD × kD × kD × kD × kD × kD × kD) :=
  bo2 (f_X11_takeTape K) fun v2 Kv3 =>
  bo (f_X4_open v2 (900 : Int32) 940 R T) fun Rv5 =>
  bo3 (f_X3_read 940 RO Rv5 T) fun v7 ROv8 Rv9 =>
  bd1 (kI Kv3 0 16 (Rv9.1 0 9)) fun Kv10 =>
  if v7 = 0 then
  some (((-1 : Int32) - (Rv9.1 0 10)), Kv10, Rv9, O, S, N, Hy, ROv8)
  else
  bo3 (f_X7_begin C O S N ROv8) fun Ov12 Sv13 Nv14 =>
  bo (f_X2_forget Hy HS) fun Hyv16 =>
  some ((ROv8.1 0 0), Kv10, Rv9, Ov12, Sv13, Nv14, Hyv16, ROv8)
noncomputable def g_X11_book_211 (T : Nat → Int32) (C : kD) (O : kD) (N : kD) (K_211 : kD) (R_211 : kD) (S_211 : kD) (Hy_211 : kD) (HS_211 : Nat → kD) (RB_211 : kD) (TR_211 : kD) (BT_211 : Nat → Int32) : Option (Int32 × kD × kD × kD × kD × (Nat → kD) × kD × kD × (Nat → Int32)) :=
  if (RB_211.1 0 2) = 0 then
  some ((-1 : Int32), K_211, R_211, S_211, Hy_211, HS_211, RB_211, TR_211, BT_211)
  else
  some ((RB_211.1 0 1), K_211, R_211, S_211, Hy_211, HS_211, RB_211, TR_211, BT_211)
noncomputable def g_X11_book_13 (T : Nat → Int32) (C : kD) (O : kD) (N : kD) (x1_13 : Int32) (K_13 : kD) (R_13 : kD) (S_13 : kD) (Hy_13 : kD) (HS_13 : Nat → kD) (RB_13 : kD) (TR_13 : kD) (BT_13 : Nat → Int32) : Option (Int32 × kD × kD × kD × kD × (Nat → kD) × kD × kD × (Nat → Int32)) :=
  bo2 (f_X11_takeTape K_13) fun v3 Kv4 =>
  bo (f_X4_open v3 (400 : Int32) 940 R_13 T) fun Rv6 =>
  bo3 (f_X0_read 940 RB_13 Rv6 O T) fun v8 RBv9 Rv10 =>
  bd1 (kI Kv4 0 16 (Rv10.1 0 9)) fun Kv11 =>
  if v8 = 0 then
  some (((-2 : Int32) - (Rv10.1 0 10)), Kv11, Rv10, S_13, Hy_13, HS_13, RBv9, TR_13, BT_13)
  else
  bo (f_X9_copyFrom TR_13 S_13) fun TRv13 =>
  bo2 (f_X0_live RBv9 O TRv13) fun RBv15 TRv16 =>
  bd1 (kI Kv11 0 15 (1 : Int32)) fun Kv17 =>
  bd1 (upd BT_13 (0 : Int32).toNatClampNeg (RBv15.1 0 2)) fun BTv18 =>
  bd1 (upd BTv18 (1 : Int32).toNatClampNeg (RBv15.1 0 1)) fun BTv19 =>
  bd1 (upd BTv19 (2 : Int32).toNatClampNeg (TRv16.1 0 0)) fun BTv20 =>
  bo (f_X11_sumOf 6 (TRv16.1 6)) fun v22 =>
  bd1 (upd BTv20 (3 : Int32).toNatClampNeg v22) fun BTv23 =>
  if x1_13 = (1 : Int32) then
  if (RBv15.1 0 1) ≤ 0 then
  g_X11_book_211 T C O N Kv17 Rv10 S_13 Hy_13 HS_13 RBv15 TRv16 BTv23
  else
  bo2 (f_X2_keep Hy_13 HS_13 S_13) fun Hyv25 HSv26 =>
  bo (f_X9_copyFrom S_13 TRv16) fun Sv28 =>
  g_X11_book_211 T C O N Kv17 Rv10 Sv28 Hyv25 HSv26 RBv15 TRv16 BTv23
  else
  g_X11_book_211 T C O N Kv17 Rv10 S_13 Hy_13 HS_13 RBv15 TRv16 BTv23
noncomputable def f_X11_book (a0 : Int32) (K : kD) (T : Nat → Int32) (R : kD) (C : kD) (O : kD) (S : kD) (N : kD) (Hy : kD) (HS : Nat → kD) (RB : kD) (TR : kD) (BT : Nat → Int32) : Option (Int32 × kD × kD × kD × kD × (Nat → kD) × kD × kD × (Nat → Int32)) :=
  if a0 = 0 then
  g_X11_book_13 T C O N a0 K R S Hy HS RB TR BT
  else
  if a0 = (1 : Int32) then
  g_X11_book_13 T C O N a0 K R S Hy HS RB TR BT
  else
  some ((-1000 : Int32), K, R, S, Hy, HS, RB, TR, BT)
noncomputable def f_X11_sentence (K : kD) (T : Nat → Int32) (R : kD) (C : kD) (O : kD) (S : kD) (N : kD) (RN : kD) : Option (Int32 × kD × kD × kD × kD) :=
  bo2 (f_X11_takeTape K) fun v2 Kv3 =>
  bo (f_X4_open v2 (200 : Int32) 940 R T) fun Rv5 =>
  bo3 (f_X8_read 940 RN Rv5 O T) fun v7 RNv8 Rv9 =>
  bd1 (kI Kv3 0 16 (Rv9.1 0 9)) fun Kv10 =>
  if v7 = 0 then
  some (((-1 : Int32) - (Rv9.1 0 10)), Kv10, Rv9, N, RNv8)
  else
  bo (f_X8_copyFrom N RNv8) fun Nv12 =>
  some ((RNv8.1 0 0), Kv10, Rv9, Nv12, RNv8)
