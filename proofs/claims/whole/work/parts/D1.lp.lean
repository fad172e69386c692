theorem dL_law_23 : decode cL_law 23 = .ok (.iload 4, 2) := by decide +kernel
theorem dL_law_25 : decode cL_law 25 = .ok (.aload_n 0, 1) := by decide +kernel
theorem dL_law_26 : decode cL_law 26 = .ok (.arraylength, 1) := by decide +kernel
theorem dL_law_27 : decode cL_law 27 = .ok (.bipush 6, 2) := by decide +kernel
theorem dL_law_29 : decode cL_law 29 = .ok (.isub, 1) := by decide +kernel
theorem dL_law_30 : decode cL_law 30 = .ok (.if_icmp .gt 1179, 3) := by decide +kernel
theorem dL_law_33 : decode cL_law 33 = .ok (.aload_n 0, 1) := by decide +kernel
theorem dL_law_34 : decode cL_law 34 = .ok (.iload 4, 2) := by decide +kernel
theorem dL_law_36 : decode cL_law 36 = .ok (.iaload, 1) := by decide +kernel
theorem dL_law_37 : decode cL_law 37 = .ok (.bipush 63, 2) := by decide +kernel
theorem dL_law_39 : decode cL_law 39 = .ok (.iand, 1) := by decide +kernel
theorem dL_law_40 : decode cL_law 40 = .ok (.tableswitch 1163 0 36 #[164, 237, 262, 275, 288, 356, 393, 430, 455, 492, 517, 542, 579, 592, 617, 630, 655, 680, 693, 706, 731, 744, 757, 770, 783, 796, 864, 889, 914, 951, 1000, 1025, 1050, 1063, 1088, 1113, 1138], 164) := by decide +kernel
theorem dL_law_1209 : decode cL_law 1209 = .ok (.iconst 1, 1) := by decide +kernel
theorem dL_law_1210 : decode cL_law 1210 = .ok (.ireturn, 1) := by decide +kernel
theorem GR_mono {nm np n B : Nat} {L : List Nat} {T : Nat → Int32} {K O S N Hy : kD} {HS : Nat → kD} {BT : Nat → Int32} {P RW : kD} {IO IS IN : Nat → kD} {IK : Nat → Int32} {M : kD} (h : GR nm np n B L T K O S N Hy HS BT P RW IO IS IN IK M) : GR nm np n (B + 96000) L T K O S N Hy HS BT P RW IO IS IN IK M := by
  obtain ⟨h1, h2, h3, h4, h5⟩ := h
  exact ⟨h1, h2, RSH_B (Nat.le_add_right _ _) h3, h4, GK_f h5 (Nat.le_add_right _ _) (fun _ _ => rfl) (fun _ _ => rfl) (fun _ _ => rfl) rfl rfl⟩
set_option maxHeartbeats 8000000 in
set_option maxRecDepth 100000 in
theorem law_loop {p : Program} {l : Launch} {e : Env} {s : State} {m : MethodId} {below : List Frame} {meth : Method} {c : Code} {b L : Nat} {xs : Nat → Int32} {dC : Nat → ClassId} {dI : Nat → Nat → Nat} {cs : Nat → ClassId} {ad : Nat → Nat} (F : LwF p l e s m below meth c b L xs dC dI cs ad) : ∀ n k, 6 * k ≤ L + 5 → L + 6 ≤ 6 * (k + n) → LwH p l e s m below meth c b L xs dC dI cs ad k := by
  intro n
  induction n with
  | zero => intro k h1 h2; omega
  | succ n ih =>
    intro k h1 h2 Z raM xR bq bz q3 nm np nn B bb ba Ln T K O S N Hy HS BT P RW IO IS IN IK M Rd RO RN RB TR D UF VF out H locs ls hG hB hI hP hD hS hl
    obtain ⟨C0, hL, hK, hN, hE, hLn, hTh, hst⟩ := id F
    obtain ⟨hx, hb, hr, hml, hown, hts0, hX, hbl, hlocks, hgv⟩ := C0
    have hA : ∀ q : Nat, s.heap.size ≤ q → (fun q : Nat => s.heap.size ≤ q) q := fun _ h => h
    have hbA : ¬ (fun q : Nat => s.heap.size ≤ q) b := Nat.not_le.mpr hbl
    refine lv_iload hx hb dL_law_23 (lv_at hl 4 rfl) ?_
    refine lv_aload_n hx hb dL_law_25 rfl (lv_at hl 0 rfl) ?_
    refine va_slen hx hb hX hbl hbA hS dL_law_26 ?_
    refine lv_bipush (v := 6) hx hb dL_law_27 (by decide) ?_
    refine lv_isub hx hb dL_law_29 ?_
    have hle : (Int32.ofNat L - 6).toInt = (L : Int) - 6 := pk_sub_toInt (a := L) (b := 6) (by omega) (by decide)
    by_cases hk : 6 * k + 6 ≤ L
    · refine lv_icmp_gt (tgt := 1209) hx hb dL_law_30 (by decide) (fun h => absurd h (by rw [Int32.lt_iff_toInt_lt, hle, nI_toInt (by omega)]; omega)) (fun _ => ?_)
      have kk : LwH p l e s m below meth c b L xs dC dI cs ad (k + 1) := ih (k + 1) (by omega) (by omega)
      refine lv_aload_n hx hb dL_law_33 rfl (lv_at hl 0 rfl) ?_
      refine lv_iload hx hb dL_law_34 (lv_at hl 4 rfl) ?_
      refine va_sld hx hb hX hbl hbA hS (vp_in_nI (n := 6 * k) (by omega) (by omega)) dL_law_36 ?_
      refine lv_bipush (v := 63) hx hb dL_law_37 (by decide) ?_
      refine lv_iand hx hb dL_law_39 ?_
      refine lv_topi (fun y ey => ?_)
      by_cases hs0 : y = 0
      · refine lv_tableIn (off := 164) (tgt := 204) hx hb dL_law_40 (by rw [hs0]; decide) (by rw [hs0]; decide) (by rw [hs0]; decide +kernel) (by decide) ?_
        exact law_c0 F hk kk hG hB hI hP hD hS hl
      by_cases hs1 : y = 1
      · refine lv_tableIn (off := 237) (tgt := 277) hx hb dL_law_40 (by rw [hs1]; decide) (by rw [hs1]; decide) (by rw [hs1]; decide +kernel) (by decide) ?_
        exact law_c1 F hk kk hG hB hI hP hD hS hl
      by_cases hs2 : y = 2
      · refine lv_tableIn (off := 262) (tgt := 302) hx hb dL_law_40 (by rw [hs2]; decide) (by rw [hs2]; decide) (by rw [hs2]; decide +kernel) (by decide) ?_
        exact law_c2 F hk kk hG hB hI hP hD hS hl
      by_cases hs3 : y = 3
      · refine lv_tableIn (off := 275) (tgt := 315) hx hb dL_law_40 (by rw [hs3]; decide) (by rw [hs3]; decide) (by rw [hs3]; decide +kernel) (by decide) ?_
        exact law_c3 F hk kk hG hB hI hP hD hS hl
      by_cases hs4 : y = 4
      · refine lv_tableIn (off := 288) (tgt := 328) hx hb dL_law_40 (by rw [hs4]; decide) (by rw [hs4]; decide) (by rw [hs4]; decide +kernel) (by decide) ?_
        exact law_c4 F hk kk hG hB hI hP hD hS hl
      by_cases hs5 : y = 5
      · refine lv_tableIn (off := 356) (tgt := 396) hx hb dL_law_40 (by rw [hs5]; decide) (by rw [hs5]; decide) (by rw [hs5]; decide +kernel) (by decide) ?_
        exact law_c5 F hk kk hG hB hI hP hD hS hl
      by_cases hs6 : y = 6
      · refine lv_tableIn (off := 393) (tgt := 433) hx hb dL_law_40 (by rw [hs6]; decide) (by rw [hs6]; decide) (by rw [hs6]; decide +kernel) (by decide) ?_
        exact law_c6 F hk kk hG hB hI hP hD hS hl
      by_cases hs7 : y = 7
      · refine lv_tableIn (off := 430) (tgt := 470) hx hb dL_law_40 (by rw [hs7]; decide) (by rw [hs7]; decide) (by rw [hs7]; decide +kernel) (by decide) ?_
        exact law_c7 F hk kk hG hB hI hP hD hS hl
      by_cases hs8 : y = 8
      · refine lv_tableIn (off := 455) (tgt := 495) hx hb dL_law_40 (by rw [hs8]; decide) (by rw [hs8]; decide) (by rw [hs8]; decide +kernel) (by decide) ?_
        exact law_c8 F hk kk hG hB hI hP hD hS hl
      by_cases hs9 : y = 9
      · refine lv_tableIn (off := 492) (tgt := 532) hx hb dL_law_40 (by rw [hs9]; decide) (by rw [hs9]; decide) (by rw [hs9]; decide +kernel) (by decide) ?_
        exact law_c9 F hk kk hG hB hI hP hD hS hl
      by_cases hs10 : y = 10
      · refine lv_tableIn (off := 517) (tgt := 557) hx hb dL_law_40 (by rw [hs10]; decide) (by rw [hs10]; decide) (by rw [hs10]; decide +kernel) (by decide) ?_
        exact law_c10 F hk kk hG hB hI hP hD hS hl
      by_cases hs11 : y = 11
      · refine lv_tableIn (off := 542) (tgt := 582) hx hb dL_law_40 (by rw [hs11]; decide) (by rw [hs11]; decide) (by rw [hs11]; decide +kernel) (by decide) ?_
        exact law_c11 F hk kk hG hB hI hP hD hS hl
      by_cases hs12 : y = 12
      · refine lv_tableIn (off := 579) (tgt := 619) hx hb dL_law_40 (by rw [hs12]; decide) (by rw [hs12]; decide) (by rw [hs12]; decide +kernel) (by decide) ?_
        exact law_c12 F hk kk hG hB hI hP hD hS hl
      by_cases hs13 : y = 13
      · refine lv_tableIn (off := 592) (tgt := 632) hx hb dL_law_40 (by rw [hs13]; decide) (by rw [hs13]; decide) (by rw [hs13]; decide +kernel) (by decide) ?_
        exact law_c13 F hk kk hG hB hI hP hD hS hl
      by_cases hs14 : y = 14
      · refine lv_tableIn (off := 617) (tgt := 657) hx hb dL_law_40 (by rw [hs14]; decide) (by rw [hs14]; decide) (by rw [hs14]; decide +kernel) (by decide) ?_
        exact law_c14 F hk kk hG hB hI hP hD hS hl
      by_cases hs15 : y = 15
      · refine lv_tableIn (off := 630) (tgt := 670) hx hb dL_law_40 (by rw [hs15]; decide) (by rw [hs15]; decide) (by rw [hs15]; decide +kernel) (by decide) ?_
        exact law_c15 F hk kk hG hB hI hP hD hS hl
      by_cases hs16 : y = 16
      · refine lv_tableIn (off := 655) (tgt := 695) hx hb dL_law_40 (by rw [hs16]; decide) (by rw [hs16]; decide) (by rw [hs16]; decide +kernel) (by decide) ?_
        exact law_c16 F hk kk hG hB hI hP hD hS hl
      by_cases hs17 : y = 17
      · refine lv_tableIn (off := 680) (tgt := 720) hx hb dL_law_40 (by rw [hs17]; decide) (by rw [hs17]; decide) (by rw [hs17]; decide +kernel) (by decide) ?_
        exact law_c17 F hk kk hG hB hI hP hD hS hl
      by_cases hs18 : y = 18
      · refine lv_tableIn (off := 693) (tgt := 733) hx hb dL_law_40 (by rw [hs18]; decide) (by rw [hs18]; decide) (by rw [hs18]; decide +kernel) (by decide) ?_
        exact law_c18 F hk kk hG hB hI hP hD hS hl
      by_cases hs19 : y = 19
      · refine lv_tableIn (off := 706) (tgt := 746) hx hb dL_law_40 (by rw [hs19]; decide) (by rw [hs19]; decide) (by rw [hs19]; decide +kernel) (by decide) ?_
        exact law_c19 F hk kk hG hB hI hP hD hS hl
      by_cases hs20 : y = 20
      · refine lv_tableIn (off := 731) (tgt := 771) hx hb dL_law_40 (by rw [hs20]; decide) (by rw [hs20]; decide) (by rw [hs20]; decide +kernel) (by decide) ?_
        exact law_c20 F hk kk hG hB hI hP hD hS hl
      by_cases hs21 : y = 21
      · refine lv_tableIn (off := 744) (tgt := 784) hx hb dL_law_40 (by rw [hs21]; decide) (by rw [hs21]; decide) (by rw [hs21]; decide +kernel) (by decide) ?_
        exact law_c21 F hk kk hG hB hI hP hD hS hl
      by_cases hs22 : y = 22
      · refine lv_tableIn (off := 757) (tgt := 797) hx hb dL_law_40 (by rw [hs22]; decide) (by rw [hs22]; decide) (by rw [hs22]; decide +kernel) (by decide) ?_
        exact law_c22 F hk kk hG hB hI hP hD hS hl
      by_cases hs23 : y = 23
      · refine lv_tableIn (off := 770) (tgt := 810) hx hb dL_law_40 (by rw [hs23]; decide) (by rw [hs23]; decide) (by rw [hs23]; decide +kernel) (by decide) ?_
        exact law_c23 F hk kk hG hB hI hP hD hS hl
      by_cases hs24 : y = 24
      · refine lv_tableIn (off := 783) (tgt := 823) hx hb dL_law_40 (by rw [hs24]; decide) (by rw [hs24]; decide) (by rw [hs24]; decide +kernel) (by decide) ?_
        exact law_c24 F hk kk hG hB hI hP hD hS hl
      by_cases hs25 : y = 25
      · refine lv_tableIn (off := 796) (tgt := 836) hx hb dL_law_40 (by rw [hs25]; decide) (by rw [hs25]; decide) (by rw [hs25]; decide +kernel) (by decide) ?_
        exact law_c25 F hk kk hG hB hI hP hD hS hl
      by_cases hs26 : y = 26
      · refine lv_tableIn (off := 864) (tgt := 904) hx hb dL_law_40 (by rw [hs26]; decide) (by rw [hs26]; decide) (by rw [hs26]; decide +kernel) (by decide) ?_
        exact law_c26 F hk kk hG hB hI hP hD hS hl
      by_cases hs27 : y = 27
      · refine lv_tableIn (off := 889) (tgt := 929) hx hb dL_law_40 (by rw [hs27]; decide) (by rw [hs27]; decide) (by rw [hs27]; decide +kernel) (by decide) ?_
        exact law_c27 F hk kk hG hB hI hP hD hS hl
      by_cases hs28 : y = 28
      · refine lv_tableIn (off := 914) (tgt := 954) hx hb dL_law_40 (by rw [hs28]; decide) (by rw [hs28]; decide) (by rw [hs28]; decide +kernel) (by decide) ?_
        exact law_c28 F hk kk hG hB hI hP hD hS hl
      by_cases hs29 : y = 29
      · refine lv_tableIn (off := 951) (tgt := 991) hx hb dL_law_40 (by rw [hs29]; decide) (by rw [hs29]; decide) (by rw [hs29]; decide +kernel) (by decide) ?_
        exact law_c29 F hk kk hG hB hI hP hD hS hl
      by_cases hs30 : y = 30
      · refine lv_tableIn (off := 1000) (tgt := 1040) hx hb dL_law_40 (by rw [hs30]; decide) (by rw [hs30]; decide) (by rw [hs30]; decide +kernel) (by decide) ?_
        exact law_c30 F hk kk hG hB hI hP hD hS hl
      by_cases hs31 : y = 31
      · refine lv_tableIn (off := 1025) (tgt := 1065) hx hb dL_law_40 (by rw [hs31]; decide) (by rw [hs31]; decide) (by rw [hs31]; decide +kernel) (by decide) ?_
        exact law_c31 F hk kk hG hB hI hP hD hS hl
      by_cases hs32 : y = 32
      · refine lv_tableIn (off := 1050) (tgt := 1090) hx hb dL_law_40 (by rw [hs32]; decide) (by rw [hs32]; decide) (by rw [hs32]; decide +kernel) (by decide) ?_
        exact law_c32 F hk kk hG hB hI hP hD hS hl
      by_cases hs33 : y = 33
      · refine lv_tableIn (off := 1063) (tgt := 1103) hx hb dL_law_40 (by rw [hs33]; decide) (by rw [hs33]; decide) (by rw [hs33]; decide +kernel) (by decide) ?_
        exact law_c33 F hk kk hG hB hI hP hD hS hl
      by_cases hs34 : y = 34
      · refine lv_tableIn (off := 1088) (tgt := 1128) hx hb dL_law_40 (by rw [hs34]; decide) (by rw [hs34]; decide) (by rw [hs34]; decide +kernel) (by decide) ?_
        exact law_c34 F hk kk hG hB hI hP hD hS hl
      by_cases hs35 : y = 35
      · refine lv_tableIn (off := 1113) (tgt := 1153) hx hb dL_law_40 (by rw [hs35]; decide) (by rw [hs35]; decide) (by rw [hs35]; decide +kernel) (by decide) ?_
        exact law_c35 F hk kk hG hB hI hP hD hS hl
      by_cases hs36 : y = 36
      · refine lv_tableIn (off := 1138) (tgt := 1178) hx hb dL_law_40 (by rw [hs36]; decide) (by rw [hs36]; decide) (by rw [hs36]; decide +kernel) (by decide) ?_
        exact law_c36 F hk kk hG hB hI hP hD hS hl
      have hout : y.toInt < 0 ∨ 36 < y.toInt := by
        by_cases hr9 : y.toInt < 0 ∨ 36 < y.toInt
        · exact hr9
        exfalso
        obtain ⟨j, hj, rfl⟩ : ∃ j : Nat, j < 37 ∧ y = nI j := ⟨y.toInt.toNat, by omega, by rw [← Int32.toInt_inj, nI_toInt (by omega)]; omega⟩
        have hc : j = 0 ∨ j = 1 ∨ j = 2 ∨ j = 3 ∨ j = 4 ∨ j = 5 ∨ j = 6 ∨ j = 7 ∨ j = 8 ∨ j = 9 ∨ j = 10 ∨ j = 11 ∨ j = 12 ∨ j = 13 ∨ j = 14 ∨ j = 15 ∨ j = 16 ∨ j = 17 ∨ j = 18 ∨ j = 19 ∨ j = 20 ∨ j = 21 ∨ j = 22 ∨ j = 23 ∨ j = 24 ∨ j = 25 ∨ j = 26 ∨ j = 27 ∨ j = 28 ∨ j = 29 ∨ j = 30 ∨ j = 31 ∨ j = 32 ∨ j = 33 ∨ j = 34 ∨ j = 35 ∨ j = 36 := by omega
        rcases hc with rfl | rfl | rfl | rfl | rfl | rfl | rfl | rfl | rfl | rfl | rfl | rfl | rfl | rfl | rfl | rfl | rfl | rfl | rfl | rfl | rfl | rfl | rfl | rfl | rfl | rfl | rfl | rfl | rfl | rfl | rfl | rfl | rfl | rfl | rfl | rfl | rfl
        · exact hs0 rfl
        · exact hs1 rfl
        · exact hs2 rfl
        · exact hs3 rfl
        · exact hs4 rfl
        · exact hs5 rfl
        · exact hs6 rfl
        · exact hs7 rfl
        · exact hs8 rfl
        · exact hs9 rfl
        · exact hs10 rfl
        · exact hs11 rfl
        · exact hs12 rfl
        · exact hs13 rfl
        · exact hs14 rfl
        · exact hs15 rfl
        · exact hs16 rfl
        · exact hs17 rfl
        · exact hs18 rfl
        · exact hs19 rfl
        · exact hs20 rfl
        · exact hs21 rfl
        · exact hs22 rfl
        · exact hs23 rfl
        · exact hs24 rfl
        · exact hs25 rfl
        · exact hs26 rfl
        · exact hs27 rfl
        · exact hs28 rfl
        · exact hs29 rfl
        · exact hs30 rfl
        · exact hs31 rfl
        · exact hs32 rfl
        · exact hs33 rfl
        · exact hs34 rfl
        · exact hs35 rfl
        · exact hs36 rfl
      refine lv_tableOut (tgt := 1203) hx hb dL_law_40 hout (by decide) ?_
      exact law_next F hk kk (GR_mono hG) (by omega) hI hP hD hS hl (by omega) (by omega)
    · refine lv_icmp_gt (tgt := 1209) hx hb dL_law_30 (by decide) (fun _ => ?_) (fun h => absurd (by rw [Int32.lt_iff_toInt_lt, hle, nI_toInt (by omega)]; omega) h)
      refine lv_iconst (v := 1) hx hb dL_law_1209 (by decide) ?_
      refine va_forget (fun q hq => hS.2.2 q hq) ?_
      refine W.widen (k := 601024) (n := 7293034) (by omega) (by omega) ?_
      exact lw_ret hx hb hr hlocks dL_law_1210
