/-! what the Statement gives of the start -/
set_option maxRecDepth 100000 in
theorem st_t1 : ∀ i, i < 22 → Cond.laysStatic "KeyLetters$Word" (wNm.getD i "") "LKeyLetters$Word;" ∈ lw_tbl := by decide +kernel
set_option maxRecDepth 100000 in
theorem st_t2 : Cond.initialized "KeyLetters$Word" ∈ lw_tbl ∧ Cond.laysStatic "KeyLetters$Reader" "WORDS" "[LKeyLetters$Word;" ∈ lw_tbl ∧ Cond.initialized "KeyLetters$Reader" ∈ lw_tbl ∧ Cond.laysStatic "java/lang/String" "COMPACT_STRINGS" "Z" ∈ lw_tbl ∧ Cond.initialized "java/lang/String" ∈ lw_tbl := by decide +kernel
set_option maxRecDepth 100000 in
theorem st_t3 : Cond.laysStatic "jdk/internal/util/Preconditions" "SIOOBE_FORMATTER" "Ljava/util/function/BiFunction;" ∈ lw_tbl ∧ Cond.initialized "jdk/internal/util/Preconditions" ∈ lw_tbl ∧ Cond.laysStatic "java/lang/Integer" "DigitOnes" "[B" ∈ lw_tbl ∧ Cond.laysStatic "java/lang/Integer" "DigitTens" "[B" ∈ lw_tbl ∧ Cond.initialized "java/lang/Integer" ∈ lw_tbl := by decide +kernel
set_option maxRecDepth 100000 in
theorem st_t4 : Cond.laysStatic "java/lang/Throwable" "UNASSIGNED_STACK" "[Ljava/lang/StackTraceElement;" ∈ lw_tbl ∧ Cond.laysStatic "java/lang/Throwable" "SUPPRESSED_SENTINEL" "Ljava/util/List;" ∈ lw_tbl ∧ Cond.initialized "java/lang/Throwable" ∈ lw_tbl ∧ Cond.castable "java/util/NoSuchElementException" "java/util/NoSuchElementException" ∈ lw_tbl := by decide +kernel
set_option maxRecDepth 100000 in
theorem st_t5 : Cond.arrayOver (.object "KeyLetters$Word") ∈ lw_tbl ∧ Cond.arrayOver (.object "KeyLetters$State") ∈ lw_tbl ∧ Cond.arrayOver (.object "KeyLetters$Scene") ∈ lw_tbl ∧ Cond.arrayOver (.array .int) ∈ lw_tbl ∧ Cond.arrayClass .byte ∈ lw_tbl ∧ Cond.arrayClass .int ∈ lw_tbl ∧ Cond.arrayClass .long ∈ lw_tbl ∧ Cond.arrayClass .boolean ∈ lw_tbl := by decide +kernel
set_option maxRecDepth 100000 in
theorem st_t7 : Cond.declares ⟨"java/lang/RuntimeException", "<init>", "()V"⟩ ∈ lw_tbl ∧ Cond.declares ⟨"java/lang/Exception", "<init>", "()V"⟩ ∈ lw_tbl ∧ Cond.declares ⟨"java/lang/Throwable", "<init>", "()V"⟩ ∈ lw_tbl := by decide +kernel
theorem inlX1 : ∀ w ∈ wsX10, w ∈ wsL_law := fun _ h => List.mem_append_left _ (List.mem_append_left _ (List.mem_append_left _ (List.mem_append_left _ (List.mem_append_left _ (List.mem_append_right _ h)))))
section ST
variable {args : Array Value} {s : State} {A : Nat → Prop}
theorem st_kC (hs : ∀ w ∈ flatC stG, w.before args s = true) (ht : ∀ w ∈ lw_tbl, w.before args s = true) (hA : ∀ a : Nat, a < s.heap.size → ¬ A a) : kC A s s.heap := by
  obtain ⟨aO, eO, hO⟩ := va_Tof (tm := stOn) (ty := .byte) (N := 100) (f := fun j => .int (Int32.ofNat (48 + j % 10))) (A := A) (by decide) (hs _ st_j.1) (va_eqt (hs _ st_j.2.1)) (fun j hj => va_eqt (hs _ (st_jo j hj))) hA
  obtain ⟨aD, eD, hD⟩ := va_Tof (tm := stDt) (ty := .byte) (N := 100) (f := fun j => .int (Int32.ofNat (48 + j / 10))) (A := A) (by decide) (hs _ st_j.2.2.1) (va_eqt (hs _ st_j.2.2.2)) (fun j hj => va_eqt (hs _ (st_jd j hj))) hA
  exact ⟨va_Zof (ht _ st_t2.2.2.2.1) (ht _ st_t2.2.2.2.2) (va_eqt (hs _ st_h.1)) hA, va_Zqof (ht _ st_t3.1) (ht _ st_t3.2.1) (hs _ st_h.2.1) hA, ⟨aO, va_Zref (ht _ st_t3.2.2.1) (ht _ st_t3.2.2.2.2) eO hA, hO⟩, aD, va_Zref (ht _ st_t3.2.2.2.1) (ht _ st_t3.2.2.2.2) eD hA, hD⟩
theorem st_kE (hs : ∀ w ∈ flatC stG, w.before args s = true) (ht : ∀ w ∈ lw_tbl, w.before args s = true) (hA : ∀ a : Nat, a < s.heap.size → ¬ A a) : ∃ ad : Nat → Nat, kE ad A s s.heap := by
  have h0 : ∀ i : Nat, ∃ t : Nat, i < 22 → (stT i).eval args s none [] s = some (.ref t) ∧ va_O "KeyLetters$Word" t A s s.heap := by
    intro i
    by_cases hi : i < 22
    · obtain ⟨a, c, cell, k, q1, q2, q3, q4, q5, q6, -⟩ := Cond.exactly_spec (hs _ (st_f1 i hi))
      exact ⟨a, fun _ => ⟨q1, cell, q3, q5, by rw [q6]; exact q2, hA a (Array.getElem?_eq_some_iff.mp q3).1⟩⟩
    · exact ⟨0, fun h => absurd h hi⟩
  have h1 : ∀ i : Nat, ∃ q : Nat × Nat, i < 22 → (stS i).eval args s none [] s = some (.ref q.1) ∧ va_O "java/lang/String" q.1 A s s.heap ∧ va_OF "java/lang/String" "coder" "B" (.int 0) q.1 A s s.heap ∧ va_OF "java/lang/String" "value" "[B" (.ref q.2) q.1 A s s.heap ∧ va_T .byte q.2 (wLn i) (fun j => .int (wCh i j)) A s s.heap := by
    intro i
    by_cases hi : i < 22
    · obtain ⟨k1, k2, k3, k4⟩ := st_f5 i hi
      obtain ⟨a, c, cell, k, q1, q2, q3, q4, q5, q6, -⟩ := Cond.exactly_spec (hs _ k1)
      obtain ⟨t, hte, hT⟩ := va_Tof (f := fun j => .int (wCh i j)) (A := A) (Nat.lt_trans (w_len i hi).1 (by decide)) (hs _ k3) (va_eqt (hs _ k4)) (fun j hj => va_eqt (hs _ (st_f9 i hi j hj))) hA
      exact ⟨(a, t), fun _ => ⟨q1, ⟨cell, q3, q5, by rw [q6]; exact q2, hA a (Array.getElem?_eq_some_iff.mp q3).1⟩, vk_OFof q1 (va_eqt (hs _ k2)) hA, vk_OFof q1 hte hA, hT⟩⟩
    · exact ⟨(0, 0), fun h => absurd h hi⟩
  obtain ⟨ad, had⟩ := Classical.axiomOfChoice h0
  obtain ⟨tx, htx⟩ := Classical.axiomOfChoice h1
  obtain ⟨aW, eW, hW⟩ := va_Tof (tm := stW) (ty := .object "KeyLetters$Word") (N := 22) (f := fun j => .ref (ad j)) (A := A) (by decide) (hs _ st_g1.1) (va_eqt (hs _ st_g1.2)) (fun j hj => va_eqv (hs _ (st_g3 j hj)) (had j hj).1) hA
  have hc := st_kC hs ht hA
  refine ⟨ad, ⟨fun i hi => ⟨va_Zref (ht _ (st_t1 i hi)) (ht _ st_t2.1) (had i hi).1 hA, (had i hi).2, fun q hq => ?_⟩, fun i j hi hj e => ?_⟩, fun i => (tx i).1, fun i => (tx i).2, aW, fun i hi => ⟨vk_OFof (had i hi).1 (va_eqv (hs _ (st_f4 i hi)) (htx i hi).1) hA, (htx i hi).2.1, (htx i hi).2.2.1, (htx i hi).2.2.2.1, (htx i hi).2.2.2.2⟩, va_Zref (ht _ st_t2.2.1) (ht _ st_t2.2.2.1) eW hA, hW, hc.1, hc.2⟩
  · obtain rfl := List.mem_singleton.mp hq
    exact vk_OFof (had i hi).1 (va_eqt (hs _ (st_f3 i hi))) hA
  · have hi : i < 22 := hi
    have hj : j < 22 := hj
    have v1 := va_eqt (hs _ (st_f2 i hi))
    have v2 := va_eqt (hs _ (st_f2 j hj))
    rw [va_fe (had i hi).1] at v1
    rw [va_fe (had j hj).1, ← e] at v2
    have v3 := Value.int.inj (Option.some.inj (v1.symm.trans v2))
    exact (nI_eq (by omega) (by omega)).mp v3
theorem st_str (hs : ∀ w ∈ flatC stG, w.before args s = true) (ht : ∀ w ∈ lw_tbl, w.before args s = true) (hA : ∀ a : Nat, a < s.heap.size → ¬ A a) {k : Nat} {tx : String} {t : List Nat} (h0 : Cond.stringRef "KeyLetters" k tx ∈ lw_tbl) (h1 : Cond.exactly (.string "KeyLetters" k) "java/lang/String" ∈ flatC stG ∧ Cond.eq (.field (.string "KeyLetters" k) "java/lang/String" "coder" "B") (.int 0) ∈ flatC stG ∧ Cond.arrayOf (stV (.string "KeyLetters" k)) .byte ∈ flatC stG ∧ Cond.eq (.length (stV (.string "KeyLetters" k))) (.int (Int32.ofNat t.length)) ∈ flatC stG) (hl : t.length < 2 ^ 31) (h2 : ∀ j, j < t.length → Cond.eq (.elem (stV (.string "KeyLetters" k)) (.int (Int32.ofNat j))) (.int (sb_b (t.getD j 0))) ∈ flatC stG) : ∃ a v, kLn1 k tx t a v A s s.heap := by
  obtain ⟨k1, k2, k3, k4⟩ := h1
  obtain ⟨a, c, cell, kk, q1, q2, q3, q4, q5, q6, -⟩ := Cond.exactly_spec (hs _ k1)
  obtain ⟨v, hte, hT⟩ := va_Tof (f := fun j => .int (sb_b (t.getD j 0))) (A := A) hl (hs _ k3) (va_eqt (hs _ k4)) (fun j hj => va_eqt (hs _ (h2 j hj))) hA
  exact ⟨a, v, vk_R.of (ht _ h0) q1, ⟨cell, q3, q5, by rw [q6]; exact q2, hA a (Array.getElem?_eq_some_iff.mp q3).1⟩, vk_OFof q1 (va_eqt (hs _ k2)) hA, vk_OFof q1 hte hA, hT, st_kC hs ht hA⟩
set_option maxRecDepth 100000 in
theorem st_kLn (hs : ∀ w ∈ flatC stG, w.before args s = true) (ht : ∀ w ∈ lw_tbl, w.before args s = true) (hA : ∀ a : Nat, a < s.heap.size → ¬ A a) : kLn A s s.heap := by
  obtain ⟨aw, vw, h1⟩ := st_str (A := A) hs ht hA (k := 327) (tx := " wrote ") (t := [32, 119, 114, 111, 116, 101, 32]) (by decide +kernel) st_c327 (by decide) (fun j hj => st_d327 j hj)
  obtain ⟨ai, vi, h2⟩ := st_str (A := A) hs ht hA (k := 336) (tx := " ink ") (t := [32, 105, 110, 107, 32]) (by decide +kernel) st_c336 (by decide) (fun j hj => st_d336 j hj)
  obtain ⟨ah, vh, h3⟩ := st_str (A := A) hs ht hA (k := 338) (tx := " held") (t := [32, 104, 101, 108, 100]) (by decide +kernel) st_c338 (by decide) (fun j hj => st_d338 j hj)
  exact ⟨aw, vw, ai, vi, ah, vh, h1, h2, h3⟩
theorem st_kN (ht : ∀ w ∈ lw_tbl, w.before args s = true) : kN s := by
  intro w hw
  have h1 := ht w (st_t6 w hw)
  rcases nestWs_ok w hw with ⟨a, i, b, n, d, q, rfl⟩ | ⟨a, i, x, q, rfl⟩
  · exact va_Nw.of rfl h1
  · exact va_Nw.of rfl h1
theorem st_kTh (hs : ∀ w ∈ flatC stG, w.before args s = true) (ht : ∀ w ∈ lw_tbl, w.before args s = true) (hA : ∀ a : Nat, a < s.heap.size → ¬ A a) : kTh A s s.heap :=
  ⟨⟨va_Nw.of rfl (ht _ st_t4.2.2.2), va_Nw.of rfl (ht _ st_t7.1), va_Nw.of rfl (ht _ st_t7.2.1), va_Nw.of rfl (ht _ st_t7.2.2)⟩, vx_Zqof (ht _ st_t4.1) (ht _ st_t4.2.2.1) (hs _ st_h.2.2.1) hA, vx_Zqof (ht _ st_t4.2.1) (ht _ st_t4.2.2.1) (hs _ st_h.2.2.2) hA⟩
theorem st_kAO (ht : ∀ w ∈ lw_tbl, w.before args s = true) : kAO s ∧ kAA .int s := ⟨⟨va_AO.of (ht _ st_t5.1), va_AO.of (ht _ st_t5.2.1), va_AO.of (ht _ st_t5.2.2.1)⟩, (show (Cond.arrayOver (.array .int)).before args s = true from ht _ st_t5.2.2.2.1)⟩
theorem st_arr {ty : FieldType} (h : (Cond.arrayClass ty).before args s = true) : ∃ c, ArrOfT s c ty ∧ s.vm.findClass ("[" ++ ty.toString) = some c := by
  obtain ⟨c, k, comp, h1, h2, h3⟩ := Cond.arrayClass_spec h
  exact ⟨c, fun n z => ⟨fun k h => (by cases h), k, h2, comp, h3⟩, h1⟩
theorem st_arq {C : String} (h : (Cond.arrayOver (.object C)).before args s = true) : ∃ c, ArrOfT s c (.object C) ∧ va_RA s c (.object C) := by
  obtain ⟨comp, c, k, h1, h2, h3, h4, h5⟩ := Cond.arrayOver_spec h
  exact ⟨c, fun n z => ⟨fun k h => (by cases h), k, h3, comp, h4⟩, k, comp, h3, h4, h1, h5⟩
theorem st_arA {t : FieldType} (h : (Cond.arrayOver (.array t)).before args s = true) : ∃ c, ArrOfT s c (.array t) ∧ s.vm.findClass ("[" ++ (FieldType.array t).toString) = some c := by
  obtain ⟨comp, c, k, h1, h2, h3, h4, h5⟩ := arrayOverA_spec h
  exact ⟨c, fun n z => ⟨fun k h => (by cases h), k, h3, comp, h4⟩, h5⟩
theorem st_cs (ht : ∀ w ∈ lw_tbl, w.before args s = true) : ∃ cs : Nat → ClassId, ∀ (k : Nat) (q : ClassId × FieldType), (ct cs)[k]? = some q → ArrOfT s q.1 q.2 ∧ va_RA s q.1 q.2 := by
  obtain ⟨t1, t2, t3, t4, t5, t6, t7, t8⟩ := st_t5
  obtain ⟨c0, a0, b0⟩ := st_arr (ht _ t5)
  obtain ⟨c1, a1, b1⟩ := st_arr (ht _ t6)
  obtain ⟨c2, a2, b2⟩ := st_arr (ht _ t7)
  obtain ⟨c3, a3, b3⟩ := st_arr (ht _ t8)
  obtain ⟨c4, a4, b4⟩ := st_arq (ht _ t1)
  obtain ⟨c5, a5, b5⟩ := st_arq (ht _ t2)
  obtain ⟨c6, a6, b6⟩ := st_arq (ht _ t3)
  obtain ⟨c7, a7, b7⟩ := st_arA (ht _ t4)
  refine ⟨fun k => match k with | 0 => c0 | 1 => c1 | 2 => c2 | 3 => c3 | 4 => c4 | 5 => c5 | 6 => c6 | _ => c7, fun k q h => ?_⟩
  match k, h with
  | 0, h => cases h; exact ⟨a0, b0⟩
  | 1, h => cases h; exact ⟨a1, b1⟩
  | 2, h => cases h; exact ⟨a2, b2⟩
  | 3, h => cases h; exact ⟨a3, b3⟩
  | 4, h => cases h; exact ⟨a4, b4⟩
  | 5, h => cases h; exact ⟨a5, b5⟩
  | 6, h => cases h; exact ⟨a6, b6⟩
  | 7, h => cases h; exact ⟨a7, b7⟩
  | k + 8, h => simp [ct] at h
set_option maxRecDepth 100000 in
theorem st_known (ht : ∀ w ∈ wsL_law, w.before args s = true) : ∃ (dC : Nat → ClassId) (dI : Nat → Nat → Nat), ∀ (k : Nat) (q : vw_C), vwCl[k]? = some q → u_Kn s q.1 q.2.1 q.2.2 (dC k) (dI k) := by
  obtain ⟨c0, i0, h0⟩ := u_known (C := RJ4) (T := TJ4) (N := 4) (n := 4) ht inlJ4 (ht (.instantiable RJ4 4) (by decide +kernel))
  obtain ⟨c1, i1, h1⟩ := u_known (C := RX0) (T := TX0) (N := 6) (n := 6) ht inlX0 (ht (.instantiable RX0 6) (by decide +kernel))
  obtain ⟨c2, i2, h2⟩ := u_known (C := RX1) (T := TX1) (N := 1) (n := 1) ht inlX1 (ht (.instantiable RX1 1) (by decide +kernel))
  obtain ⟨c3, i3, h3⟩ := u_known (C := RX2) (T := TX2) (N := 3) (n := 3) ht inlX2 (ht (.instantiable RX2 3) (by decide +kernel))
  obtain ⟨c4, i4, h4⟩ := u_known (C := RX3) (T := TX3) (N := 11) (n := 11) ht inlX3 (ht (.instantiable RX3 11) (by decide +kernel))
  obtain ⟨c5, i5, h5⟩ := u_known (C := RX4) (T := TX4) (N := 11) (n := 11) ht inlX4 (ht (.instantiable RX4 11) (by decide +kernel))
  obtain ⟨c6, i6, h6⟩ := u_known (C := RX5) (T := TX5) (N := 4) (n := 4) ht inlX5 (ht (.instantiable RX5 4) (by decide +kernel))
  obtain ⟨c7, i7, h7⟩ := u_known (C := RX6) (T := TX6) (N := 5) (n := 5) ht inlX6 (ht (.instantiable RX6 5) (by decide +kernel))
  obtain ⟨c8, i8, h8⟩ := u_known (C := RX7) (T := TX7) (N := 3) (n := 3) ht inlX7 (ht (.instantiable RX7 3) (by decide +kernel))
  obtain ⟨c9, i9, h9⟩ := u_known (C := RX8) (T := TX8) (N := 6) (n := 6) ht inlX8 (ht (.instantiable RX8 6) (by decide +kernel))
  obtain ⟨c10, i10, h10⟩ := u_known (C := RX9) (T := TX9) (N := 9) (n := 9) ht inlX9 (ht (.instantiable RX9 9) (by decide +kernel))
  obtain ⟨c11, i11, h11⟩ := u_known (C := RX11) (T := TX11) (N := 19) (n := 19) ht inlX11 (ht (.instantiable RX11 19) (by decide +kernel))
  obtain ⟨c12, i12, h12⟩ := u_known (C := RX12) (T := TX12) (N := 49) (n := 49) ht inlX12 (ht (.instantiable RX12 49) (by decide +kernel))
  refine ⟨fun k => match k with | 0 => c0 | 1 => c1 | 2 => c2 | 3 => c3 | 4 => c4 | 5 => c5 | 6 => c6 | 7 => c7 | 8 => c8 | 9 => c9 | 10 => c10 | 11 => c11 | _ => c12, fun k => match k with | 0 => i0 | 1 => i1 | 2 => i2 | 3 => i3 | 4 => i4 | 5 => i5 | 6 => i6 | 7 => i7 | 8 => i8 | 9 => i9 | 10 => i10 | 11 => i11 | _ => i12, fun k q h => ?_⟩
  match k, h with
  | 0, h => cases h; exact h0
  | 1, h => cases h; exact h1
  | 2, h => cases h; exact h2
  | 3, h => cases h; exact h3
  | 4, h => cases h; exact h4
  | 5, h => cases h; exact h5
  | 6, h => cases h; exact h6
  | 7, h => cases h; exact h7
  | 8, h => cases h; exact h8
  | 9, h => cases h; exact h9
  | 10, h => cases h; exact h10
  | 11, h => cases h; exact h11
  | 12, h => cases h; exact h12
  | k + 13, h => simp [vwCl] at h
end ST
