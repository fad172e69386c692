/-! machine-free: acts -/
def MX (M M' : kD) : Prop := M'.2 = M.2 ∧ (∀ b, b ≠ 0 → b ≠ 6 → b ≠ 20 → b ≠ 21 → M'.1 b = M.1 b) ∧ (∀ k, k ≠ 0 → k ≠ 22 → k ≠ 35 → M'.1 0 k = M.1 0 k) ∧ (∀ k, k < 39 → M'.1 6 k = M.1 6 k) ∧ (∀ k, 98 ≤ k → M'.1 6 k = M.1 6 k)
def RSH (nm np B : Nat) (S Hy : kD) (HS : Nat → kD) (M : kD) : Prop := ∃ d lt w h u o, d ≤ 400 ∧ RS nm np d lt w h B S (M.1 6) ∧ RH nm np B u o Hy HS (M.1 20) ∧ M.1 0 22 = nI u
theorem RH_B {nm np B B' u o : Nat} {Hy : kD} {HS : Nat → kD} {un : Nat → Int32} (hB : B ≤ B') (h : RH nm np B u o Hy HS un) : RH nm np B' u o Hy HS un := by
  obtain ⟨h1, h2, h3, h4, h5⟩ := h
  refine ⟨h1, h2, h3, h4, fun i hi => ?_⟩
  obtain ⟨d, lt, w, hh, h6, h7⟩ := h5 i hi
  exact ⟨d, lt, w, hh, h6, RS_B hB h7⟩
theorem RSH_B {nm np B B' : Nat} {S Hy M : kD} {HS : Nat → kD} (hB : B ≤ B') (h : RSH nm np B S Hy HS M) : RSH nm np B' S Hy HS M := by
  obtain ⟨d, lt, w, hh, u, o, h1, h2, h3, h4⟩ := h
  exact ⟨d, lt, w, hh, u, o, h1, RS_B hB h2, RH_B hB h3, h4⟩
/-- thrown alone is laid -/
theorem MX_0 (M : kD) (v : Int32) : MX M (kI M 0 0 v) := by
  refine ⟨rfl, fun b h0 _ _ _ => if_neg h0, fun k h0 _ _ => ?_, fun k _ => rfl, fun k _ => rfl⟩
  show upd (M.1 0) 0 v k = _
  exact pk_un h0
theorem RSH_0 {nm np B : Nat} {S Hy M : kD} {HS : Nat → kD} (v : Int32) (h : RSH nm np B S Hy HS M) : RSH nm np B S Hy HS (kI M 0 0 v) := h
/-- kept first, then the row of what is so laid anew -/
theorem MX_k {M : kD} {v w : Int32} {un s' : Nat → Int32} (h1 : ∀ k, k < 39 → s' k = M.1 6 k) (h2 : ∀ k, 98 ≤ k → s' k = M.1 6 k) : MX M (kSI (kI (kSI (kI M 0 0 v) 20 un) 0 22 w) 6 s') := by
  refine ⟨rfl, fun b h0 h6 h20 _ => ?_, fun k h0 h22 _ => ?_, h1, h2⟩
  · show (if b = 6 then s' else if b = 0 then _ else if b = 20 then un else if b = 0 then _ else M.1 b) = _
    rw [if_neg h6, if_neg h0, if_neg h20, if_neg h0]
  · show upd (upd (M.1 0) 0 v) 22 w k = _
    rw [pk_un h22, pk_un h0]
theorem q_write {nm np B : Nat} {O S Hy M K C N : kD} {HS : Nat → kD} (ho : RO nm np O (M.1 6)) (hr : RSH nm np B S Hy HS M) (hB : B ≤ 900000000) (a b : Int32) :
    ∃ v S' Hy' HS' M', f_X11_write a b K C O S N Hy HS = some (v, S', Hy', HS') ∧ f_X12_write a b M = some (v, M') ∧ MX M M' ∧ RSH nm np (B + 40) S' Hy' HS' M' := by
  have hr0 := RSH_B (show B ≤ B + 40 by omega) hr
  obtain ⟨d, lt, w, h, u, o, hd, hs, hH, hu⟩ := hr
  have hn : nm ≤ 6 := ho.1.1
  have hp : np ≤ 8 := ho.1.2
  have e0 : (kI M 0 0 (nI 0)).1 6 0 = nI nm := ho.2.1.1
  have e1 : (kI M 0 0 (nI 0)).1 6 1 = nI np := ho.2.1.2.1
  have e2 : O.1 0 1 = nI nm := ho.2.1.2.2.1
  have e3 : O.1 0 2 = nI np := ho.2.1.2.2.2.1
  unfold f_X11_write f_X11_doOne f_X9_whyNot f_X12_write
  simp (disch := omega) only [↓q_m1, q_lit, ↓q_bd, ↓reduceIte, q_eq, Nat.reduceEqDiff]
  rcases q_mach hn e2 e0 a with ⟨m, hm, rfl, hm1, hm2⟩ | ⟨-, hm1, hm2⟩
  · rw [hm1, hm2, q_bo]
    simp only [q_10, ↓reduceIte]
    rcases q_phr hp e3 e1 b with ⟨q, hq, rfl, hq1, hq2⟩ | ⟨-, hq1, hq2⟩
    · rw [hq2, q_bo]
      obtain ⟨v, hv, h1, h2, h3⟩ := q_why (M := kI M 0 0 (nI 0)) ho hs hm hq
      rw [h1, h2, q_bo, q_bo, q_bo]
      simp (disch := omega) only [q_10, ↓reduceIte, q_eq, q_le, Nat.reduceEqDiff]
      by_cases hv0 : v = 0
      · obtain ⟨Hy', HS', un', u', o', k1, k2, k3, k4, -⟩ := q_keep (M := kI M 0 0 (nI 0)) hn hs hd hH hu
        obtain ⟨c, i, c1, c2, c3, c4, -⟩ := h3 hv0
        obtain ⟨S', s', t1, t2, t3, t4, t5⟩ := q_types (M := kI (kSI (kI M 0 0 (nI 0)) 20 un') 0 22 (nI (u' + 1))) ho hs hm hq (by omega) ⟨c, i, c1, c2, c3, c4⟩
        subst hv0
        rw [if_pos rfl, if_pos (Nat.le_refl 0), k1, k2, q_bo2, q_bo, t2, q_bo]
        unfold f_X9_perform
        simp (disch := omega) only [↓q_m1, q_lit, ↓reduceIte, q_eq, Nat.reduceEqDiff, t1, q_bo]
        exact ⟨_, _, _, _, _, rfl, rfl, MX_k t4 t5, d, q + 1, m + 1, h, u' + 1, o', hd, t3, RH_B (by omega) k3, rfl⟩
      · rw [if_neg hv0, if_neg (by omega)]
        exact ⟨_, _, _, _, _, rfl, rfl, MX_0 M _, hr0⟩
    · rw [hq2, q_bo]
      have : f_X9_whyNotWrite (nI m) b S O = some mI := by
        unfold f_X9_whyNotWrite
        rw [hm1, hq1]
        simp only [↓q_m1, q_lit, q_10, ↓reduceIte]
      rw [this, q_bo, q_bo]
      simp (disch := omega) only [↓reduceIte, q_neg']
      exact ⟨_, _, _, _, _, rfl, rfl, MX_0 M _, hr0⟩
  · rw [hm1, hm2, q_bo]
    simp (disch := omega) only [↓reduceIte, q_bo, q_neg']
    exact ⟨_, _, _, _, _, rfl, rfl, MX_0 M _, hr0⟩
/-- only who sits where has changed -/
theorem RS_held {nm np d lt w h h' B : Nat} {S : kD} {s : Nat → Int32} (hs : RS nm np d lt w h B S s) (hn : nm ≤ 6) (hh : h' < 2 ^ nm) : RS nm np d lt w h' B (kI S 0 3 (nI h')) (upd s 42 (nI h')) := by
  obtain ⟨⟨hd, hlt, hw, hlw, -⟩, ⟨h0, h39, h1, h40, h2, h41, h3, h42, h4⟩, hink, hwr, hle, hdb⟩ := hs
  refine ⟨⟨hd, hlt, hw, hlw, hh⟩, ⟨h0, h39, h1, h40, h2, h41, rfl, rfl, h4⟩, fun m hm => ?_, fun m hm => ?_, fun m hm => ?_, fun i hi => ?_⟩
  · rw [pk_un (by omega)]; exact hink m hm
  · rw [pk_un (by omega)]; exact hwr m hm
  · rw [pk_un (by omega)]; exact hle m hm
  · rw [pk_un (by omega)]; exact hdb i hi
theorem RS_ink {nm np d lt w h B : Nat} {S : kD} {s : Nat → Int32} (hs : RS nm np d lt w h B S s) (hn : nm ≤ 6) {m v : Nat} (hm : m < nm) (hv : v ≤ 999) : RS nm np d lt w h B (kI S 5 m (nI v)) (upd s (44 + m) (nI v)) := by
  obtain ⟨hd, ⟨h0, h39, h1, h40, h2, h41, h3, h42, h4⟩, hink, hwr, hle, hdb⟩ := hs
  refine ⟨hd, ⟨h0, by rw [pk_un (by omega)]; exact h39, h1, by rw [pk_un (by omega)]; exact h40, h2, by rw [pk_un (by omega)]; exact h41, h3, by rw [pk_un (by omega)]; exact h42, by rw [pk_un (by omega)]; exact h4⟩, fun k hk => ?_, fun k hk => ?_, fun k hk => ?_, fun i hi => ?_⟩
  · by_cases hkm : k = m
    · subst hkm
      refine ⟨v, hv, ?_, pk_us⟩
      show upd (S.1 5) k (nI v) k = _
      exact pk_us
    · rw [pk_un (by omega)]
      show ∃ z, z ≤ 999 ∧ upd (S.1 5) m (nI v) k = _ ∧ _
      rw [pk_un hkm]
      exact hink k hk
  · rw [pk_un (by omega)]; exact hwr k hk
  · rw [pk_un (by omega)]; exact hle k hk
  · rw [pk_un (by omega)]; exact hdb i hi
theorem q_h64 {nm h : Nat} (hn : nm ≤ 6) (hh : h < 2 ^ nm) : h < 64 := Nat.lt_of_lt_of_le hh (Nat.le_trans (Nat.pow_le_pow_right (by omega) hn) (by decide))
theorem q_sit {nm np B : Nat} {O S Hy M K C N : kD} {HS : Nat → kD} (ho : RO nm np O (M.1 6)) (hr : RSH nm np B S Hy HS M) (a : Int32) :
    ∃ v S' Hy' HS' M', f_X11_sit a K C O S N Hy HS = some (v, S', Hy', HS') ∧ f_X12_sit a M = some (v, M') ∧ MX M M' ∧ RSH nm np B S' Hy' HS' M' := by
  have hr0 := hr
  obtain ⟨d, lt, w, h, u, o, hd, hs, hH, hu⟩ := hr
  have hn : nm ≤ 6 := ho.1.1
  have e0 : (kI M 0 0 (nI 0)).1 6 0 = nI nm := ho.2.1.1
  have e2 : O.1 0 1 = nI nm := ho.2.1.2.2.1
  unfold f_X11_sit f_X11_doOne f_X9_whyNot f_X12_sit f_X12_turns
  simp (disch := omega) only [↓q_m1, q_lit, ↓q_bd, ↓reduceIte, q_eq, Nat.reduceEqDiff]
  rcases q_mach hn e2 e0 a with ⟨m, hm, rfl, hm1, hm2⟩ | ⟨-, hm1, hm2⟩
  · have hb := q_held (M := kI M 0 0 (nI 0)) hs hn hm
    have hh := hs.1.2.2.2.2
    rw [hm1, hm2, q_bo, hb.1, hb.2, q_bo]
    simp only [q_10, ↓reduceIte, q_qb]
    cases hbt : h.testBit m with
    | true =>
      simp only [Bool.true_eq_false, ↓reduceIte, q_bo, q_10, show (q_b true = nI 1) = True from eq_true rfl, q_bo2]
      exact ⟨_, _, _, _, _, rfl, rfl, MX_0 M _, hr0⟩
    | false =>
      obtain ⟨Hy', HS', un', u', o', k1, k2, k3, k4, -⟩ := q_keep (M := kI M 0 0 (nI 0)) hn hs hd hH hu
      have h42 : M.1 6 42 = nI h := hs.2.1.2.2.2.2.2.2.2.1
      have h3 : S.1 0 3 = nI h := hs.2.1.2.2.2.2.2.2.1
      simp (disch := omega) only [↓reduceIte, q_bo, k1, k2, q_bo2, show (q_b false = nI 1) = False from eq_false (by decide)]
      unfold f_X9_perform g_X9_perform_53
      simp (disch := omega) only [↓q_m1, q_lit, ↓q_bd, ↓reduceIte, q_eq, Nat.reduceEqDiff, q_bo, q_bo2, h3, q_hor h (q_h64 hn hh) m (by omega) hbt, q_cl, q_kI_S, q_kSI, q_SS, h42, q_xor1 h (q_h64 hn hh) m (by omega)]
      refine ⟨_, _, _, _, _, rfl, rfl, MX_k (v := nI 0) (w := nI (u' + 1)) (un := un') (s' := upd (M.1 6) 42 (nI (h ^^^ 2 ^ m))) (fun k hk => pk_un (by omega)) (fun k hk => pk_un (by omega)), d, lt, w, h ^^^ 2 ^ m, u' + 1, o', hd, RS_held hs hn (q_xlt nm hn h hh m hm), k3, rfl⟩
  · rw [hm1, hm2, q_bo]
    simp (disch := omega) only [↓reduceIte, q_bo, q_bo2, q_neg']
    exact ⟨_, _, _, _, _, rfl, rfl, MX_0 M _, hr0⟩
theorem q_leave {nm np B : Nat} {O S Hy M K C N : kD} {HS : Nat → kD} (ho : RO nm np O (M.1 6)) (hr : RSH nm np B S Hy HS M) (a : Int32) :
    ∃ v S' Hy' HS' M', f_X11_leave a K C O S N Hy HS = some (v, S', Hy', HS') ∧ f_X12_leave a M = some (v, M') ∧ MX M M' ∧ RSH nm np B S' Hy' HS' M' := by
  have hr0 := hr
  obtain ⟨d, lt, w, h, u, o, hd, hs, hH, hu⟩ := hr
  have hn : nm ≤ 6 := ho.1.1
  have e0 : (kI M 0 0 (nI 0)).1 6 0 = nI nm := ho.2.1.1
  have e2 : O.1 0 1 = nI nm := ho.2.1.2.2.1
  unfold f_X11_leave f_X11_doOne f_X9_whyNot f_X12_leave f_X12_turns
  simp (disch := omega) only [↓q_m1, q_lit, ↓q_bd, ↓reduceIte, q_eq, Nat.reduceEqDiff]
  rcases q_mach hn e2 e0 a with ⟨m, hm, rfl, hm1, hm2⟩ | ⟨-, hm1, hm2⟩
  · have hb := q_held (M := kI M 0 0 (nI 0)) hs hn hm
    have hh := hs.1.2.2.2.2
    rw [hm1, hm2, q_bo, hb.1, hb.2, q_bo]
    simp only [q_10, ↓reduceIte, q_qb]
    cases hbt : h.testBit m with
    | false =>
      simp only [↓reduceIte, q_bo, q_10, q_bo2]
      exact ⟨_, _, _, _, _, rfl, rfl, MX_0 M _, hr0⟩
    | true =>
      obtain ⟨Hy', HS', un', u', o', k1, k2, k3, k4, -⟩ := q_keep (M := kI M 0 0 (nI 0)) hn hs hd hH hu
      have h42 : M.1 6 42 = nI h := hs.2.1.2.2.2.2.2.2.2.1
      have h3 : S.1 0 3 = nI h := hs.2.1.2.2.2.2.2.2.1
      simp (disch := omega) only [↓reduceIte, q_bo, k1, k2, q_bo2, Bool.true_eq_false]
      unfold f_X9_perform g_X9_perform_53
      simp (disch := omega) only [↓q_m1, q_lit, ↓q_bd, ↓reduceIte, q_eq, Nat.reduceEqDiff, q_bo, q_bo2, h3, q_hand h (q_h64 hn hh) m (by omega) hbt, q_cl, q_kI_S, q_kSI, q_SS, h42, q_xor1 h (q_h64 hn hh) m (by omega)]
      refine ⟨_, _, _, _, _, rfl, rfl, MX_k (v := nI 0) (w := nI (u' + 1)) (un := un') (s' := upd (M.1 6) 42 (nI (h ^^^ 2 ^ m))) (fun k hk => pk_un (by omega)) (fun k hk => pk_un (by omega)), d, lt, w, h ^^^ 2 ^ m, u' + 1, o', hd, RS_held hs hn (q_xlt nm hn h hh m hm), k3, rfl⟩
  · rw [hm1, hm2, q_bo]
    simp (disch := omega) only [↓reduceIte, q_bo, q_bo2, q_neg']
    exact ⟨_, _, _, _, _, rfl, rfl, MX_0 M _, hr0⟩
