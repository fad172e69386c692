/-! machine-free: BOOK lived: one line -/
/-- both sides' answers to a line: done (0), or refused by the code t -/
def DO (nm np : Nat) (B B' : Nat) (A Q V x y z : Int32) (O S M : kD) : Prop :=
  (∃ S' s' d lt w h, d ≤ 400 ∧ f_X9_whyNot A Q V S O = some (nI 0) ∧ (if A = nI 50 then f_X9_passDays V S O = some S' else f_X9_perform A Q V S O = some S') ∧ f_X12_does x y z M = some (nI 0, kSI M 6 s') ∧ RS nm np d lt w h B' S' s' ∧ (∀ k, k < 39 → s' k = M.1 6 k) ∧ ∀ k, 98 ≤ k → s' k = M.1 6 k) ∨
  (∃ v t : Nat, 1 ≤ v ∧ v ≤ 5 ∧ t ≤ 5 ∧ A = nI (10 * t) ∧ f_X9_whyNot A Q V S O = some (nI v) ∧ f_X12_does x y z M = some (nI (10 * t + v), M))
theorem q_doR {nm np d lt w h B : Nat} {O S M : kD} (ho : RO nm np O (M.1 6)) (hd : d ≤ 400) (hs : RS nm np d lt w h B S (M.1 6)) {m v : Nat} (hm : m < nm) (h1 : 1 ≤ v) (h2 : v ≤ 999) : DO nm np B B (nI 30) (nI m) (nI v) (nI 3) (nI m) (nI v) O S M := by
  have hn : nm ≤ 6 := ho.1.1
  have hm1 := q_hm hn ho.2.1.2.2.1 hm
  obtain ⟨i, hi, hi1, hi2⟩ := hs.2.2.1 m hm
  unfold DO f_X9_whyNot f_X12_does g_X12_does_126 g_X12_does_192 f_X9_perform
  simp (disch := omega) only [↓q_m1, q_lit, ↓q_bd, ↓reduceIte, q_eq, Nat.reduceEqDiff, hm1, q_10, q_lt, q_le, show ¬ v < 1 by omega, h2, Nat.not_lt_zero, false_or, q_cl, show ¬ 6 ≤ m by omega, hi1, nI_add, show ¬ 279 ≤ 44 + m by omega, hi2, pk_mul]
  by_cases hin : i < v
  · refine Or.inl ⟨kI S 5 m (nI v), upd (M.1 6) (44 + m) (nI v), d, lt, w, h, hd, by rw [if_pos hin], rfl, ?_, RS_ink hs hn hm h2, fun k hk => up_ne (by omega), fun k hk => up_ne (by omega)⟩
    rw [if_pos hin, if_pos (Nat.le_refl 0), q_kI_S]
  · refine Or.inr ⟨1, 3, by omega, by omega, by omega, rfl, by rw [if_neg hin], ?_⟩
    rw [if_neg hin, if_neg (by omega)]
theorem q_doW {nm np d lt w h B : Nat} {O S M : kD} (ho : RO nm np O (M.1 6)) (hd : d ≤ 400) (hs : RS nm np d lt w h B S (M.1 6)) (hB : B ≤ 1000000000) {m q : Nat} (hm : m < nm) (hq : q < np) : DO nm np B (B + 40) (nI 0) (nI m) (nI q) (nI 0) (nI m) (nI q) O S M := by
  have hn : nm ≤ 6 := ho.1.1
  have hm1 := q_hm hn ho.2.1.2.2.1 hm
  obtain ⟨v, hv, h1, h2, h3⟩ := q_why ho hs hm hq
  unfold DO f_X9_whyNot f_X12_does f_X9_perform
  simp (disch := omega) only [↓q_m1, q_lit, ↓q_bd, ↓reduceIte, q_eq, Nat.reduceEqDiff, hm1, q_10, h1, h2, ↓q_bo]
  by_cases hv0 : v = 0
  · obtain ⟨c, i, c1, c2, c3, c4, -⟩ := h3 hv0
    obtain ⟨S', s', t1, t2, t3, t4, t5⟩ := q_types ho hs hm hq hB ⟨c, i, c1, c2, c3, c4⟩
    subst hv0
    unfold g_X12_does_192
    simp (disch := omega) only [↓q_m1, q_lit, ↓reduceIte, t1, t2, ↓q_bo, q_le, Nat.le_refl]
    exact Or.inl ⟨S', s', d, q + 1, m + 1, h, hd, by trivial, by trivial, by trivial, t3, t4, t5⟩
  · unfold g_X12_does_192
    simp (disch := omega) only [↓q_m1, q_lit, ↓reduceIte, if_neg hv0, q_le, show ¬ v ≤ 0 by omega, pk_mul, nI_add]
    exact Or.inr ⟨v, 0, by omega, hv, by omega, by trivial, by trivial, by trivial⟩
theorem q_doS {nm np d lt w h B : Nat} {O S M : kD} (ho : RO nm np O (M.1 6)) (hd : d ≤ 400) (hs : RS nm np d lt w h B S (M.1 6)) {m : Nat} (hm : m < nm) (V z : Int32) : DO nm np B B (nI 10) (nI m) V (nI 1) (nI m) z O S M := by
  have hn : nm ≤ 6 := ho.1.1
  have hm1 := q_hm hn ho.2.1.2.2.1 hm
  have hb := q_held hs hn hm
  have hh := hs.1.2.2.2.2
  unfold DO f_X9_whyNot f_X12_does g_X12_does_62 f_X9_perform g_X9_perform_53
  simp (disch := omega) only [↓q_m1, q_lit, ↓q_bd, ↓reduceIte, q_eq, Nat.reduceEqDiff, hm1, q_10, hb.1, hb.2, ↓q_bo, q_qb]
  unfold g_X12_does_77
  cases hbt : h.testBit m with
  | true =>
    unfold g_X12_does_85 g_X12_does_192
    simp (disch := omega) only [↓q_m1, q_lit, ↓q_bd, Bool.true_eq_false, ↓reduceIte, q_10, show (q_b true = nI 1) = True from eq_true rfl, q_le, Nat.reduceLeDiff, pk_mul, nI_add]
    exact Or.inr ⟨1, 1, by omega, by omega, by omega, by trivial, by trivial, by trivial⟩
  | false =>
    have h42 : M.1 6 42 = nI h := hs.2.1.2.2.2.2.2.2.2.1
    have h3 : S.1 0 3 = nI h := hs.2.1.2.2.2.2.2.2.1
    unfold g_X12_does_85 g_X12_does_192
    simp (disch := omega) only [↓q_m1, q_lit, ↓q_bd, ↓reduceIte, q_10, show (q_b false = nI 1) = False from eq_false (by decide), q_le, Nat.le_refl, h3, q_hor h (q_h64 hn hh) m (by omega) hbt, q_cl, h42, q_xor1 h (q_h64 hn hh) m (by omega)]
    exact Or.inl ⟨_, _, d, lt, w, h ^^^ 2 ^ m, hd, by trivial, by trivial, by trivial, RS_held hs hn (q_xlt nm hn h hh m hm), fun k hk => up_ne (by omega), fun k hk => up_ne (by omega)⟩
theorem q_doL {nm np d lt w h B : Nat} {O S M : kD} (ho : RO nm np O (M.1 6)) (hd : d ≤ 400) (hs : RS nm np d lt w h B S (M.1 6)) {m : Nat} (hm : m < nm) (V z : Int32) : DO nm np B B (nI 20) (nI m) V (nI 2) (nI m) z O S M := by
  have hn : nm ≤ 6 := ho.1.1
  have hm1 := q_hm hn ho.2.1.2.2.1 hm
  have hb := q_held hs hn hm
  have hh := hs.1.2.2.2.2
  unfold DO f_X9_whyNot f_X12_does g_X12_does_62 f_X9_perform g_X9_perform_53
  simp (disch := omega) only [↓q_m1, q_lit, ↓q_bd, ↓reduceIte, q_eq, Nat.reduceEqDiff, hm1, q_10, hb.1, hb.2, ↓q_bo, q_qb]
  unfold g_X12_does_77
  cases hbt : h.testBit m with
  | false =>
    unfold g_X12_does_85 g_X12_does_192
    simp (disch := omega) only [↓q_m1, q_lit, ↓q_bd, ↓reduceIte, q_10, show (q_b false = nI 0) = True from eq_true rfl, q_le, Nat.reduceLeDiff, pk_mul, nI_add]
    exact Or.inr ⟨1, 2, by omega, by omega, by omega, by trivial, by trivial, by trivial⟩
  | true =>
    have h42 : M.1 6 42 = nI h := hs.2.1.2.2.2.2.2.2.2.1
    have h3 : S.1 0 3 = nI h := hs.2.1.2.2.2.2.2.2.1
    unfold g_X12_does_85 g_X12_does_192
    simp (disch := omega) only [↓q_m1, q_lit, ↓q_bd, ↓reduceIte, q_10, Bool.true_eq_false, show (q_b true = nI 0) = False from eq_false (by decide), q_le, Nat.le_refl, h3, q_hand h (q_h64 hn hh) m (by omega) hbt, q_cl, h42, q_xor1 h (q_h64 hn hh) m (by omega)]
    exact Or.inl ⟨_, _, d, lt, w, h ^^^ 2 ^ m, hd, by trivial, by trivial, by trivial, RS_held hs hn (q_xlt nm hn h hh m hm), fun k hk => up_ne (by omega), fun k hk => up_ne (by omega)⟩
/-- where nothing is owed both ways, the reference's clearing changes nothing -/
theorem q_evens0 {nm np d lt w h B : Nat} {O S M : kD} (ho : RO nm np O (M.1 6)) (hs : RS nm np d lt w h B S (M.1 6)) (he : owE (fun i => M.1 6 (62 + i)) nm = false) : f_X12_evens M = some M := by
  have hn : nm ≤ 6 := ho.1.1
  have e0 : M.1 6 0 = nI nm := ho.2.1.1
  have hz : ∀ m k, m < nm → k < m → stM (M.1 6) m k = M.1 6 := by
    intro m k hm hk
    obtain ⟨va, hva, hva1⟩ := (hs.2.2.2.2.2 (m * 6 + k) (by omega)).2.2
    obtain ⟨vb, hvb, hvb1⟩ := (hs.2.2.2.2.2 (k * 6 + m) (by omega)).2.2
    have hno : ¬ owC (fun i => M.1 6 (62 + i)) m k := fun h9 => by
      rw [owE_t hm hk h9] at he
      exact Bool.noConfusion he
    have h0 : va = 0 ∨ vb = 0 := by
      by_cases h1 : va = 0
      · exact Or.inl h1
      · by_cases h2 : vb = 0
        · exact Or.inr h2
        · refine absurd ⟨?_, ?_⟩ hno
          · show ¬ M.1 6 (62 + (m * 6 + k)) ≤ nI 0
            rw [hva1, q_le (by omega) (by omega)]; omega
          · show ¬ M.1 6 (62 + (k * 6 + m)) ≤ nI 0
            rw [hvb1, q_le (by omega) (by omega)]; omega
    rw [show 62 + (m * 6 + k) = 62 + 6 * m + k by omega] at hva1
    rw [show 62 + (k * 6 + m) = 62 + 6 * k + m by omega] at hvb1
    have hmin : min va vb = 0 := by
      rcases h0 with h0 | h0
      · rw [h0]; exact Nat.zero_min _
      · rw [h0]; exact Nat.min_zero _
    unfold stM
    rw [hva1, hvb1, q_minN (by omega) (by omega), hmin, q_sub (Nat.zero_le _), q_sub (Nat.zero_le _), Nat.sub_zero, Nat.sub_zero]
    funext i
    by_cases h1 : i = 62 + 6 * k + m
    · subst h1; rw [pk_us, hvb1]
    · rw [pk_un h1]
      by_cases h2 : i = 62 + 6 * m + k
      · subst h2; rw [pk_us, hva1]
      · rw [pk_un h2]
  have key := q_one (fun g m (y : Nat → Int32) => lp (fun _ _ => none) g_X12_evens_2 g (nI m) (kSI M 6 y)) (fun m y => y = M.1 6) (fun r => r = some M) nm ?_ ?_ nm 0 2000 (M.1 6) (by omega) (by omega) rfl
  · rw [q_SM] at key; exact key
  · intro g m y _ hm hy ih
    simp only [q_lp]
    have hstM : g_X12_evens_2 (lp (fun _ _ => none) g_X12_evens_2 g) (nI m) (kSI M 6 y) = lp (fun _ _ _ => none) (g_X12_evens_14 (lp (fun _ _ => none) g_X12_evens_2 g)) 2000 (nI m) (nI 0) (kSI M 6 y) := by
      generalize lp _ g_X12_evens_2 g = rc
      unfold g_X12_evens_2
      simp (disch := omega) only [↓q_m1, q_lit, ↓reduceIte, q_cl, q_kSI, hy, e0, q_le, show ¬ nm ≤ m by omega]
    rw [hstM]
    refine q_one (fun g2 k (z : Nat → Int32) => lp (fun _ _ _ => none) (g_X12_evens_14 (lp (fun _ _ => none) g_X12_evens_2 g)) g2 (nI m) (nI k) (kSI M 6 z)) (fun k z => z = M.1 6) (fun r => r = some M) m ?_ ?_ m 0 2000 y (by omega) (by omega) hy
    · intro g2 k z _ hk hz2 ih2
      simp only [q_lp]
      rw [q_stM M z (by omega) hk, hz2, hz m k hm hk]
      exact ih2 (M.1 6) rfl
    · intro g2 z hz2
      simp only [q_lp]
      generalize lp _ (g_X12_evens_14 (lp (fun _ _ => none) g_X12_evens_2 g)) g2 = rd2
      have h2 : g_X12_evens_14 (lp (fun _ _ => none) g_X12_evens_2 g) rd2 (nI m) (nI m) (kSI M 6 z) = lp (fun _ _ => none) g_X12_evens_2 g (nI (m + 1)) (kSI M 6 z) := by
        generalize lp _ g_X12_evens_2 g = rc
        unfold g_X12_evens_14 g_X12_evens_68
        simp (disch := omega) only [↓q_m1, q_lit, ↓q_bd, ↓reduceIte, q_le, Nat.le_refl, nI_add]
      rw [h2]
      exact ih z hz2
  · intro g y hy
    simp only [q_lp]
    generalize lp _ g_X12_evens_2 g = rc
    unfold g_X12_evens_2
    simp (disch := omega) only [↓q_m1, q_lit, ↓reduceIte, q_cl, q_kSI, hy, e0, q_le, Nat.le_refl]
    rw [q_SM]
theorem q_doC {nm np d lt w h B : Nat} {O S M : kD} (ho : RO nm np O (M.1 6)) (hd : d ≤ 400) (hs : RS nm np d lt w h B S (M.1 6)) (Q V y z : Int32) : DO nm np B B (nI 40) Q V (nI 4) y z O S M := by
  have hn : nm ≤ 6 := ho.1.1
  have e0 : M.1 6 0 = nI nm := ho.2.1.1
  have hb := q_bothC S
  rw [owE_cut hn (fun i hi => ⟨(hs.2.2.2.2.2 i hi).1, (hs.2.2.2.2.2 i hi).2.1⟩)] at hb
  have hb2 := q_bothM (M := M) hn e0
  unfold DO f_X9_whyNot f_X12_does f_X9_perform
  simp (disch := omega) only [↓q_m1, q_lit, ↓q_bd, ↓reduceIte, q_eq, Nat.reduceEqDiff, hb, hb2, ↓q_bo, q_qb]
  cases hbt : owE (fun i => M.1 6 (62 + i)) nm with
  | false =>
    rw [q_evens0 ho hs hbt]
    unfold g_X12_does_192
    simp (disch := omega) only [↓q_m1, q_lit, ↓q_bd, ↓q_bo, ↓reduceIte, show q_b (!false) = nI 1 from rfl, q_le, Nat.reduceLeDiff, pk_mul, nI_add]
    exact Or.inr ⟨1, 4, by omega, by omega, by omega, by trivial, by trivial, by trivial⟩
  | true =>
    obtain ⟨S', s', t1, t2, t3, t4, t5⟩ := q_settle ho hs
    rw [t1, t2]
    unfold g_X12_does_192
    simp (disch := omega) only [↓q_m1, q_lit, ↓q_bd, ↓q_bo, ↓reduceIte, Bool.true_eq_false, show q_b (!true) = nI 0 from rfl, q_le, Nat.le_refl]
    exact Or.inl ⟨S', s', d, lt, w, h, hd, by trivial, by trivial, by trivial, t3, t4, t5⟩
theorem q_doD {nm np d lt w h B : Nat} {O S M : kD} (ho : RO nm np O (M.1 6)) (hd : d ≤ 400) (hs : RS nm np d lt w h B S (M.1 6)) (hB : B ≤ 900000000) {n : Nat} (h1 : 1 ≤ n) (h2 : n ≤ 60) (Q z : Int32) : DO nm np B (B + 2400) (nI 50) Q (nI n) (nI 5) (nI n) z O S M := by
  have h39 : M.1 6 39 = nI d := hs.2.1.2.1
  have h0 : S.1 0 0 = nI d := hs.2.1.1
  unfold DO f_X9_whyNot f_X12_does f_X9_daysLeft
  simp (disch := omega) only [↓q_m1, q_lit, ↓q_bd, ↓reduceIte, q_eq, Nat.reduceEqDiff, q_cl, h39, h0, q_sub, nI_add, q_le]
  unfold g_X12_does_179
  by_cases hg : n ≤ 400 - d
  · obtain ⟨S', s', lt', w', t1, t2, t3, t4, t5⟩ := q_goes ho hs hB n h2 hd
    have e : min n (400 - d) = n := Nat.min_eq_left hg
    rw [e] at t1 t2 t3
    rw [t1, t2]
    unfold g_X12_does_192
    simp (disch := omega) only [↓q_m1, q_lit, ↓q_bd, ↓q_bo2, ↓reduceIte, hg, show d + n ≤ 400 by omega, q_le, Nat.le_refl]
    exact Or.inl ⟨S', s', d + n, lt', w', h, by omega, by trivial, by trivial, by trivial, RS_B (by omega) t3, t4, t5⟩
  · unfold g_X12_does_192
    simp (disch := omega) only [↓q_m1, q_lit, ↓q_bd, ↓reduceIte, if_neg hg, show ¬ d + n ≤ 400 by omega, q_10, q_le, Nat.reduceLeDiff, pk_mul, nI_add]
    exact Or.inr ⟨1, 5, by omega, by omega, by omega, by trivial, by trivial, by trivial⟩
theorem DO_B {nm np B B1 B2 : Nat} {A Q V x y z : Int32} {O S M : kD} (h : DO nm np B B1 A Q V x y z O S M) (hB : B1 ≤ B2) : DO nm np B B2 A Q V x y z O S M := by
  rcases h with ⟨S', s', d, lt, w, h, hd, h1, h2, h3, h4, h5⟩ | h
  · exact Or.inl ⟨S', s', d, lt, w, h, hd, h1, h2, h3, RS_B hB h4, h5⟩
  · exact Or.inr h
theorem q_do {nm np d lt w h B : Nat} {O S M : kD} (ho : RO nm np O (M.1 6)) (hd : d ≤ 400) (hs : RS nm np d lt w h B S (M.1 6)) (hB : B ≤ 900000000) {A Q V x y z : Int32} (hl : LN nm np A Q V x y z) : DO nm np B (B + 2400) A Q V x y z O S M := by
  rcases hl with ⟨m, q, hm, hq, rfl, rfl, rfl, rfl, rfl, rfl⟩ | ⟨m, hm, rfl, rfl, rfl, rfl⟩ | ⟨m, hm, rfl, rfl, rfl, rfl⟩ | ⟨m, v, hm, h1, h2, rfl, rfl, rfl, rfl, rfl, rfl⟩ | ⟨rfl, rfl⟩ | ⟨v, h1, h2, rfl, rfl, rfl, rfl⟩
  · exact DO_B (q_doW ho hd hs (by omega) hm hq) (by omega)
  · exact DO_B (q_doS ho hd hs hm _ _) (by omega)
  · exact DO_B (q_doL ho hd hs hm _ _) (by omega)
  · exact DO_B (q_doR ho hd hs hm h1 h2) (by omega)
  · exact DO_B (q_doC ho hd hs _ _ _ _) (by omega)
  · exact q_doD ho hd hs hB h1 h2 _ _
