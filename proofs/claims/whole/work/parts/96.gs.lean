section gr2
variable {nm np n B : Nat} {L : List Nat} {T : Nat → Int32} {K O S N Hy C P RW M : kD} {HS : Nat → kD} {BT : Nat → Int32} {IO IS IN : Nat → kD} {IK : Nat → Int32}
theorem g_comes (h : GR nm np n B L T K O S N Hy HS BT P RW IO IS IN IK M) (t : Int32) :
    ∃ v P' M', f_X11_comes t K C O S N P = some (v, P') ∧ f_X12_comes t M = some (v, M') ∧ GR nm np n (B + 96000) L T K O S N Hy HS BT P' RW IO IS IN IK M' := by
  obtain ⟨h1, h2, h3, h4, h5⟩ := h
  have h3' := h3
  obtain ⟨d, lt, w, hh, u, o, hd, hs, _⟩ := h3
  obtain ⟨k1, k2, k3, k4, k5, k6, k7, k8⟩ := h5
  obtain ⟨v, P', M', e1, e2, ⟨x1, x2, x3⟩, e4⟩ := q_comes (K := K) (C := C) (N := N) h2.1 hs k3 t
  refine ⟨v, P', M', e1, e2, RT_f h1 rfl (x3 2 (by omega) (by omega)) (x2 1 (by omega) (by omega) (by omega)), RLo_f h2 (fun k _ => by rw [x2 6 (by omega) (by omega) (by omega)]) (fun j _ => by rw [x1]), RSH_B (Nat.le_add_right _ _) (RSH_s h2.1.1.1 h3' (fun k _ _ => by rw [x2 6 (by omega) (by omega) (by omega)]) (x2 20 (by omega) (by omega) (by omega)) (x3 22 (by omega) (by omega))), RSN_s h4 (fun k _ => by rw [x2 6 (by omega) (by omega) (by omega)]), TD_f k1 rfl (x3 38 (by omega) (by omega)) (x2 37 (by omega) (by omega) (by omega)), k2.trans (x3 15 (by omega) (by omega)).symm, e4, RWR_f k4 (x3 29 (by omega) (by omega)) (x3 30 (by omega) (by omega)) (x2 28 (by omega) (by omega) (by omega)), LK_f k5 rfl (x3 31 (by omega) (by omega)) (x3 32 (by omega) (by omega)), IM_M (x2 46 (by omega) (by omega) (by omega)) (x2 48 (by omega) (by omega) (by omega)) (by rw [x1]) (IM_B (Nat.le_add_right _ _) k6), LX_f k7 (x3 34 (by omega) (by omega)) (x2 33 (by omega) (by omega) (by omega)), WT_g k8 (by rw [x1])⟩
theorem g_ways {UF VF : Nat → Nat → Int32} (h : GR nm np n B L T K O S N Hy HS BT P RW IO IS IN IK M) :
    ∃ v RW' UF' VF' M', f_X11_ways K T C O S N RW UF VF = some (v, kI K 0 1 (nI 0), RW', UF', VF') ∧ f_X12_ways M = some (v, M') ∧ GR nm np 0 (B + 96000) L T (kI K 0 1 (nI 0)) O S N Hy HS BT P RW' IO IS IN IK M' := by
  obtain ⟨h1, h2, h3, h4, h5⟩ := h
  obtain ⟨k1, k2, k3, k4, k5, k6, k7, k8⟩ := h5
  obtain ⟨v, RW', UF', VF', M', e1, e2, e3, e4, x1, x2, x3, -, -⟩ := q_ways (C := C) (S := S) (N := N) (UF := UF) (VF := VF) h1 h2.1 k4
  refine ⟨v, RW', UF', VF', M', e1, e2, e3, RLo_f h2 (fun k _ => by rw [x2 6 (by omega) (by omega) (by omega) (by omega)]) (fun j _ => by rw [x1]), RSH_B (Nat.le_add_right _ _) (RSH_s h2.1.1.1 h3 (fun k _ _ => by rw [x2 6 (by omega) (by omega) (by omega) (by omega)]) (x2 20 (by omega) (by omega) (by omega) (by omega)) (x3 22 (by omega) (by omega) (by omega) (by omega) (by omega) (by omega) (by omega))), RSN_s h4 (fun k _ => by rw [x2 6 (by omega) (by omega) (by omega) (by omega)]), TD_f k1 (show upd (K.1 0) 1 (nI 0) 15 = K.1 0 15 from up_ne (by omega)) (x3 38 (by omega) (by omega) (by omega) (by omega) (by omega) (by omega) (by omega)) (x2 37 (by omega) (by omega) (by omega) (by omega)), (show upd (K.1 0) 1 (nI 0) 16 = _ from (up_ne (by omega)).trans (k2.trans (x3 15 (by omega) (by omega) (by omega) (by omega) (by omega) (by omega) (by omega)).symm)), RC_f k3 (x3 25 (by omega) (by omega) (by omega) (by omega) (by omega) (by omega) (by omega)) (x2 24 (by omega) (by omega) (by omega) (by omega)), e4, LK_f k5 (show upd (K.1 0) 1 (nI 0) 17 = K.1 0 17 from up_ne (by omega)) (x3 31 (by omega) (by omega) (by omega) (by omega) (by omega) (by omega) (by omega)) (x3 32 (by omega) (by omega) (by omega) (by omega) (by omega) (by omega) (by omega)), IM_M (x2 46 (by omega) (by omega) (by omega) (by omega)) (x2 48 (by omega) (by omega) (by omega) (by omega)) (by rw [x1]) (IM_B (Nat.le_add_right _ _) k6), LX_f k7 (x3 34 (by omega) (by omega) (by omega) (by omega) (by omega) (by omega) (by omega)) (x2 33 (by omega) (by omega) (by omega) (by omega)), WT_g k8 (by rw [x1])⟩
theorem g_faint (h : GR nm np n B L T K O S N Hy HS BT P RW IO IS IN IK M) :
    ∃ v K' M', f_X11_faint K T C O S N = some (v, K') ∧ f_X12_faint M = some (v, M') ∧ GR nm np 0 (B + 96000) L T K' O S N Hy HS BT P RW IO IS IN IK M' := by
  obtain ⟨h1, h2, h3, h4, h5⟩ := h
  obtain ⟨k1, k2, k3, k4, k5, k6, k7, k8⟩ := h5
  obtain ⟨v, K', M', e1, e2, e3, e4, e5, x1, x2, x3, -, -⟩ := q_faint (C := C) (S := S) (N := N) h1 h2 k5
  refine ⟨v, K', M', e1, e2, e3, RLo_f h2 (fun k _ => by rw [x2 6 (by omega)]) (fun j _ => by rw [x1]), RSH_B (Nat.le_add_right _ _) (RSH_s h2.1.1.1 h3 (fun k _ _ => by rw [x2 6 (by omega)]) (x2 20 (by omega)) (x3 22 (by omega) (by omega) (by omega) (by omega) (by omega) (by omega) (by omega))), RSN_s h4 (fun k _ => by rw [x2 6 (by omega)]), TD_f k1 (e5 15 (by omega) (by omega)) (x3 38 (by omega) (by omega) (by omega) (by omega) (by omega) (by omega) (by omega)) (x2 37 (by omega)), (e5 16 (by omega) (by omega)).trans (k2.trans (x3 15 (by omega) (by omega) (by omega) (by omega) (by omega) (by omega) (by omega)).symm), RC_f k3 (x3 25 (by omega) (by omega) (by omega) (by omega) (by omega) (by omega) (by omega)) (x2 24 (by omega)), RWR_f k4 (x3 29 (by omega) (by omega) (by omega) (by omega) (by omega) (by omega) (by omega)) (x3 30 (by omega) (by omega) (by omega) (by omega) (by omega) (by omega) (by omega)) (x2 28 (by omega)), e4, IM_M (x2 46 (by omega)) (x2 48 (by omega)) (by rw [x1]) (IM_B (Nat.le_add_right _ _) k6), LX_f k7 (x3 34 (by omega) (by omega) (by omega) (by omega) (by omega) (by omega) (by omega)) (x2 33 (by omega)), WT_g k8 (by rw [x1])⟩
theorem g_line (h : GR nm np n B L T K O S N Hy HS BT P RW IO IS IN IK M) (hB : B ≤ 300000000) (a : Int32) :
    ∃ r L' M', f_X12_line a M = some (r, M') ∧ GR nm np n (B + 96000) L' T K O S N Hy HS BT P RW IO IS IN IK M' ∧ ((f_X3_hasMachine a O = nI 0 ∧ r = mI ∧ L' = L) ∨ ∃ m l wv iv hb, m < 6 ∧ a = nI m ∧ f_X3_hasMachine a O = nI 1 ∧ NM l (O.2 4 m) (M.2 9 m) ∧ wv < 2 ^ 31 ∧ iv ≤ 999 ∧ S.1 6 m = nI wv ∧ S.1 5 m = nI iv ∧ f_X9_isHeld (nI m) S = q_b hb ∧ L' = lineT l wv iv hb ∧ r = nI L'.length) := by
  have h0 := h
  obtain ⟨h1, h2, h3, h4, h5⟩ := h
  have h3' := h3
  obtain ⟨d, lt, w, hh, u, o, hd, hs, _⟩ := h3
  have hn := h2.1.1.1
  obtain ⟨k1, k2, k3, k4, k5, k6, k7, k8⟩ := h5
  rcases q_mach (M := kI M 0 0 (nI 0)) hn h2.1.2.1.2.2.1 h2.1.2.1.1 a with ⟨m, hm, rfl, c1, c2⟩ | ⟨_, c1, c2⟩
  · obtain ⟨l, wv, iv, M', l1, l2, l3, l4, l5, l6, l7, l8, x1, x2, x3⟩ := q_lineM h2 hs (by omega) hm
    have y2 : ∀ b, b ≠ 0 → b ≠ 33 → M'.1 b = M.1 b := fun b b0 b3 => (x2 b b0 b3).trans (if_neg b0)
    have y3 : ∀ k, k ≠ 0 → k ≠ 34 → M'.1 0 k = M.1 0 k := fun k k0 k3 => (x3 k k3).trans (up_ne k0)
    have y1 : M'.2 = M.2 := x1
    refine ⟨_, _, M', l7, ⟨RT_f h1 rfl (y3 2 (by omega) (by omega)) (y2 1 (by omega) (by omega)), RLo_f h2 (fun k _ => by rw [y2 6 (by omega) (by omega)]) (fun j _ => by rw [y1]), RSH_B (Nat.le_add_right _ _) (RSH_s hn h3' (fun k _ _ => by rw [y2 6 (by omega) (by omega)]) (y2 20 (by omega) (by omega)) (y3 22 (by omega) (by omega))), RSN_s h4 (fun k _ => by rw [y2 6 (by omega) (by omega)]), TD_f k1 rfl (y3 38 (by omega) (by omega)) (y2 37 (by omega) (by omega)), k2.trans (y3 15 (by omega) (by omega)).symm, RC_f k3 (y3 25 (by omega) (by omega)) (y2 24 (by omega) (by omega)), RWR_f k4 (y3 29 (by omega) (by omega)) (y3 30 (by omega) (by omega)) (y2 28 (by omega) (by omega)), LK_f k5 rfl (y3 31 (by omega) (by omega)) (y3 32 (by omega) (by omega)), IM_M (y2 46 (by omega) (by omega)) (y2 48 (by omega) (by omega)) (by rw [y1]) (IM_B (Nat.le_add_right _ _) k6), l8, WT_g k8 (by rw [y1])⟩, Or.inr ⟨m, l, wv, iv, _, by omega, rfl, c1, l1, l2, l3, l4, l5, l6, rfl, rfl⟩⟩
  · refine ⟨mI, L, kI M 0 0 (nI 0), ?_, GR_0 h0 _, Or.inl ⟨c1, rfl, rfl⟩⟩
    unfold f_X12_line
    simp only [↓q_m1, q_lit, ↓q_bd, c2, ↓q_bo, ↓reduceIte]
theorem g_book {R RB TR : kD} (h : GR nm np n B L T K O S N Hy HS BT P RW IO IS IN IK M) (hB : B ≤ 300000000) (a : Int32) :
    ∃ v n' K' R' S' Hy' HS' RB' TR' BT' M', f_X11_book a K T R C O S N Hy HS RB TR BT = some (v, K', R', S', Hy', HS', RB', TR', BT') ∧ f_X12_book a M = some (v, M') ∧ GR nm np n' (B + 96000) L T K' O S' N Hy' HS' BT' P RW IO IS IN IK M' := by
  obtain ⟨h1, h2, h3, h4, h5⟩ := h
  obtain ⟨k1, k2, k3, k4, k5, k6, k7, k8⟩ := h5
  obtain ⟨v, n', K', R', S', Hy', HS', RB', TR', BT', M', e1, e2, -, e3, e4, e5, e6, e7, e8, -, e9, x1, x2, x3, x4, x5, x6⟩ := q_book (R := R) (C := C) (N := N) (RB := RB) (TR := TR) a h1 k8 h2 h3 (by omega) k1 k2
  have y : ∀ k, k ∈ [25, 29, 30, 31, 32, 34] → M'.1 0 k = M.1 0 k := fun k hk => x1 k (nx hk (by decide)) (nx hk (by decide)) (nx hk (by decide)) (nx hk (by decide)) (nx hk (by decide)) (nx hk (by decide)) (nx hk (by decide)) (nx hk (by decide)) (nx hk (by decide)) (nx hk (by decide)) (nx hk (by decide)) (nx hk (by decide)) (nx hk (by decide)) (nx hk (by decide)) (nx hk (by decide))
  have z : ∀ b, b ∈ [24, 28, 33, 46, 48] → M'.1 b = M.1 b := fun b hb => x2 b (nx hb (by decide)) (nx hb (by decide)) (nx hb (by decide)) (nx hb (by decide)) (nx hb (by decide)) (nx hb (by decide))
  exact ⟨v, n', K', R', S', Hy', HS', RB', TR', BT', M', e1, e2, e3, e5, e6, RSN_s h4 x4, e7, e8, RC_f k3 (y 25 (by decide)) (z 24 (by decide)), RWR_f k4 (y 29 (by decide)) (y 30 (by decide)) (z 28 (by decide)), LK_f k5 (e9 17 (by omega) (by omega) (by omega)) (y 31 (by decide)) (y 32 (by decide)), IM_M (z 46 (by decide)) (z 48 (by decide)) (x5 47 (by omega)) (IM_B (Nat.le_add_right _ _) k6), LX_f k7 (y 34 (by decide)) (z 33 (by decide)), e4⟩
theorem g_sentence {R RN : kD} (h : GR nm np n B L T K O S N Hy HS BT P RW IO IS IN IK M) :
    ∃ v K' R' N' RN' M', f_X11_sentence K T R C O S N RN = some (v, K', R', N', RN') ∧ f_X12_sentence M = some (v, M') ∧ GR nm np 0 (B + 96000) L T K' O S N' Hy HS BT P RW IO IS IN IK M' := by
  obtain ⟨h1, h2, h3, h4, h5⟩ := h
  obtain ⟨k1, k2, k3, k4, k5, k6, k7, k8⟩ := h5
  obtain ⟨v, K', R', N', RN', M', e1, e2, e3, e4, e5, -, e6, e7, x1, x2, x3, x4, x5⟩ := q_sentence (R := R) (C := C) (S := S) (RN := RN) h1 k8 h2 h4
  have y : ∀ k, k ∈ [22, 25, 29, 30, 31, 32, 34, 38] → M'.1 0 k = M.1 0 k := fun k hk => x1 k (nx hk (by decide)) (nx hk (by decide)) (nx hk (by decide)) (nx hk (by decide)) (nx hk (by decide)) (nx hk (by decide)) (nx hk (by decide)) (nx hk (by decide)) (nx hk (by decide)) (nx hk (by decide)) (nx hk (by decide)) (nx hk (by decide)) (nx hk (by decide)) (nx hk (by decide)) (nx hk (by decide)) (nx hk (by decide)) (nx hk (by decide))
  have z : ∀ b, b ∈ [20, 24, 28, 33, 37, 46, 48] → M'.1 b = M.1 b := fun b hb => x2 b (nx hb (by decide)) (nx hb (by decide)) (nx hb (by decide)) (nx hb (by decide))
  exact ⟨v, K', R', N', RN', M', e1, e2, e3, RLo_f h2 (fun k hk => x3 k (by omega)) (fun j _ => by rw [x4 9 (by omega)]), RSH_B (Nat.le_add_right _ _) (RSH_s h2.1.1.1 h3 (fun k _ hk => x3 k hk) (z 20 (by decide)) (y 22 (by decide))), e4, TD_f k1 e7 (y 38 (by decide)) (z 37 (by decide)), e5, RC_f k3 (y 25 (by decide)) (z 24 (by decide)), RWR_f k4 (y 29 (by decide)) (y 30 (by decide)) (z 28 (by decide)), LK_f k5 (e6 17 (by omega) (by omega) (by omega)) (y 31 (by decide)) (y 32 (by decide)), IM_M (z 46 (by decide)) (z 48 (by decide)) (x4 47 (by omega)) (IM_B (Nat.le_add_right _ _) k6), LX_f k7 (y 34 (by decide)) (z 33 (by decide)), WT_g k8 (x4 10 (by omega))⟩
theorem g_said (h : GR nm np n B L T K O S N Hy HS BT P RW IO IS IN IK M) (a : Int32) :
    ∃ v N' M', f_X11_said a K C O S N = some (v, N') ∧ f_X12_said a M = some (v, M') ∧ GR nm np n (B + 96000) L T K O S N' Hy HS BT P RW IO IS IN IK M' := by
  obtain ⟨h1, h2, h3, h4, h5⟩ := h
  have h3' := h3
  obtain ⟨d, lt, w, hh, u, o, hd, hs, _⟩ := h3
  obtain ⟨v, x, t, e1, e2⟩ := q_said (K := K) (C := C) h2.1 hs h4 a
  have hz : ∀ b, b ≠ 0 → b ≠ 45 → (kSI (kI M 0 0 (nI 0)) 45 t).1 b = M.1 b := fun b b0 b4 => by
    rw [q_kSI, if_neg b4, q_kI, if_neg b0]
  have hy : ∀ k, k ≠ 0 → (kSI (kI M 0 0 (nI 0)) 45 t).1 0 k = M.1 0 k := fun k k0 => by
    show upd (M.1 0) 0 (nI 0) k = _
    exact up_ne k0
  refine ⟨v, _, _, e1, e2, RT_f h1 rfl (hy 2 (by omega)) (hz 1 (by omega) (by omega)), RLo_f h2 (fun k _ => by rw [hz 6 (by omega) (by omega)]) (fun _ _ => rfl), RSH_B (Nat.le_add_right _ _) (RSH_s h2.1.1.1 h3' (fun k _ _ => by rw [hz 6 (by omega) (by omega)]) (hz 20 (by omega) (by omega)) (hy 22 (by omega))), RSN_c (RSN_s h4 (fun k _ => by rw [hz 6 (by omega) (by omega)])) rfl (fun b i hb _ => ?_), GK_f h5 (Nat.le_add_right _ _) (fun _ _ => rfl) (fun k hk => hy k (nx hk (by decide))) (fun b hb => hz b (nx hb (by decide)) (nx hb (by decide))) rfl rfl⟩
  rw [q_kSI, if_neg (by omega)]
theorem g_image (h : GR nm np n B L T K O S N Hy HS BT P RW IO IS IN IK M) (a : Int32) :
    ∃ v IO' IS' IN' IK' M', f_X11_image a K C O S N IO IS IN IK = some (v, IO', IS', IN', IK') ∧ f_X12_image a M = some (v, M') ∧ GR nm np n (B + 96000) L T K O S N Hy HS BT P RW IO' IS' IN' IK' M' := by
  obtain ⟨h1, h2, h3, h4, h5⟩ := h
  have h3' := h3
  obtain ⟨d, lt, w, hh, u, o, hd, hs, _⟩ := h3
  obtain ⟨k1, k2, k3, k4, k5, k6, k7, k8⟩ := h5
  obtain ⟨v, IO', IS', IN', IK', M', e1, e2, e3, x1, x2, x3⟩ := q_image (K := K) (C := C) a ⟨nm, np, d, lt, w, hh, hd, h2, hs, h4⟩ k6
  have hy : ∀ k, k ≠ 0 → M'.1 0 k = M.1 0 k := fun k k0 => by rw [x1]; exact up_ne k0
  exact ⟨v, IO', IS', IN', IK', M', e1, e2, RT_f h1 rfl (hy 2 (by omega)) (x2 1 (by omega) (by omega) (by omega)), RLo_f h2 (fun k _ => by rw [x2 6 (by omega) (by omega) (by omega)]) (fun j _ => by rw [x3 9 (by omega)]), RSH_B (Nat.le_add_right _ _) (RSH_s h2.1.1.1 h3' (fun k _ _ => by rw [x2 6 (by omega) (by omega) (by omega)]) (x2 20 (by omega) (by omega) (by omega)) (hy 22 (by omega))), RSN_s h4 (fun k _ => by rw [x2 6 (by omega) (by omega) (by omega)]), TD_f k1 rfl (hy 38 (by omega)) (x2 37 (by omega) (by omega) (by omega)), k2.trans (hy 15 (by omega)).symm, RC_f k3 (hy 25 (by omega)) (x2 24 (by omega) (by omega) (by omega)), RWR_f k4 (hy 29 (by omega)) (hy 30 (by omega)) (x2 28 (by omega) (by omega) (by omega)), LK_f k5 rfl (hy 31 (by omega)) (hy 32 (by omega)), IM_B (Nat.le_add_right _ _) e3, LX_f k7 (hy 34 (by omega)) (x2 33 (by omega) (by omega) (by omega)), WT_g k8 (x3 10 (by omega))⟩
theorem g_restore (h : GR nm np n B L T K O S N Hy HS BT P RW IO IS IN IK M) (a : Int32) :
    ∃ v nm' np' O' S' N' Hy' M', f_X11_restore a K C O S N IO IS IN IK Hy HS = some (v, O', S', N', Hy') ∧ f_X12_restore a M = some (v, M') ∧ GR nm' np' n (B + 96000) L T K O' S' N' Hy' HS BT P RW IO IS IN IK M' := by
  obtain ⟨h1, h2, h3, h4, h5⟩ := h
  obtain ⟨k1, k2, k3, k4, k5, k6, k7, k8⟩ := h5
  obtain ⟨v, O', S', N', Hy', M', nm', np', e1, e2, e3, e4, e5, e6, x1, x2, x3⟩ := q_restore (K := K) (C := C) a h2 h3 h4 k6
  have hy : ∀ k, k ≠ 0 → k ≠ 22 → M'.1 0 k = M.1 0 k := fun k k0 k2 => by rw [x1 k k2]; exact up_ne k0
  exact ⟨v, nm', np', O', S', N', Hy', M', e1, e2, RT_f h1 rfl (hy 2 (by omega) (by omega)) (x2 1 (by omega) (by omega)), e3, RSH_B (Nat.le_add_right _ _) e4, e5, TD_f k1 rfl (hy 38 (by omega) (by omega)) (x2 37 (by omega) (by omega)), k2.trans (hy 15 (by omega) (by omega)).symm, RC_f k3 (hy 25 (by omega) (by omega)) (x2 24 (by omega) (by omega)), RWR_f k4 (hy 29 (by omega) (by omega)) (hy 30 (by omega) (by omega)) (x2 28 (by omega) (by omega)), LK_f k5 rfl (hy 31 (by omega) (by omega)) (hy 32 (by omega) (by omega)), IM_B (Nat.le_add_right _ _) e6, LX_f k7 (hy 34 (by omega) (by omega)) (x2 33 (by omega) (by omega)), WT_g k8 (x3 10 (by omega))⟩
theorem g_office {R RO' : kD} (h : GR nm np n B L T K O S N Hy HS BT P RW IO IS IN IK M) :
    ∃ v nm' np' K' R' O' S' N' Hy' RO'' M', f_X11_office K T R C O S N Hy HS RO' = some (v, K', R', O', S', N', Hy', RO'') ∧ f_X12_office M = some (v, M') ∧ GR nm' np' 0 (B + 96000) L T K' O' S' N' Hy' HS BT P RW IO IS IN IK M' := by
  obtain ⟨h1, h2, h3, h4, h5⟩ := h
  obtain ⟨k1, k2, k3, k4, k5, k6, k7, k8⟩ := h5
  obtain ⟨r, R', RO'', M', ⟨x1, x2, x3, x4⟩, e1, -, e2, e3⟩ := q_office (R := R) (C := C) (O := O) (S := S) (N := N) (Hy := Hy) (RO' := RO') (HS := HS) h1 k8
  have y : ∀ k, k ∈ [25, 29, 30, 31, 32, 34, 38] → M'.1 0 k = M.1 0 k := fun k hk => x1 k (nx hk (by decide)) (nx hk (by decide)) (nx hk (by decide)) (nx hk (by decide)) (nx hk (by decide)) (nx hk (by decide)) (nx hk (by decide)) (nx hk (by decide)) (nx hk (by decide)) (nx hk (by decide)) (nx hk (by decide)) (nx hk (by decide)) (nx hk (by decide)) (nx hk (by decide))
  have z : ∀ b, b ∈ [20, 24, 28, 33, 37, 46, 48] → M'.1 b = M.1 b := fun b hb => x2 b (nx hb (by decide)) (nx hb (by decide)) (nx hb (by decide))
  have hK : ∀ k, k ≠ 1 → k ≠ 16 → (kI (kI K 0 1 (nI 0)) 0 16 (M'.1 0 15)).1 0 k = K.1 0 k := fun k a b => by
    show upd (upd (K.1 0) 1 (nI 0)) 16 (M'.1 0 15) k = _
    rw [up_ne b, up_ne a]
  have hG : GK (B + 96000) L (kI (kI K 0 1 (nI 0)) 0 16 (M'.1 0 15)) BT P RW IO IS IN IK M' := ⟨TD_f k1 (hK 15 (by omega) (by omega)) (y 38 (by decide)) (z 37 (by decide)), (show upd ((kI K 0 1 (nI 0)).1 0) 16 (M'.1 0 15) 16 = _ from up_eq), RC_f k3 (y 25 (by decide)) (z 24 (by decide)), RWR_f k4 (y 29 (by decide)) (y 30 (by decide)) (z 28 (by decide)), LK_f k5 (hK 17 (by omega) (by omega)) (y 31 (by decide)) (y 32 (by decide)), IM_M (z 46 (by decide)) (z 48 (by decide)) (x3 47 (by omega) (by omega)) (IM_B (Nat.le_add_right _ _) k6), LX_f k7 (y 34 (by decide)) (z 33 (by decide)), WT_g k8 (x3 10 (by omega) (by omega))⟩
  rcases e3 with ⟨f1, f2, f3, f4⟩ | ⟨O', S', N', nm', np', f1, f2, f3, f4, f5, f6, f7⟩
  · exact ⟨r, nm, np, _, R', O, S, N, Hy, RO'', M', f1, e2, e1, RLo_f h2 (fun k _ => by rw [f2]) f3, RSH_B (Nat.le_add_right _ _) (RSH_s h2.1.1.1 h3 (fun k _ _ => by rw [f2]) (z 20 (by decide)) f4), RSN_s h4 (fun k _ => by rw [f2]), hG⟩
  · obtain ⟨d, lt, w, hh, u, o, hd, hs, hH, hu⟩ := h3
    refine ⟨r, nm', np', _, R', O', S', N', _, RO'', M', f1, e2, e1, f2, ⟨0, 0, 0, 0, 0, o, by omega, RS_B (Nat.zero_le _) f3, ⟨by omega, hH.2.1, (show upd (Hy.1 0) 0 (nI 0) 0 = _ from up_eq), ?_, fun i hi => absurd hi (Nat.not_lt_zero i)⟩, f6⟩, RSN_0 f5 (f7 98 (by omega) (by omega)), hG⟩
    show upd (Hy.1 0) 0 (nI 0) 1 = _
    rw [up_ne (by omega)]; exact hH.2.2.2.1
end gr2
