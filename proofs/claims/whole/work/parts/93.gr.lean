/-! the relation of all, and each call under it -/
theorem nx {X : List Nat} {k c : Nat} (hk : k ∈ X) (hc : c ∉ X) : k ≠ c := fun e => hc (e ▸ hk)
theorem RT_f {n : Nat} {K K' M M' : kD} {T : Nat → Int32} (h : RT n K T M) (k1 : K'.1 0 1 = K.1 0 1) (m2 : M'.1 0 2 = M.1 0 2) (b1 : M'.1 1 = M.1 1) : RT n K' T M' := by
  obtain ⟨h1, h2, h3, h4⟩ := h
  exact ⟨h1, k1.trans h2, m2.trans h3, fun i hi => by rw [b1]; exact h4 i hi⟩
theorem WT_g {M M' : kD} (h : WT M) (g : M'.2 10 = M.2 10) : WT M' := by
  unfold WT at h ⊢
  rw [g]; exact h
theorem TD_f {K K' M M' : kD} {BT : Nat → Int32} (h : TD K BT M) (k1 : K'.1 0 15 = K.1 0 15) (m1 : M'.1 0 38 = M.1 0 38) (b1 : M'.1 37 = M.1 37) : TD K' BT M' := by
  unfold TD at h ⊢
  rw [k1, m1, b1]; exact h
theorem RC_f {P M M' : kD} (h : RC P M) (m1 : M'.1 0 25 = M.1 0 25) (b1 : M'.1 24 = M.1 24) : RC P M' := by
  unfold RC at h ⊢
  rw [m1, b1]; exact h
theorem RWR_f {P M M' : kD} (h : RWR P M) (m1 : M'.1 0 29 = M.1 0 29) (m2 : M'.1 0 30 = M.1 0 30) (b1 : M'.1 28 = M.1 28) : RWR P M' := by
  unfold RWR at h ⊢
  rw [m1, m2, b1]; exact h
theorem LK_f {K K' M M' : kD} (h : LK K M) (k1 : K'.1 0 17 = K.1 0 17) (m1 : M'.1 0 31 = M.1 0 31) (m2 : M'.1 0 32 = M.1 0 32) : LK K' M' := by
  unfold LK at h ⊢
  rw [k1, m1, m2]; exact h
theorem LX_f {L : List Nat} {M M' : kD} (h : LX L M) (m1 : M'.1 0 34 = M.1 0 34) (b1 : M'.1 33 = M.1 33) : LX L M' := by
  unfold LX at h ⊢
  rw [m1, b1]; exact h
theorem RLo_f {nm np : Nat} {O M M' : kD} (h : RLo nm np O (M.1 6) (M.2 9)) (hs : ∀ k, k < 39 → M'.1 6 k = M.1 6 k) (hB : ∀ j, j < 14 → M'.2 9 j = M.2 9 j) : RLo nm np O (M'.1 6) (M'.2 9) :=
  RL_O h (fun _ _ => rfl) (fun _ _ => ⟨rfl, rfl, rfl⟩) (fun _ _ => ⟨rfl, rfl, rfl, rfl⟩) hs hB
/-- what few calls touch -/
def GK (B : Nat) (L : List Nat) (K : kD) (BT : Nat → Int32) (P RW : kD) (IO IS IN : Nat → kD) (IK : Nat → Int32) (M : kD) : Prop := TD K BT M ∧ K.1 0 16 = M.1 0 15 ∧ RC P M ∧ RWR RW M ∧ LK K M ∧ IM B IO IS IN IK M ∧ LX L M ∧ WT M
theorem GK_f {B B' : Nat} {L : List Nat} {K K' P RW M M' : kD} {BT : Nat → Int32} {IO IS IN : Nat → kD} {IK : Nat → Int32} (h : GK B L K BT P RW IO IS IN IK M) (hB : B ≤ B') (k : ∀ k, k ∈ [15, 16, 17] → K'.1 0 k = K.1 0 k) (m : ∀ k, k ∈ [15, 25, 29, 30, 31, 32, 34, 38] → M'.1 0 k = M.1 0 k) (b : ∀ b, b ∈ [24, 28, 33, 37, 46, 48] → M'.1 b = M.1 b) (l47 : M'.2 47 = M.2 47) (l10 : M'.2 10 = M.2 10) : GK B' L K' BT P RW IO IS IN IK M' := by
  obtain ⟨h1, h2, h3, h4, h5, h6, h7, h8⟩ := h
  exact ⟨TD_f h1 (k 15 (by decide)) (m 38 (by decide)) (b 37 (by decide)), ((k 16 (by decide)).trans h2).trans (m 15 (by decide)).symm, RC_f h3 (m 25 (by decide)) (b 24 (by decide)), RWR_f h4 (m 29 (by decide)) (m 30 (by decide)) (b 28 (by decide)), LK_f h5 (k 17 (by decide)) (m 31 (by decide)) (m 32 (by decide)), IM_M (b 46 (by decide)) (b 48 (by decide)) l47 (IM_B hB h6), LX_f h7 (m 34 (by decide)) (b 33 (by decide)), WT_g h8 l10⟩
/-- the relation of all -/
def GR (nm np n B : Nat) (L : List Nat) (T : Nat → Int32) (K O S N Hy : kD) (HS : Nat → kD) (BT : Nat → Int32) (P RW : kD) (IO IS IN : Nat → kD) (IK : Nat → Int32) (M : kD) : Prop := RT n K T M ∧ RLo nm np O (M.1 6) (M.2 9) ∧ RSH nm np B S Hy HS M ∧ RSN nm np N (M.1 6) ∧ GK B L K BT P RW IO IS IN IK M
section gr
variable {nm np n B : Nat} {L : List Nat} {T : Nat → Int32} {K O S N Hy C P RW M : kD} {HS : Nat → kD} {BT : Nat → Int32} {IO IS IN : Nat → kD} {IK : Nat → Int32}
theorem GR_0 (h : GR nm np n B L T K O S N Hy HS BT P RW IO IS IN IK M) (v : Int32) : GR nm np n (B + 96000) L T K O S N Hy HS BT P RW IO IS IN IK (kI M 0 0 v) := by
  obtain ⟨h1, h2, h3, h4, h5⟩ := h
  refine ⟨h1, h2, RSH_B (Nat.le_add_right _ _) (RSH_0 v h3), h4, GK_f h5 (Nat.le_add_right _ _) (fun _ _ => rfl) (fun k hk => ?_) (fun b hb => ?_) rfl rfl⟩
  · show upd (M.1 0) 0 v k = _
    exact up_ne (nx hk (by decide))
  · exact if_neg (nx hb (by decide))
/-- acts on the state -/
theorem GR_X {B' : Nat} {S' Hy' M' : kD} {HS' : Nat → kD} (h : GR nm np n B L T K O S N Hy HS BT P RW IO IS IN IK M) (hx : MX M M') (hB : B' ≤ B + 96000) (hr : RSH nm np B' S' Hy' HS' M') : GR nm np n (B + 96000) L T K O S' N Hy' HS' BT P RW IO IS IN IK M' := by
  obtain ⟨h1, h2, h3, h4, h5⟩ := h
  obtain ⟨x1, x2, x3, x4, x5⟩ := hx
  refine ⟨RT_f h1 rfl (x3 2 (by omega) (by omega) (by omega)) (x2 1 (by omega) (by omega) (by omega) (by omega)), RLo_f h2 x4 (fun j _ => by rw [x1]), RSH_B hB hr, RSN_s h4 x5, GK_f h5 (Nat.le_add_right _ _) (fun _ _ => rfl) (fun k hk => x3 k (nx hk (by decide)) (nx hk (by decide)) (nx hk (by decide))) (fun b hb => x2 b (nx hb (by decide)) (nx hb (by decide)) (nx hb (by decide)) (nx hb (by decide))) (by rw [x1]) (by rw [x1])⟩
theorem g_feed (h : GR nm np n B L T K O S N Hy HS BT P RW IO IS IN IK M) (a b c d e : Int32) :
    ∃ v n' K' T' M', f_X11_feed a b c d e K T = some (v, K', T') ∧ f_X12_feed a b c d e M = some (v, M') ∧ GR nm np n' (B + 96000) L T' K' O S N Hy HS BT P RW IO IS IN IK M' := by
  obtain ⟨h1, h2, h3, h4, h5⟩ := h
  obtain ⟨v, n', K', T', M', e1, e2, e3, e4, x1, x2, x3⟩ := q_feed h1 a b c d e
  exact ⟨v, n', K', T', M', e1, e2, e3, RLo_f h2 (fun k _ => by rw [x2 6 (by omega) (by omega)]) (fun j _ => by rw [x1]), RSH_B (Nat.le_add_right _ _) (RSH_s h2.1.1.1 h3 (fun k _ _ => by rw [x2 6 (by omega) (by omega)]) (x2 20 (by omega) (by omega)) (x3 22 (by omega) (by omega))), RSN_s h4 (fun k _ => by rw [x2 6 (by omega) (by omega)]), GK_f h5 (Nat.le_add_right _ _) (fun k hk => e4 k (nx hk (by decide))) (fun k hk => x3 k (nx hk (by decide)) (nx hk (by decide))) (fun b hb => x2 b (nx hb (by decide)) (nx hb (by decide))) (by rw [x1]) (by rw [x1])⟩
theorem g_end (h : GR nm np n B L T K O S N Hy HS BT P RW IO IS IN IK M) (a : Int32) :
    ∃ v n' K' M', f_X11_end a K = some (v, K') ∧ f_X12_end a M = some (v, M') ∧ GR nm np n' (B + 96000) L T K' O S N Hy HS BT P RW IO IS IN IK M' := by
  obtain ⟨h1, h2, h3, h4, h5⟩ := h
  obtain ⟨v, n', K', M', e1, e2, e3, e4, x1, x2, x3⟩ := q_end h1 a
  exact ⟨v, n', K', M', e1, e2, e3, RLo_f h2 (fun k _ => by rw [x2 6 (by omega) (by omega)]) (fun j _ => by rw [x1]), RSH_B (Nat.le_add_right _ _) (RSH_s h2.1.1.1 h3 (fun k _ _ => by rw [x2 6 (by omega) (by omega)]) (x2 20 (by omega) (by omega)) (x3 22 (by omega) (by omega))), RSN_s h4 (fun k _ => by rw [x2 6 (by omega) (by omega)]), GK_f h5 (Nat.le_add_right _ _) (fun k hk => e4 k (nx hk (by decide))) (fun k hk => x3 k (nx hk (by decide)) (nx hk (by decide))) (fun b hb => x2 b (nx hb (by decide)) (nx hb (by decide))) (by rw [x1]) (by rw [x1])⟩
theorem g_fault (h : GR nm np n B L T K O S N Hy HS BT P RW IO IS IN IK M) : ∃ M', f_X12_fault M = some (f_X11_fault K, M') ∧ GR nm np n (B + 96000) L T K O S N Hy HS BT P RW IO IS IN IK M' :=
  ⟨_, q_fault h.2.2.2.2.2.1, GR_0 h _⟩
theorem g_machine (h : GR nm np n B L T K O S N Hy HS BT P RW IO IS IN IK M) (a b : Int32) : (∀ v, GR nm np n (B + 96000) L T K O S N Hy HS BT P RW IO IS IN IK (kI M 0 0 v)) ∧ TH M (f_X11_machine a b O S) (f_X12_machine a b M) := by
  obtain ⟨d, lt, w, hh, u, o, hd, hs, _⟩ := h.2.2.1
  exact ⟨fun v => GR_0 h v, q_machine h.2.1.1 hs a b⟩
theorem g_part (h : GR nm np n B L T K O S N Hy HS BT P RW IO IS IN IK M) (hB : B ≤ 300000000) (a b : Int32) : (∀ v, GR nm np n (B + 96000) L T K O S N Hy HS BT P RW IO IS IN IK (kI M 0 0 v)) ∧ TH M (f_X11_part a b O S) (f_X12_part a b M) := by
  obtain ⟨d, lt, w, hh, u, o, hd, hs, _⟩ := h.2.2.1
  exact ⟨fun v => GR_0 h v, q_part h.2.1.1 hs hB a b⟩
theorem g_phrase (h : GR nm np n B L T K O S N Hy HS BT P RW IO IS IN IK M) (a b : Int32) : ∃ v M', f_X11_phrase a b K C O S N = some v ∧ f_X12_phrase a b M = some (v, M') ∧ GR nm np n (B + 96000) L T K O S N Hy HS BT P RW IO IS IN IK M' := by
  obtain ⟨v, e1, e2⟩ := q_phrase (S := S) (K := K) (C := C) (N := N) h.2.1.1 a b
  exact ⟨v, _, e1, e2, GR_0 h _⟩
theorem g_owes (h : GR nm np n B L T K O S N Hy HS BT P RW IO IS IN IK M) (a b : Int32) : ∃ v M', f_X11_owes a b K C O S N = some v ∧ f_X12_owes a b M = some (v, M') ∧ GR nm np n (B + 96000) L T K O S N Hy HS BT P RW IO IS IN IK M' := by
  obtain ⟨d, lt, w, hh, u, o, hd, hs, _⟩ := h.2.2.1
  obtain ⟨v, e1, e2⟩ := q_owes (K := K) (C := C) (N := N) h.2.1.1 hs a b
  exact ⟨v, _, e1, e2, GR_0 h _⟩
theorem g_now (h : GR nm np n B L T K O S N Hy HS BT P RW IO IS IN IK M) (a : Int32) : ∃ v M', f_X11_now a K C O S N = some v ∧ f_X12_now a M = some (v, M') ∧ GR nm np n (B + 96000) L T K O S N Hy HS BT P RW IO IS IN IK M' := by
  obtain ⟨d, lt, w, hh, u, o, hd, hs, _⟩ := h.2.2.1
  obtain ⟨v, e1, e2⟩ := q_now (K := K) (C := C) (N := N) h.2.1.1 hs a
  exact ⟨v, _, e1, e2, GR_0 h _⟩
theorem g_write (h : GR nm np n B L T K O S N Hy HS BT P RW IO IS IN IK M) (hB : B ≤ 300000000) (a b : Int32) : ∃ v S' Hy' HS' M', f_X11_write a b K C O S N Hy HS = some (v, S', Hy', HS') ∧ f_X12_write a b M = some (v, M') ∧ GR nm np n (B + 96000) L T K O S' N Hy' HS' BT P RW IO IS IN IK M' := by
  obtain ⟨v, S', Hy', HS', M', e1, e2, e3, e4⟩ := q_write (K := K) (C := C) (N := N) h.2.1.1 h.2.2.1 (by omega) a b
  exact ⟨v, S', Hy', HS', M', e1, e2, GR_X h e3 (by omega) e4⟩
theorem g_sit (h : GR nm np n B L T K O S N Hy HS BT P RW IO IS IN IK M) (a : Int32) : ∃ v S' Hy' HS' M', f_X11_sit a K C O S N Hy HS = some (v, S', Hy', HS') ∧ f_X12_sit a M = some (v, M') ∧ GR nm np n (B + 96000) L T K O S' N Hy' HS' BT P RW IO IS IN IK M' := by
  obtain ⟨v, S', Hy', HS', M', e1, e2, e3, e4⟩ := q_sit (K := K) (C := C) (N := N) h.2.1.1 h.2.2.1 a
  exact ⟨v, S', Hy', HS', M', e1, e2, GR_X h e3 (by omega) e4⟩
theorem g_leave (h : GR nm np n B L T K O S N Hy HS BT P RW IO IS IN IK M) (a : Int32) : ∃ v S' Hy' HS' M', f_X11_leave a K C O S N Hy HS = some (v, S', Hy', HS') ∧ f_X12_leave a M = some (v, M') ∧ GR nm np n (B + 96000) L T K O S' N Hy' HS' BT P RW IO IS IN IK M' := by
  obtain ⟨v, S', Hy', HS', M', e1, e2, e3, e4⟩ := q_leave (K := K) (C := C) (N := N) h.2.1.1 h.2.2.1 a
  exact ⟨v, S', Hy', HS', M', e1, e2, GR_X h e3 (by omega) e4⟩
theorem g_ribbon (h : GR nm np n B L T K O S N Hy HS BT P RW IO IS IN IK M) (a b : Int32) : ∃ v S' Hy' HS' M', f_X11_ribbon a b K C O S N Hy HS = some (v, S', Hy', HS') ∧ f_X12_ribbon a b M = some (v, M') ∧ GR nm np n (B + 96000) L T K O S' N Hy' HS' BT P RW IO IS IN IK M' := by
  obtain ⟨v, S', Hy', HS', M', e1, e2, e3, e4⟩ := q_ribbon (K := K) (C := C) (N := N) h.2.1.1 h.2.2.1 a b
  exact ⟨v, S', Hy', HS', M', e1, e2, GR_X h e3 (by omega) e4⟩
theorem g_clear (h : GR nm np n B L T K O S N Hy HS BT P RW IO IS IN IK M) : ∃ v S' Hy' HS' M', f_X11_clear K C O S N Hy HS = some (v, S', Hy', HS') ∧ f_X12_clear M = some (v, M') ∧ GR nm np n (B + 96000) L T K O S' N Hy' HS' BT P RW IO IS IN IK M' := by
  obtain ⟨v, S', Hy', HS', M', e1, e2, e3, e4⟩ := q_clear (K := K) (C := C) (N := N) h.2.1.1 h.2.2.1
  exact ⟨v, S', Hy', HS', M', e1, e2, GR_X h e3 (by omega) e4⟩
theorem g_days (h : GR nm np n B L T K O S N Hy HS BT P RW IO IS IN IK M) (hB : B ≤ 300000000) (a : Int32) : ∃ v S' Hy' HS' M', f_X11_days a K C O S N Hy HS = some (v, S', Hy', HS') ∧ f_X12_days a M = some (v, M') ∧ GR nm np n (B + 96000) L T K O S' N Hy' HS' BT P RW IO IS IN IK M' := by
  obtain ⟨v, S', Hy', HS', M', e1, e2, e3, e4⟩ := q_days (K := K) (C := C) (N := N) h.2.1.1 h.2.2.1 (by omega) a
  exact ⟨v, S', Hy', HS', M', e1, e2, GR_X h e3 (by omega) e4⟩
theorem g_undo (h : GR nm np n B L T K O S N Hy HS BT P RW IO IS IN IK M) : ∃ v S' Hy' M', f_X11_undo K C O S N Hy HS = some (v, S', Hy') ∧ f_X12_undo M = some (v, M') ∧ GR nm np n (B + 96000) L T K O S' N Hy' HS BT P RW IO IS IN IK M' := by
  obtain ⟨v, S', Hy', M', e1, e2, e3, e4⟩ := q_undo (K := K) (C := C) (N := N) h.2.1.1 h.2.2.1
  exact ⟨v, S', Hy', M', e1, e2, GR_X h e3 (by omega) e4⟩
theorem g_drawn {D : kD} (h : GR nm np n B L T K O S N Hy HS BT P RW IO IS IN IK M) (hB : B ≤ 300000000) (a x : Int32) : ∃ v S' Hy' HS' D' M', f_X11_drawn a x K C O S N Hy HS D = some (v, S', Hy', HS', D') ∧ f_X12_drawn a x M = some (v, M') ∧ GR nm np n (B + 96000) L T K O S' N Hy' HS' BT P RW IO IS IN IK M' := by
  obtain ⟨v, S', Hy', HS', D', M', e1, e2, e3, e4⟩ := q_drawn (K := K) (C := C) (N := N) (D := D) h.2.1.1 h.2.2.1 (by omega) a x
  exact ⟨v, S', Hy', HS', D', M', e1, e2, GR_X h e3 (by omega) e4⟩
theorem g_silent {TR : kD} (h : GR nm np n B L T K O S N Hy HS BT P RW IO IS IN IK M) (hB : B ≤ 300000000) : ∃ v TR' M', f_X11_silent K C O S N TR = some (v, TR') ∧ f_X12_silent M = some (v, M') ∧ GR nm np n (B + 96000) L T K O S N Hy HS BT P RW IO IS IN IK M' := by
  obtain ⟨v, TR', M', e1, e2, e3, e4⟩ := q_silent (K := K) (C := C) (N := N) (TR := TR) h.2.1.1 h.2.2.1 (by omega)
  exact ⟨v, TR', M', e1, e2, GR_X h e3 (by omega) e4⟩
theorem g_odds {TR D : kD} (h : GR nm np n B L T K O S N Hy HS BT P RW IO IS IN IK M) (hB : B ≤ 300000000) (a c x : Int32) : ∃ v TR' D' M', f_X11_odds a c x K C O S N TR D = some (v, TR', D') ∧ f_X12_odds a c x M = some (v, M') ∧ GR nm np n (B + 96000) L T K O S N Hy HS BT P RW IO IS IN IK M' := by
  obtain ⟨v, TR', D', M', e1, e2, e3, e4⟩ := q_odds (K := K) (C := C) (N := N) (TR := TR) (D := D) h.2.1.1 h.2.2.1 (by omega) a c x
  exact ⟨v, TR', D', M', e1, e2, GR_X h e3 (by omega) e4⟩
theorem g_comesAt (h : GR nm np n B L T K O S N Hy HS BT P RW IO IS IN IK M) (a : Int32) : ∃ v M', f_X11_comesAt a K P = some v ∧ f_X12_comesAt a M = some (v, M') ∧ GR nm np n (B + 96000) L T K O S N Hy HS BT P RW IO IS IN IK M' := by
  obtain ⟨v, e1, e2⟩ := q_comesAt h.2.2.2.2.2.2.1 K a
  exact ⟨v, _, e1, e2, GR_0 h _⟩
theorem g_waysAt (h : GR nm np n B L T K O S N Hy HS BT P RW IO IS IN IK M) (a : Int32) : ∃ v M', f_X11_waysAt a K RW = some v ∧ f_X12_waysAt a M = some (v, M') ∧ GR nm np n (B + 96000) L T K O S N Hy HS BT P RW IO IS IN IK M' := by
  obtain ⟨v, e1, e2⟩ := q_waysAt h.2.2.2.2.2.2.2.1 K a
  exact ⟨v, _, e1, e2, GR_0 h _⟩
theorem g_ask (h : GR nm np n B L T K O S N Hy HS BT P RW IO IS IN IK M) : ∃ M', f_X12_ask M = some (f_X11_ask K RW, M') ∧ GR nm np n (B + 96000) L T K O S N Hy HS BT P RW IO IS IN IK M' :=
  ⟨_, q_askC h.2.2.2.2.2.2.2.1 K, GR_0 h _⟩
theorem g_look (h : GR nm np n B L T K O S N Hy HS BT P RW IO IS IN IK M) : ∃ M', f_X12_look M = some (f_X11_look K, M') ∧ GR nm np n (B + 96000) L T K O S N Hy HS BT P RW IO IS IN IK M' :=
  ⟨_, q_look h.2.2.2.2.2.2.2.2.1, GR_0 h _⟩
theorem g_told (h : GR nm np n B L T K O S N Hy HS BT P RW IO IS IN IK M) (a : Int32) : ∃ v M', f_X11_told a K BT = some v ∧ f_X12_told a M = some (v, M') ∧ GR nm np n (B + 96000) L T K O S N Hy HS BT P RW IO IS IN IK M' := by
  obtain ⟨v, e1, e2⟩ := q_told h.2.2.2.2.1 a
  exact ⟨v, _, e1, e2, GR_0 h _⟩
theorem g_count (h : GR nm np n B L T K O S N Hy HS BT P RW IO IS IN IK M) (a : Int32) : ∃ M', f_X12_count a M = some (f_X11_count a K C O S N, M') ∧ GR nm np n (B + 96000) L T K O S N Hy HS BT P RW IO IS IN IK M' :=
  ⟨_, q_countC h.1 h.2.1.1 a, GR_0 h _⟩
theorem g_byteAt (h : GR nm np n B L T K O S N Hy HS BT P RW IO IS IN IK M) (a : Int32) : ∃ M' v, f_X12_byteAt a M = some (v, M') ∧ ((∃ j, j < L.length ∧ a = nI j ∧ v = nI (L.getD j 0)) ∨ ((∀ j, j < L.length → a ≠ nI j) ∧ v = mI)) ∧ GR nm np n (B + 96000) L T K O S N Hy HS BT P RW IO IS IN IK M' := by
  rcases q_byteAtM h.2.2.2.2.2.2.2.2.2.2.1 a with ⟨j, j1, j2, j3⟩ | ⟨j1, j2⟩
  · exact ⟨_, _, j3, Or.inl ⟨j, j1, j2, rfl⟩, GR_0 h _⟩
  · exact ⟨_, _, j2, Or.inr ⟨j1, rfl⟩, GR_0 h _⟩
/-- calls that take the tape, and touch nothing else -/
theorem GR_Z {M' : kD} (h : GR nm np n B L T K O S N Hy HS BT P RW IO IS IN IK M) (hx : MXz M M') (hR : RT 0 (kI K 0 1 (nI 0)) T M') : GR nm np 0 (B + 96000) L T (kI K 0 1 (nI 0)) O S N Hy HS BT P RW IO IS IN IK M' := by
  obtain ⟨h1, h2, h3, h4, h5⟩ := h
  obtain ⟨x1, x2, x3, x4⟩ := hx
  refine ⟨hR, RLo_f h2 (fun k _ => by rw [x2 6 (by omega)]) (fun j _ => by rw [x1]), RSH_B (Nat.le_add_right _ _) (RSH_s h2.1.1.1 h3 (fun k _ _ => by rw [x2 6 (by omega)]) (x2 20 (by omega)) (x3 22 (by omega) (by omega) (by omega) (by omega) (by omega))), RSN_s h4 (fun k _ => by rw [x2 6 (by omega)]), GK_f h5 (Nat.le_add_right _ _) (fun k hk => ?_) (fun k hk => x3 k (nx hk (by decide)) (nx hk (by decide)) (nx hk (by decide)) (nx hk (by decide)) (nx hk (by decide))) (fun b hb => x2 b (nx hb (by decide))) (by rw [x1]) (by rw [x1])⟩
  show upd (K.1 0) 1 (nI 0) k = _
  exact up_ne (nx hk (by decide))
theorem g_lacks (h : GR nm np n B L T K O S N Hy HS BT P RW IO IS IN IK M) : ∃ v M', f_X11_lacks K T C O S N = some (v, kI K 0 1 (nI 0)) ∧ f_X12_lacks M = some (v, M') ∧ GR nm np 0 (B + 96000) L T (kI K 0 1 (nI 0)) O S N Hy HS BT P RW IO IS IN IK M' := by
  obtain ⟨v, M', e1, e2, e3, e4, e5⟩ := q_lacks (C := C) (S := S) (N := N) h.1 h.2.1.1
  exact ⟨v, M', e1, e2, GR_Z h e4 e3⟩
theorem g_ship (h : GR nm np n B L T K O S N Hy HS BT P RW IO IS IN IK M) : ∃ v M', f_X11_ship K T = some (v, kI K 0 1 (nI 0)) ∧ f_X12_ship M = some (v, M') ∧ GR nm np 0 (B + 96000) L T (kI K 0 1 (nI 0)) O S N Hy HS BT P RW IO IS IN IK M' := by
  obtain ⟨v, M', e1, e2, e3, e4, e5⟩ := q_ship h.1
  exact ⟨v, M', e1, e2, GR_Z h e4 e3⟩
end gr
