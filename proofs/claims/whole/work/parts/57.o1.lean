/-! machine-free: OFFICE read: both sides' data -/
theorem up_ne {f : Nat → Int32} {k j : Nat} {x : Int32} (h : ¬ j = k) : upd f k x j = f j := by rw [q_up, if_neg h]
theorem up_eq {f : Nat → Int32} {k : Nat} {x : Int32} : upd f k x k = x := by rw [q_up, if_pos rfl]
theorem uL_ne {f : Nat → Int64} {k j : Nat} {x : Int64} (h : ¬ j = k) : vp_updL f k x j = f j := by rw [q_upL, if_neg h]
theorem uL_eq {f : Nat → Int64} {k : Nat} {x : Int64} : vp_updL f k x k = x := by rw [q_upL, if_pos rfl]
def RF (nm np : Nat) (O : kD) (h : Nat → Int32) (B : Nat → Int64) : Prop := RO nm np O h ∧ (∀ m, m < nm → ∃ i, i ≤ 999 ∧ O.1 5 m = nI i ∧ h (3 + m) = nI i) ∧ NR nm 14 (O.2 4) B ∧ NR np 20 (O.2 7) B ∧ (∀ m, nm ≤ m → m < 6 → h (3 + m) = nI 0 ∧ h (9 + m) = nI 0) ∧ (∀ q, np ≤ q → q < 8 → h (15 + q) = nI 0 ∧ h (23 + q) = nI 0 ∧ h (31 + q) = nI 0)
theorem RF_m {nm np : Nat} {O O' : kD} {h : Nat → Int32} {B : Nat → Int64} (hr : RF nm np O h B) (hn : nm < 6) {l : List Nat} {x y : Int64} (hl : NM l x y) {i : Nat} (hi : i ≤ 999) (o1 : O'.1 0 1 = nI (nm + 1)) (o2 : O'.1 0 2 = O.1 0 2) (o3 : O'.1 0 3 = O.1 0 3) (o5 : O'.1 5 = upd (O.1 5) nm (nI i)) (o6 : O'.1 6 = upd (O.1 6) nm (nI 0)) (o8 : O'.1 8 = O.1 8) (o9 : O'.1 9 = O.1 9) (o10 : O'.1 10 = O.1 10) (l4 : O'.2 4 = vp_updL (O.2 4) nm x) (l7 : O'.2 7 = O.2 7) :
    RF (nm + 1) np O' (upd (upd h (3 + nm) (nI i)) 0 (nI (nm + 1))) (vp_updL B (14 + nm) y) := by
  obtain ⟨⟨⟨c1, c2⟩, ⟨s0, s1, p1, p2, p3⟩, hk, hc, hd, ha⟩, hI, hN1, hN2, hZ1, hZ2⟩ := hr
  have hup : ∀ j, j ≠ 0 → j ≠ 3 + nm → upd (upd h (3 + nm) (nI i)) 0 (nI (nm + 1)) j = h j := by
    intro j j1 j2
    rw [up_ne j1, up_ne j2]
  refine ⟨⟨⟨by omega, c2⟩, ⟨up_eq, ?_, o1, o2.trans p2, ?_⟩, fun m hm => ?_, fun q hq => ?_, fun q hq => ?_, fun q hq => ?_⟩, fun m hm => ?_, fun m hm => ?_, fun q hq => ?_, fun m hm1 hm2 => ?_, fun q hq1 hq2 => ?_⟩
  · rw [hup 1 (by omega) (by omega)]; exact s1
  · rw [hup 2 (by omega) (by omega), o3]; exact p3
  · rw [hup (9 + m) (by omega) (by omega), o6]
    by_cases e : m = nm
    · subst e
      exact ⟨0, Nat.two_pow_pos np, up_eq, (hZ1 m (Nat.le_refl m) hn).2⟩
    · rw [up_ne e]; exact hk m (by omega)
  · rw [hup (15 + q) (by omega) (by omega), o8]; exact hc q hq
  · rw [hup (23 + q) (by omega) (by omega), o9]; exact hd q hq
  · rw [hup (31 + q) (by omega) (by omega), o10]; exact ha q hq
  · rw [o5]
    by_cases e : m = nm
    · subst e
      refine ⟨i, hi, up_eq, ?_⟩
      rw [up_ne (by omega), up_eq]
    · rw [up_ne e, hup (3 + m) (by omega) (by omega)]; exact hI m (by omega)
  · rw [l4]
    by_cases e : m = nm
    · subst e
      rw [uL_eq, uL_eq]; exact ⟨l, hl⟩
    · rw [uL_ne e, uL_ne (by omega)]; exact hN1 m (by omega)
  · rw [l7, uL_ne (by omega)]; exact hN2 q hq
  · rw [hup (3 + m) (by omega) (by omega), hup (9 + m) (by omega) (by omega)]; exact hZ1 m (by omega) hm2
  · rw [hup (15 + q) (by omega) (by omega), hup (23 + q) (by omega) (by omega), hup (31 + q) (by omega) (by omega)]; exact hZ2 q hq1 hq2
theorem RF_p {nm np : Nat} {O O' : kD} {h : Nat → Int32} {B : Nat → Int64} (hr : RF nm np O h B) (hn : np < 8) {l : List Nat} {x y : Int64} (hl : NM l x y) {c d : Nat} (hc1 : 1 ≤ c) (hc2 : c ≤ 40) (hd2 : d ≤ 99) (o1 : O'.1 0 1 = O.1 0 1) (o2 : O'.1 0 2 = nI (np + 1)) (o3 : O'.1 0 3 = O.1 0 3) (o5 : O'.1 5 = O.1 5) (o6 : O'.1 6 = O.1 6) (o8 : O'.1 8 = upd (O.1 8) np (nI c)) (o9 : O'.1 9 = upd (O.1 9) np (nI d)) (o10 : O'.1 10 = upd (O.1 10) np (nI 0)) (l4 : O'.2 4 = O.2 4) (l7 : O'.2 7 = vp_updL (O.2 7) np x) :
    RF nm (np + 1) O' (upd (upd (upd h (15 + np) (nI c)) (23 + np) (nI d)) 1 (nI (np + 1))) (vp_updL B (20 + np) y) := by
  obtain ⟨⟨⟨c1, c2⟩, ⟨s0, s1, p1, p2, p3⟩, hk, hc, hd, ha⟩, hI, hN1, hN2, hZ1, hZ2⟩ := hr
  have hup : ∀ j, j ≠ 1 → j ≠ 15 + np → j ≠ 23 + np → upd (upd (upd h (15 + np) (nI c)) (23 + np) (nI d)) 1 (nI (np + 1)) j = h j := by
    intro j j1 j2 j3
    rw [up_ne j1, up_ne j3, up_ne j2]
  refine ⟨⟨⟨c1, by omega⟩, ⟨?_, up_eq, o1.trans p1, o2, ?_⟩, fun m hm => ?_, fun q hq => ?_, fun q hq => ?_, fun q hq => ?_⟩, fun m hm => ?_, fun m hm => ?_, fun q hq => ?_, fun m hm1 hm2 => ?_, fun q hq1 hq2 => ?_⟩
  · rw [hup 0 (by omega) (by omega) (by omega)]; exact s0
  · rw [hup 2 (by omega) (by omega) (by omega), o3]; exact p3
  · rw [hup (9 + m) (by omega) (by omega) (by omega), o6]
    obtain ⟨k, k1, k2⟩ := hk m hm
    exact ⟨k, Nat.lt_of_lt_of_le k1 (Nat.pow_le_pow_right (by omega) (by omega)), k2⟩
  · rw [o8]
    by_cases e : q = np
    · subst e
      refine ⟨c, hc1, hc2, up_eq, ?_⟩
      rw [up_ne (by omega), up_ne (by omega), up_eq]
    · rw [up_ne e, hup (15 + q) (by omega) (by omega) (by omega)]; exact hc q (by omega)
  · rw [o9]
    by_cases e : q = np
    · subst e
      refine ⟨d, hd2, up_eq, ?_⟩
      rw [up_ne (by omega), up_eq]
    · rw [up_ne e, hup (23 + q) (by omega) (by omega) (by omega)]; exact hd q (by omega)
  · rw [o10, hup (31 + q) (by omega) (by omega) (by omega)]
    by_cases e : q = np
    · subst e
      exact ⟨0, by omega, up_eq, (hZ2 q (Nat.le_refl q) hn).2.2⟩
    · rw [up_ne e]; exact ha q (by omega)
  · rw [o5, hup (3 + m) (by omega) (by omega) (by omega)]; exact hI m hm
  · rw [l4, uL_ne (by omega)]; exact hN1 m hm
  · rw [l7]
    by_cases e : q = np
    · subst e
      rw [uL_eq, uL_eq]; exact ⟨l, hl⟩
    · rw [uL_ne e, uL_ne (by omega)]; exact hN2 q (by omega)
  · rw [hup (3 + m) (by omega) (by omega) (by omega), hup (9 + m) (by omega) (by omega) (by omega)]; exact hZ1 m (by omega) hm2
  · rw [hup (15 + q) (by omega) (by omega) (by omega), hup (23 + q) (by omega) (by omega) (by omega), hup (31 + q) (by omega) (by omega) (by omega)]; exact hZ2 q (by omega) hq2
theorem RF_k {nm np : Nat} {O : kD} {h : Nat → Int32} {B : Nat → Int64} (hr : RF nm np O h B) {m q : Nat} (hm : m < nm) (hq : q < np) :
    ∃ v, O.1 6 m ||| (nI 1 <<< (nI q &&& nI 31)) = v ∧ h (9 + m) ||| (nI 1 <<< (nI q &&& nI 31)) = v ∧ RF nm np (kI O 6 m v) (upd h (9 + m) v) B := by
  obtain ⟨⟨⟨c1, c2⟩, ⟨s0, s1, p1, p2, p3⟩, hk, hc, hd, ha⟩, hI, hN1, hN2, hZ1, hZ2⟩ := hr
  obtain ⟨k, k1, k2, k3⟩ := hk m hm
  have k256 := q_pow c2 k1
  have hor := q_or k k256 q (by omega)
  have hlt : k ||| 2 ^ q < 2 ^ np := Nat.or_lt_two_pow k1 (Nat.pow_lt_pow_right (by omega) hq)
  refine ⟨nI (k ||| 2 ^ q), by rw [k2, hor], by rw [k3, hor], ⟨⟨c1, c2⟩, ⟨?_, ?_, p1, p2, ?_⟩, fun m' hm' => ?_, fun q' hq' => ?_, fun q' hq' => ?_, fun q' hq' => ?_⟩, fun m' hm' => ?_, hN1, hN2, fun m' h1 h2 => ?_, fun q' h1 h2 => ?_⟩
  · rw [up_ne (by omega)]; exact s0
  · rw [up_ne (by omega)]; exact s1
  · rw [up_ne (by omega)]; exact p3
  · show ∃ k', k' < 2 ^ np ∧ upd (O.1 6) m (nI (k ||| 2 ^ q)) m' = nI k' ∧ _
    by_cases e : m' = m
    · subst e; exact ⟨_, hlt, up_eq, up_eq⟩
    · rw [up_ne e, up_ne (by omega)]; exact hk m' hm'
  · rw [up_ne (by omega)]; exact hc q' hq'
  · rw [up_ne (by omega)]; exact hd q' hq'
  · rw [up_ne (by omega)]; exact ha q' hq'
  · rw [up_ne (by omega)]; exact hI m' hm'
  · rw [up_ne (by omega), up_ne (by omega)]; exact hZ1 m' h1 h2
  · rw [up_ne (by omega), up_ne (by omega), up_ne (by omega)]; exact hZ2 q' h1 h2
theorem RF_a {nm np : Nat} {O : kD} {h : Nat → Int32} {B : Nat → Int64} (hr : RF nm np O h B) {p q : Nat} (hp : p < np) (hq : q < np) :
    ∃ v, O.1 10 q ||| (nI 1 <<< (nI p &&& nI 31)) = v ∧ h (31 + q) ||| (nI 1 <<< (nI p &&& nI 31)) = v ∧ RF nm np (kI (kI O 10 q v) 0 3 (O.1 0 3 + nI 1)) (upd (upd h (31 + q) v) 2 (h 2 + nI 1)) B := by
  obtain ⟨⟨⟨c1, c2⟩, ⟨s0, s1, p1, p2, p3⟩, hk, hc, hd, ha⟩, hI, hN1, hN2, hZ1, hZ2⟩ := hr
  obtain ⟨k, k1, k2, k3⟩ := ha q hq
  have hor := q_or k k1 p (by omega)
  have hlt : k ||| 2 ^ p < 2 ^ 8 := Nat.or_lt_two_pow k1 (Nat.pow_lt_pow_right (by omega) (by omega))
  have hup : ∀ v j, j ≠ 2 → j ≠ 31 + q → upd (upd h (31 + q) v) 2 (h 2 + nI 1) j = h j := by
    intro v j j1 j2
    rw [up_ne j1, up_ne j2]
  refine ⟨nI (k ||| 2 ^ p), by rw [k2, hor], by rw [k3, hor], ⟨⟨c1, c2⟩, ⟨?_, ?_, p1, p2, ?_⟩, fun m' hm' => ?_, fun q' hq' => ?_, fun q' hq' => ?_, fun q' hq' => ?_⟩, fun m' hm' => ?_, hN1, hN2, fun m' h1 h2 => ?_, fun q' h1 h2 => ?_⟩
  · rw [hup _ 0 (by omega) (by omega)]; exact s0
  · rw [hup _ 1 (by omega) (by omega)]; exact s1
  · show O.1 0 3 + nI 1 = _
    rw [up_eq, p3]
  · rw [hup _ (9 + m') (by omega) (by omega)]; exact hk m' hm'
  · rw [hup _ (15 + q') (by omega) (by omega)]; exact hc q' hq'
  · rw [hup _ (23 + q') (by omega) (by omega)]; exact hd q' hq'
  · show ∃ k', k' < 256 ∧ upd (O.1 10) q (nI (k ||| 2 ^ p)) q' = nI k' ∧ _
    by_cases e : q' = q
    · subst e
      refine ⟨_, hlt, up_eq, ?_⟩
      rw [up_ne (by omega), up_eq]
    · rw [up_ne e, hup _ (31 + q') (by omega) (by omega)]; exact ha q' hq'
  · rw [hup _ (3 + m') (by omega) (by omega)]; exact hI m' hm'
  · rw [hup _ (3 + m') (by omega) (by omega), hup _ (9 + m') (by omega) (by omega)]; exact hZ1 m' h1 h2
  · rw [hup _ (15 + q') (by omega) (by omega), hup _ (23 + q') (by omega) (by omega), hup _ (31 + q') (by omega) (by omega)]; exact hZ2 q' h1 h2
