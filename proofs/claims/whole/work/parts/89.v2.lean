/-! machine-free: LINE, BYTE AT: the reference's text as a list -/
def LX (L : List Nat) (M : kD) : Prop := L.length ≤ 48 ∧ M.1 0 34 = nI L.length ∧ ∀ i, i < L.length → M.1 33 i = nI (L.getD i 0)
def MXl (M M' : kD) : Prop := M'.2 = M.2 ∧ (∀ b, b ≠ 0 → b ≠ 33 → M'.1 b = M.1 b) ∧ ∀ k, k ≠ 34 → M'.1 0 k = M.1 0 k
theorem MXl_r (M : kD) : MXl M M := ⟨rfl, fun _ _ _ => rfl, fun _ _ => rfl⟩
theorem MXl_t {A B C : kD} (h : MXl A B) (g : MXl B C) : MXl A C := ⟨g.1.trans h.1, fun b b0 b3 => (g.2.1 b b0 b3).trans (h.2.1 b b0 b3), fun k k4 => (g.2.2 k k4).trans (h.2.2 k k4)⟩
theorem b_byte : ∀ c, c < 128 → vp_nar .byte (kI2b (nI c)) = nI c := by decide +kernel
theorem getD_app (L : List Nat) (c i : Nat) : (L ++ [c]).getD i 0 = if i < L.length then L.getD i 0 else if i = L.length then c else 0 := by
  by_cases h : i < L.length
  · rw [if_pos h]
    simp [List.getD, List.getElem?_append, h]
  · rw [if_neg h]
    by_cases h2 : i = L.length
    · rw [if_pos h2, h2]
      simp [List.getD]
    · rw [if_neg h2]
      have : L.length + 1 ≤ i := by omega
      simp [List.getD, List.getElem?_eq_none (show (L ++ [c]).length ≤ i by rw [List.length_append, List.length_singleton]; exact this)]
theorem q_laysL {L : List Nat} {M : kD} {c : Nat} (h : LX L M) (hL : L.length < 48) (hc : c < 128) : ∃ M', f_X12_lays (nI c) M = some M' ∧ LX (L ++ [c]) M' ∧ MXl M M' := by
  obtain ⟨h1, h2, h3⟩ := h
  refine ⟨kI (kI M 33 L.length (nI c)) 0 34 (nI (L.length + 1)), ?_, ⟨?_, ?_, fun i hi => ?_⟩, ⟨rfl, fun b b0 b3 => ?_, fun k k4 => ?_⟩⟩
  · unfold f_X12_lays
    have e34 : (kI M 33 L.length (nI c)).1 0 34 = nI L.length := h2
    simp (disch := omega) only [↓q_m1, q_lit, ↓q_bd, h2, q_lt, Nat.not_lt_zero, false_or, q_cl, show ¬ 48 ≤ L.length by omega, ↓reduceIte, b_byte c hc, e34, nI_add]
  · rw [List.length_append, List.length_singleton]; omega
  · rw [List.length_append, List.length_singleton]; rfl
  · rw [List.length_append, List.length_singleton] at hi
    rw [getD_app]
    show upd (M.1 33) L.length (nI c) i = _
    by_cases hiL : i = L.length
    · subst hiL
      rw [up_eq, if_neg (by omega), if_pos rfl]
    · rw [up_ne hiL, if_pos (by omega)]; exact h3 i (by omega)
  · show (if b = 0 then _ else if b = 33 then _ else M.1 b) = _
    rw [if_neg b0, if_neg b3]
  · show upd (M.1 0) 34 _ k = _
    exact up_ne k4
theorem q_spellsL {L l : List Nat} {M : kD} (hl : okL l) (h : LX L M) (hL : L.length + 7 ≤ 48) : ∃ M', f_X12_spells (lN (encR l)) M = some M' ∧ LX (L ++ l) M' ∧ MXl M M' := by
  have hlt := (okL_lt hl).2
  have h1 := hl.1
  have h2 := hl.2.1
  have key := q_one (fun f k (X : kD) => lp (fun _ _ _ => none) g_X12_spells_3 f (lN (encR l)) (if k < 8 then nI (56 - 8 * k) else nI 0 - nI 8) X) (fun k X => LX (L ++ l.take (k + l.length - 8)) X ∧ MXl M X) (fun r => ∃ M', r = some M' ∧ LX (L ++ l) M' ∧ MXl M M') 8 ?_ ?_ 8 0 2000 M (by omega) (by omega) ⟨by rw [show 0 + l.length - 8 = 0 by omega, List.take_zero, List.append_nil]; exact h, MXl_r M⟩
  · unfold f_X12_spells
    simp only [↓q_m1, q_lit]
    exact key
  · intro f k X _ hk ⟨hX, hF⟩ ih
    simp only [q_lp]
    generalize lp _ g_X12_spells_3 f = rc at ih ⊢
    rw [if_pos hk]
    have hb : (lN (encR l) >>> ((nI (56 - 8 * k)).toInt64 &&& lN 63)) &&& lN 255 = lN (encR l / 256 ^ (7 - k) % 256) := by
      have hle : encR l / 2 ^ (56 - 8 * k) ≤ encR l := Nat.div_le_self _ _
      rw [l_shr (by omega) (by omega), l_and (by omega), show 56 - 8 * k = 8 * (7 - k) by omega, p256]
    have hnx : nI (56 - 8 * k) + -nI 8 = if k + 1 < 8 then nI (56 - 8 * (k + 1)) else nI 0 - nI 8 := by
      rw [← Int32.sub_eq_add_neg]
      by_cases hk7 : k + 1 < 8
      · rw [if_pos hk7, q_sub (by omega)]
        exact congrArg nI (by omega)
      · rw [if_neg hk7, show 56 - 8 * k = 0 by omega]
    have h31 : ∀ Z, g_X12_spells_31 rc (lN (encR l)) (nI (56 - 8 * k)) Z = rc (lN (encR l)) (if k + 1 < 8 then nI (56 - 8 * (k + 1)) else nI 0 - nI 8) Z := by
      intro Z
      unfold g_X12_spells_31
      simp only [↓q_m1, q_lit, ↓q_bd]
      rw [hnx]
    have hm := Nat.mod_lt (encR l / 256 ^ (7 - k)) (show 0 < 256 by omega)
    unfold g_X12_spells_3
    simp (disch := omega) only [↓q_m1, q_lit, q_litL, q_lt, Nat.not_lt_zero, ↓reduceIte, hb, l_cmp0, lN_i, h31]
    by_cases hz : 7 - k < l.length
    · have hd := encR_dg l (okL_c hl) (7 - k) hz
      have hnz := okL_nz hl (show l.length - 1 - (7 - k) < l.length by omega)
      rw [hd]
      have hne : ¬ lN (l.getD (l.length - 1 - (7 - k)) 0) = lN 0 := fun h9 => by
        have := (pk_lEQ (by omega) (by omega)).mp h9
        omega
      rw [if_neg hne]
      have hlen : (L ++ l.take (k + l.length - 8)).length < 48 := by
        rw [List.length_append, List.length_take]
        have : min (k + l.length - 8) l.length ≤ k + l.length - 8 := Nat.min_le_left _ _
        omega
      obtain ⟨X', x1, x2, x3⟩ := q_laysL hX hlen (show l.getD (l.length - 1 - (7 - k)) 0 < 128 by omega)
      rw [x1, q_bo]
      refine ih X' ⟨?_, MXl_t hF x3⟩
      rw [List.append_assoc] at x2
      have : l.take (k + 1 + l.length - 8) = l.take (k + l.length - 8) ++ [l.getD (l.length - 1 - (7 - k)) 0] := by
        have hidx : l.length - 1 - (7 - k) = k + l.length - 8 := by omega
        rw [hidx, show k + 1 + l.length - 8 = (k + l.length - 8) + 1 by omega]
        have hin : k + l.length - 8 < l.length := by omega
        rw [List.take_succ]
        simp [List.getD, List.getElem?_eq_getElem hin]
      rw [this]
      exact x2
    · have hd : encR l / 256 ^ (7 - k) = 0 := Nat.div_eq_of_lt (Nat.lt_of_lt_of_le (encR_lt l (okL_c hl)) (Nat.pow_le_pow_right (by omega) (by omega)))
      rw [hd, Nat.zero_mod, if_pos rfl]
      refine ih X ⟨?_, hF⟩
      rw [show k + 1 + l.length - 8 = 0 by omega]
      rw [show k + l.length - 8 = 0 by omega] at hX
      exact hX
  · intro f X ⟨hX, hF⟩
    simp only [q_lp]
    generalize lp _ g_X12_spells_3 f = rc
    rw [if_neg (by omega)]
    unfold g_X12_spells_3
    have hneg : nI 0 - nI 8 < nI 0 := by decide
    simp only [↓q_m1, q_lit]
    rw [if_pos hneg]
    refine ⟨X, rfl, ?_, hF⟩
    rw [show 8 + l.length - 8 = l.length by omega, List.take_length] at hX
    exact hX
theorem q_saysL {L l : List Nat} {M : kD} (hl : okL l) (h : LX L M) (hL : L.length + 8 ≤ 48) : ∃ M', f_X12_says (lN (encR l)) M = some M' ∧ LX (L ++ 32 :: l) M' ∧ MXl M M' := by
  obtain ⟨M1, a1, a2, a3⟩ := q_laysL (c := 32) h (by omega) (by omega)
  obtain ⟨M2, b1, b2, b3⟩ := q_spellsL hl a2 (by rw [List.length_append, List.length_singleton]; omega)
  refine ⟨M2, ?_, ?_, MXl_t a3 b3⟩
  · unfold f_X12_says
    simp only [↓q_m1, q_lit]
    rw [a1, q_bo, b1, q_bo]
  · rw [List.append_assoc] at b2
    exact b2
/-- a number's digits: d + 1 of them -/
def emL : Nat → Nat → List Nat
  | 0, v => [48 + v % 10]
  | d + 1, v => (48 + v / 10 ^ (d + 1) % 10) :: emL d v
def dgs : Nat → Nat → Nat → Nat
  | 0, _, d => d
  | f + 1, v, d => if v / 10 ^ d ≤ 9 then d else dgs f v (d + 1)
theorem emL_len (d v : Nat) : (emL d v).length = d + 1 := by
  induction d with
  | zero => rfl
  | succ d ih => show (emL d v).length + 1 = _; rw [ih]
theorem p10_lt {d : Nat} (h : d ≤ 9) : 10 ^ d < 2 ^ 31 := Nat.lt_of_le_of_lt (Nat.pow_le_pow_right (by omega) h) (by decide)
theorem q_em {v : Nat} (hv : v < 2 ^ 31) : ∀ d f (L : List Nat) (M : kD), d ≤ 9 → d + 2 ≤ f → LX L M → L.length + d + 1 ≤ 48 → ∃ M', lp (fun _ _ _ => none) g_X12_digits_24 f (nI v) (nI (10 ^ d)) M = some M' ∧ LX (L ++ emL d v) M' ∧ MXl M M' := by
  have hstep : ∀ d f (L : List Nat) (M : kD), d ≤ 9 → LX L M → L.length < 48 → ∃ M', lp (fun _ _ _ => none) g_X12_digits_24 (f + 1) (nI v) (nI (10 ^ d)) M = lp (fun _ _ _ => none) g_X12_digits_24 f (nI v) (nI (10 ^ d / 10)) M' ∧ LX (L ++ [48 + v / 10 ^ d % 10]) M' ∧ MXl M M' := by
    intro d f L M hd h hL
    have hp := p10_lt hd
    have hp0 : 0 < 10 ^ d := Nat.pow_pos (by omega)
    have hq : v / 10 ^ d < 2 ^ 31 := Nat.lt_of_le_of_lt (Nat.div_le_self _ _) hv
    have hr := Nat.mod_lt (v / 10 ^ d) (show 0 < 10 by omega)
    obtain ⟨M', a1, a2, a3⟩ := q_laysL (c := 48 + v / 10 ^ d % 10) h hL (by omega)
    refine ⟨M', ?_, a2, a3⟩
    simp only [q_lp]
    generalize lp _ g_X12_digits_24 f = rc
    unfold g_X12_digits_24
    simp (disch := omega) only [↓q_m1, q_lit, ↓q_bd, q_le, show ¬ 10 ^ d ≤ 0 by omega, ↓reduceIte, q_eq, show ¬ 10 ^ d = 0 by omega, pk_div, q_rem, nI_add, a1, ↓q_bo]
  intro d
  induction d with
  | zero =>
    intro f L M hd hf h hL
    obtain ⟨f, rfl⟩ : ∃ q, f = q + 2 := ⟨f - 2, by omega⟩
    obtain ⟨M', a1, a2, a3⟩ := hstep 0 (f + 1) L M (by omega) h (by omega)
    rw [Nat.pow_zero, Nat.div_one] at a2
    refine ⟨M', ?_, a2, a3⟩
    rw [a1]
    simp only [q_lp]
    generalize lp _ g_X12_digits_24 f = rc
    unfold g_X12_digits_24
    rw [show (10 : Nat) ^ 0 / 10 = 0 from rfl]
    simp only [↓q_m1, q_lit]
    rw [if_pos (Int32.le_refl _)]
  | succ d ih =>
    intro f L M hd hf h hL
    obtain ⟨f, rfl⟩ : ∃ q, f = q + 1 := ⟨f - 1, by omega⟩
    obtain ⟨M', a1, a2, a3⟩ := hstep (d + 1) f L M hd h (by omega)
    have e10 : 10 ^ (d + 1) / 10 = 10 ^ d := by rw [Nat.pow_succ, Nat.mul_div_cancel _ (by omega)]
    obtain ⟨M2, b1, b2, b3⟩ := ih f (L ++ [48 + v / 10 ^ (d + 1) % 10]) M' (by omega) (by omega) a2 (by rw [List.length_append, List.length_singleton]; omega)
    refine ⟨M2, ?_, ?_, MXl_t a3 b3⟩
    · rw [a1, e10, b1]
    · rw [List.append_assoc] at b2
      exact b2
theorem dgs_le {v : Nat} (hv : v < 10000000000) : ∀ f d, d ≤ 9 → 9 ≤ f + d → d ≤ dgs f v d ∧ dgs f v d ≤ 9 ∧ v / 10 ^ (dgs f v d) ≤ 9 ∧ ∀ k, d ≤ k → k < dgs f v d → ¬ v / 10 ^ k ≤ 9 := by
  intro f
  induction f with
  | zero =>
    intro d hd hf
    have : d = 9 := by omega
    subst this
    refine ⟨Nat.le_refl _, Nat.le_refl _, ?_, fun k h1 h2 => ?_⟩
    · show v / 10 ^ 9 ≤ 9
      omega
    · have : k < 9 := h2
      omega
  | succ f ih =>
    intro d hd hf
    show d ≤ (if v / 10 ^ d ≤ 9 then d else dgs f v (d + 1)) ∧ (if v / 10 ^ d ≤ 9 then d else dgs f v (d + 1)) ≤ 9 ∧ v / 10 ^ (if v / 10 ^ d ≤ 9 then d else dgs f v (d + 1)) ≤ 9 ∧ ∀ k, d ≤ k → k < (if v / 10 ^ d ≤ 9 then d else dgs f v (d + 1)) → ¬ v / 10 ^ k ≤ 9
    by_cases h : v / 10 ^ d ≤ 9
    · rw [if_pos h]
      exact ⟨Nat.le_refl _, hd, h, fun k h1 h2 => by omega⟩
    · rw [if_neg h]
      have hd9 : d ≠ 9 := by
        intro h9
        subst h9
        apply h
        omega
      obtain ⟨g1, g2, g3, g4⟩ := ih (d + 1) (by omega) (by omega)
      refine ⟨by omega, g2, g3, fun k h1 h2 => ?_⟩
      by_cases hkd : k = d
      · subst hkd; exact h
      · exact g4 k (by omega) h2
theorem q_digL {v : Nat} {L : List Nat} {M : kD} (hv : v < 2 ^ 31) (h : LX L M) (hL : L.length + 11 ≤ 48) : ∃ M', f_X12_digits (nI v) M = some M' ∧ LX (L ++ 32 :: emL (dgs 9 v 0) v) M' ∧ MXl M M' := by
  obtain ⟨M1, a1, a2, a3⟩ := q_laysL (c := 32) h (by omega) (by omega)
  obtain ⟨g1, g2, g3, g4⟩ := dgs_le (v := v) (by omega) 9 0 (by omega) (by omega)
  obtain ⟨M2, b1, b2, b3⟩ := q_em hv (dgs 9 v 0) 2000 (L ++ [32]) M1 g2 (by omega) a2 (by rw [List.length_append, List.length_singleton]; omega)
  refine ⟨M2, ?_, ?_, MXl_t a3 b3⟩
  · unfold f_X12_digits
    simp only [↓q_m1, q_lit]
    rw [a1, q_bo]
    have key := q_one (fun f k (_ : Unit) => lp (fun _ _ _ => none) g_X12_digits_8 f (nI v) (nI (10 ^ k)) M1) (fun _ _ => True) (fun r => r = some M2) (dgs 9 v 0) ?_ ?_ (dgs 9 v 0) 0 2000 () (by omega) (by omega) trivial
    · exact key
    · intro f k _ _ hk _ ih
      simp only [q_lp]
      generalize lp _ g_X12_digits_8 f = rc at ih ⊢
      have hp := p10_lt (show k ≤ 9 by omega)
      have hp1 := p10_lt (show k + 1 ≤ 9 by omega)
      have hp0 : 0 < 10 ^ k := Nat.pow_pos (by omega)
      have hq : v / 10 ^ k < 2 ^ 31 := Nat.lt_of_le_of_lt (Nat.div_le_self _ _) hv
      unfold g_X12_digits_8
      simp (disch := omega) only [↓q_m1, q_lit, ↓q_bd, q_eq, show ¬ 10 ^ k = 0 by omega, ↓reduceIte, pk_div, q_le, g4 k (Nat.zero_le _) hk, pk_mul]
      rw [← Nat.pow_succ]
      exact ih () trivial
    · intro f _ _
      simp only [q_lp]
      generalize lp _ g_X12_digits_8 f = rc
      have hp := p10_lt g2
      have hp0 : 0 < 10 ^ (dgs 9 v 0) := Nat.pow_pos (by omega)
      have hq : v / 10 ^ (dgs 9 v 0) < 2 ^ 31 := Nat.lt_of_le_of_lt (Nat.div_le_self _ _) hv
      unfold g_X12_digits_8
      simp (disch := omega) only [↓q_m1, q_lit, q_eq, show ¬ 10 ^ (dgs 9 v 0) = 0 by omega, ↓reduceIte, pk_div, q_le, g3]
      exact b1
  · rw [List.append_assoc] at b2
    exact b2
/-- the line's text -/
def lineT (l : List Nat) (wv iv : Nat) (held : Bool) : List Nat := l ++ 32 :: [119, 114, 111, 116, 101] ++ 32 :: emL (dgs 9 wv 0) wv ++ 32 :: [105, 110, 107] ++ 32 :: emL (dgs 9 iv 0) iv ++ (if held then 32 :: [104, 101, 108, 100] else [])
theorem q_lineM {nm np d lt w h B : Nat} {O S M : kD} (hl : RLo nm np O (M.1 6) (M.2 9)) (hs : RS nm np d lt w h B S (M.1 6)) (hB : B ≤ 2000000000) {m : Nat} (hm : m < nm) :
    ∃ l wv iv M', NM l (O.2 4 m) (M.2 9 m) ∧ wv < 2 ^ 31 ∧ iv ≤ 999 ∧ S.1 6 m = nI wv ∧ S.1 5 m = nI iv ∧ f_X9_isHeld (nI m) S = q_b (h.testBit m) ∧ f_X12_line (nI m) M = some (nI (lineT l wv iv (h.testBit m)).length, M') ∧ LX (lineT l wv iv (h.testBit m)) M' ∧ MXl (kI M 0 0 (nI 0)) M' := by
  have hn := hl.1.1.1
  obtain ⟨l, hlm⟩ := hl.2.2.1 m hm
  rw [Nat.zero_add] at hlm
  obtain ⟨iv, i1, i2, i3⟩ := hs.2.2.1 m hm
  obtain ⟨wv, v1, v2, v3, _⟩ := hs.2.2.2.1 m (by omega)
  obtain ⟨b1, b2⟩ := q_held hs hn hm
  have hmach : f_X12_isMachine (nI m) (kI M 0 0 (nI 0)) = some (nI 1) := by
    rcases q_mach (O := O) (M := kI M 0 0 (nI 0)) hn hl.1.2.1.2.2.1 hl.1.2.1.1 (nI m) with ⟨_, _, _, _, h2⟩ | ⟨h1, _, _⟩
    · exact h2
    · exact absurd rfl (h1 m hm)
  have hok := hlm.1
  have hl7 := hok.2.1
  have hb9 : M.2 9 m = lN (encR l) := hlm.2.2
  have h0 : LX [] (kI (kI M 0 0 (nI 0)) 0 34 (nI 0)) := ⟨by decide, rfl, fun i hi => absurd hi (Nat.not_lt_zero i)⟩
  have f0 : MXl (kI M 0 0 (nI 0)) (kI (kI M 0 0 (nI 0)) 0 34 (nI 0)) := ⟨rfl, fun b b0 _ => if_neg b0, fun k k4 => up_ne k4⟩
  have ew : okL [119, 114, 111, 116, 101] := ⟨by decide, by decide, by decide⟩
  have ei : okL [105, 110, 107] := ⟨by decide, by decide, by decide⟩
  have eh : okL [104, 101, 108, 100] := ⟨by decide, by decide, by decide⟩
  have nw : encR [119, 114, 111, 116, 101] = 513021015141 := by decide
  have ni : encR [105, 110, 107] = 6909547 := by decide
  have nh : encR [104, 101, 108, 100] = 1751477348 := by decide
  have g2 := (dgs_le (v := wv) (by omega) 9 0 (by omega) (by omega)).2.1
  have gi : dgs 9 iv 0 ≤ 9 := (dgs_le (v := iv) (by omega) 9 0 (by omega) (by omega)).2.1
  obtain ⟨M1, c1, c2, c3⟩ := q_spellsL hok h0 (by decide)
  obtain ⟨M2, d1, d2, d3⟩ := q_saysL ew c2 (by simp only [List.length_append, List.length_nil]; omega)
  obtain ⟨M3, k1, k2, k3⟩ := q_digL (v := wv) (by omega) d2 (by simp only [List.length_append, List.length_nil, List.length_cons]; omega)
  obtain ⟨M4, p1, p2, p3⟩ := q_saysL ei k2 (by simp only [List.length_append, List.length_nil, List.length_cons, emL_len]; omega)
  obtain ⟨M5, r1, r2, r3⟩ := q_digL (v := iv) (by omega) p2 (by simp only [List.length_append, List.length_nil, List.length_cons, emL_len]; omega)
  rw [nw] at d1
  rw [ni] at p1
  have F2 := MXl_t f0 (MXl_t c3 d3)
  have F4 := MXl_t F2 (MXl_t k3 p3)
  have F5 := MXl_t F4 r3
  have e50 : M2.1 6 (50 + m) = nI wv := by rw [F2.2.1 6 (by omega) (by omega)]; exact v3
  have e44 : M4.1 6 (44 + m) = nI iv := by rw [F4.2.1 6 (by omega) (by omega)]; exact i3
  have e9 : (kI (kI M 0 0 (nI 0)) 0 34 (nI 0)).2 9 m = lN (encR l) := hb9
  have hh : f_X12_isHeld (nI m) M5 = some (q_b (h.testBit m)) := by
    rw [← b2]
    unfold f_X12_isHeld
    rw [F5.2.1 6 (by omega) (by omega)]
    rfl
  have hline : f_X12_line (nI m) M = if q_b (h.testBit m) = nI 0 then some (M5.1 0 34, M5) else bo (f_X12_says (lN 1751477348) M5) fun M22 => some (M22.1 0 34, M22) := by
    unfold f_X12_line
    simp (disch := omega) only [↓q_m1, q_lit, q_litL, ↓q_bd, hmach, ↓q_bo, n10, ↓reduceIte, q_lt, Nat.not_lt_zero, false_or, q_cl, show ¬ 28 ≤ m by omega, e9, c1, d1, nI_add, show ¬ 279 ≤ 50 + m by omega, e50, k1, p1, show ¬ 279 ≤ 44 + m by omega, e44, r1, hh]
  cases hb : h.testBit m with
  | false =>
    refine ⟨l, wv, iv, M5, hlm, by omega, i1, v2, i2, by rw [b1, hb], ?_, ?_, F5⟩
    · rw [hline, hb, if_pos (show q_b false = nI 0 from rfl), r2.2.1]
      unfold lineT
      simp only [Bool.false_eq_true, ↓reduceIte, List.append_nil, List.nil_append]
    · unfold lineT
      simp only [Bool.false_eq_true, ↓reduceIte, List.append_nil]
      exact r2
  | true =>
    obtain ⟨M6, s1, s2, s3⟩ := q_saysL eh r2 (by simp only [List.length_append, List.length_nil, List.length_cons, emL_len]; omega)
    rw [nh] at s1
    refine ⟨l, wv, iv, M6, hlm, by omega, i1, v2, i2, by rw [b1, hb], ?_, ?_, MXl_t F5 s3⟩
    · rw [hline, hb, if_neg (show ¬ q_b true = nI 0 by decide), s1, q_bo, s2.2.1]
      unfold lineT
      simp only [↓reduceIte, List.nil_append]
    · unfold lineT
      simp only [↓reduceIte]
      exact s2
theorem q_byteAtM {L : List Nat} {M : kD} (h : LX L M) (a : Int32) : (∃ j, j < L.length ∧ a = nI j ∧ f_X12_byteAt a M = some (nI (L.getD j 0), kI M 0 0 (nI 0))) ∨ ((∀ j, j < L.length → a ≠ nI j) ∧ f_X12_byteAt a M = some (mI, kI M 0 0 (nI 0))) := by
  obtain ⟨h1, h2, h3⟩ := h
  unfold f_X12_byteAt
  simp only [↓q_m1, q_lit, ↓q_bd]
  have e34 : (kI M 0 0 (nI 0)).1 0 34 = M.1 0 34 := rfl
  have e33 : (kI M 0 0 (nI 0)).1 33 = M.1 33 := rfl
  rw [e34, e33, h2]
  by_cases hL : L.length = 0
  · refine Or.inr ⟨fun j hj => by omega, ?_⟩
    rw [hL, q_0m1]
    have hin : f_X12_isIn a (nI 0) mI = nI 0 := by
      unfold f_X12_isIn
      simp only [↓q_m1, q_lit]
      rcases q_arg a with h9 | ⟨j, hj, rfl⟩
      · rw [if_pos h9]
      · rw [if_neg (by rw [q_lt hj (by omega)]; omega), if_pos (by rw [q_nlt j hj]; trivial)]
    rw [hin, if_pos rfl]
  · rw [q_sub (by omega)]
    rcases q_isIn 0 0 (L.length - 1) a (by omega) (by omega) with ⟨x, x1, x2, rfl, x3⟩ | ⟨x1, x3, x4⟩
    · refine Or.inl ⟨x, by omega, rfl, ?_⟩
      rw [x3, if_neg n10]
      simp (disch := omega) only [q_lt, Nat.not_lt_zero, false_or, q_cl, show ¬ 48 ≤ x by omega, ↓reduceIte]
      rw [h3 x (by omega)]
    · refine Or.inr ⟨fun j hj => x1 j (by omega) (by omega), ?_⟩
      rw [x3, if_pos rfl]
