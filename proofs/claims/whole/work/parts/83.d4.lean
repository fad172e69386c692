/-! machine-free: the bits of a long counted; LACKS -/
theorem w_or {a b : Nat} (ha : a < 2 ^ 64) (hb : b < 2 ^ 64) : lN a ||| lN b = lN (a ||| b) := by
  refine l_of _ _ (Nat.or_lt_two_pow ha hb) ?_
  rw [Int64.toBitVec_or, BitVec.toNat_or, l_tn ha, l_tn hb]
theorem w_and {a b : Nat} (ha : a < 2 ^ 64) (hb : b < 2 ^ 64) : lN a &&& lN b = lN (a &&& b) := by
  refine l_of _ _ (Nat.lt_of_le_of_lt Nat.and_le_left ha) ?_
  rw [Int64.toBitVec_and, BitVec.toNat_and, l_tn ha, l_tn hb]
theorem w_ushr {n s : Nat} (hn : n < 2 ^ 64) (hs : s < 64) : kUshrL (lN n) (nI s) = lN (n / 2 ^ s) := by
  have h2 : n / 2 ^ s ≤ n := Nat.div_le_self _ _
  refine l_of _ _ (by omega) ?_
  have e : (kUshrL (lN n) (nI s)).toBitVec = (lN n).toBitVec >>> ((((nI s).toInt64.toUInt64 &&& Int64.toUInt64 63).toBitVec % 64).toNat) := UInt64.toBitVec_shiftRight (lN n).toUInt64 ((nI s).toInt64.toUInt64 &&& Int64.toUInt64 63)
  rw [l_um s hs] at e
  rw [e, BitVec.toNat_ushiftRight, Nat.shiftRight_eq_div_pow, l_tn hn]
theorem w_one : ∀ b, b < 64 → lN 1 <<< ((nI b).toInt64 &&& lN 63) = lN (2 ^ b) := by decide +kernel
theorem w_eq {a b : Nat} (ha : a < 2 ^ 64) (hb : b < 2 ^ 64) : (lN a = lN b) = (a = b) := by
  refine propext ⟨fun h => ?_, fun h => by rw [h]⟩
  have := congrArg (fun x : Int64 => x.toBitVec.toNat) h
  simp only [l_tn ha, l_tn hb] at this
  exact this
/-- byte by byte -/
def mp (f : Nat → Nat) : Nat → Nat → Nat
  | 0, _ => 0
  | m + 1, X => f (X % 256) + 256 * mp f m (X / 256)
def rep : Nat → Nat
  | 0 => 0
  | m + 1 => 1 + 256 * rep m
theorem and_spl {p q r s : Nat} (hp : p < 256) (hr : r < 256) : (p + 256 * q) &&& (r + 256 * s) = (p &&& r) + 256 * (q &&& s) := by
  have hpr : p &&& r < 256 := Nat.lt_of_le_of_lt Nat.and_le_left hp
  refine Nat.eq_of_testBit_eq fun i => ?_
  have e : ∀ a b : Nat, a < 256 → (a + 256 * b).testBit i = if i < 8 then a.testBit i else b.testBit (i - 8) := by
    intro a b ha
    rw [show a + 256 * b = 2 ^ 8 * b + a by omega, Nat.testBit_two_pow_mul_add b (show a < 2 ^ 8 from ha) i]
  rw [Nat.testBit_and, e p q hp, e r s hr, e _ _ hpr]
  by_cases hi : i < 8
  · rw [if_pos hi, if_pos hi, if_pos hi, Nat.testBit_and]
  · rw [if_neg hi, if_neg hi, if_neg hi, Nat.testBit_and]
def pb1 (c : Nat) : Nat := c - ((c / 2) &&& 85)
def pb2 (c : Nat) : Nat := (c &&& 51) + ((c / 4) &&& 51)
def pb3 (c : Nat) : Nat := (c + c / 16) &&& 15
theorem pb_a : ∀ c, c < 256 → ∀ t, t < 2 → (c / 2 + 128 * t) &&& 85 = (c / 2) &&& 85 := by decide +kernel
theorem pb_b : ∀ c, c < 256 → ∀ t, t < 4 → (c / 4 + 64 * t) &&& 51 = (c / 4) &&& 51 := by decide +kernel
theorem pb_c : ∀ c, c < 256 → pb1 c < 256 ∧ pb2 (pb1 c) < 256 ∧ pb2 (pb1 c) % 16 ≤ 4 ∧ pb2 (pb1 c) / 16 ≤ 4 ∧ pb3 (pb2 (pb1 c)) ≤ 8 := by decide +kernel
theorem pb_d : ∀ c, c < 256 → ∀ t, t < 5 → c % 16 ≤ 4 → c / 16 ≤ 4 → (c + c / 16 + 16 * t) &&& 15 = (c + c / 16) &&& 15 ∧ c + c / 16 + 16 * t < 256 := by decide +kernel
theorem mp1 : ∀ m X, X - ((X / 2) &&& (85 * rep m)) = mp pb1 m X + 256 ^ m * (X / 256 ^ m) := by
  intro m
  induction m with
  | zero => intro X; show X - (X / 2 &&& 0) = 0 + 1 * (X / 1); rw [Nat.and_zero, Nat.div_one]; omega
  | succ m ih =>
    intro X
    have hX : X = X % 256 + 256 * (X / 256) := by omega
    have e1 : X / 2 = (X % 256 / 2 + 128 * (X / 256 % 2)) + 256 * (X / 256 / 2) := by omega
    have e2 : 85 * rep (m + 1) = 85 + 256 * (85 * rep m) := by show 85 * (1 + 256 * rep m) = _; omega
    have h1 := pb_a (X % 256) (by omega) (X / 256 % 2) (by omega)
    have h2 := ih (X / 256)
    have h3 : (X / 256 / 2) &&& (85 * rep m) ≤ X / 256 / 2 := Nat.and_le_left
    have h4 : (X % 256 / 2) &&& 85 ≤ X % 256 / 2 := Nat.and_le_left
    have e3 : 256 ^ (m + 1) * (X / 256 ^ (m + 1)) = 256 * (256 ^ m * (X / 256 / 256 ^ m)) := by
      rw [Nat.pow_succ, Nat.mul_comm (256 ^ m) 256, ← Nat.div_div_eq_div_mul, Nat.mul_assoc]
    rw [e1, e2, and_spl (by omega) (by omega), h1, e3]
    show _ = (X % 256 - ((X % 256 / 2) &&& 85)) + 256 * mp pb1 m (X / 256) + _
    generalize 256 ^ m * (X / 256 / 256 ^ m) = z at *
    generalize mp pb1 m (X / 256) = y at *
    generalize (X / 256 / 2) &&& (85 * rep m) = u at *
    generalize (X % 256 / 2) &&& 85 = u' at *
    omega
theorem mp2 : ∀ m X, (X &&& (51 * rep m)) + ((X / 4) &&& (51 * rep m)) = mp pb2 m X := by
  intro m
  induction m with
  | zero => intro X; show (X &&& 0) + (X / 4 &&& 0) = 0; rw [Nat.and_zero, Nat.and_zero]
  | succ m ih =>
    intro X
    have e0 : X &&& (51 * rep (m + 1)) = (X % 256 &&& 51) + 256 * (X / 256 &&& (51 * rep m)) := by
      have e2 : 51 * rep (m + 1) = 51 + 256 * (51 * rep m) := by show 51 * (1 + 256 * rep m) = _; omega
      have := and_spl (p := X % 256) (q := X / 256) (r := 51) (s := 51 * rep m) (by omega) (by omega)
      rw [show X % 256 + 256 * (X / 256) = X by omega] at this
      rw [e2, this]
    have e1 : X / 4 = (X % 256 / 4 + 64 * (X / 256 % 4)) + 256 * (X / 256 / 4) := by omega
    have e2 : 51 * rep (m + 1) = 51 + 256 * (51 * rep m) := by show 51 * (1 + 256 * rep m) = _; omega
    have h1 := pb_b (X % 256) (by omega) (X / 256 % 4) (by omega)
    have h2 := ih (X / 256)
    have e4 : X / 4 &&& (51 * rep (m + 1)) = (X % 256 / 4 &&& 51) + 256 * (X / 256 / 4 &&& (51 * rep m)) := by
      rw [e1, e2, and_spl (by omega) (by omega), h1]
    rw [e0, e4]
    show _ = pb2 (X % 256) + 256 * mp pb2 m (X / 256)
    rw [← h2]
    unfold pb2
    omega
def okB : Nat → Nat → Prop
  | 0, _ => True
  | m + 1, X => X % 256 % 16 ≤ 4 ∧ X % 256 / 16 ≤ 4 ∧ okB m (X / 256)
theorem mp3 : ∀ m X, X < 256 ^ m → okB m X → (X + X / 16) &&& (15 * rep m) = mp pb3 m X := by
  intro m
  induction m with
  | zero => intro X _ _; show _ &&& 0 = 0; rw [Nat.and_zero]
  | succ m ih =>
    intro X hX ⟨h1, h2, h3⟩
    have ht : X / 256 % 16 < 5 := by
      cases m with
      | zero =>
        have : X < 256 := hX
        omega
      | succ m =>
        have := h3.1
        omega
    obtain ⟨d1, d2⟩ := pb_d (X % 256) (by omega) (X / 256 % 16) ht h1 h2
    have e1 : X + X / 16 = (X % 256 + X % 256 / 16 + 16 * (X / 256 % 16)) + 256 * (X / 256 + X / 256 / 16) := by omega
    have e2 : 15 * rep (m + 1) = 15 + 256 * (15 * rep m) := by show 15 * (1 + 256 * rep m) = _; omega
    have hX2 : X / 256 < 256 ^ m := by
      rw [Nat.div_lt_iff_lt_mul (by omega)]
      rw [Nat.pow_succ] at hX; exact hX
    rw [e1, e2, and_spl d2 (by omega), d1, ih (X / 256) hX2 h3]
    rfl
theorem mp_lt (f : Nat → Nat) (hf : ∀ c, c < 256 → f c < 256) : ∀ m X, mp f m X < 256 ^ m := by
  intro m
  induction m with
  | zero => intro X; exact Nat.one_pos
  | succ m ih =>
    intro X
    have h1 := hf (X % 256) (by omega)
    have h2 := ih (X / 256)
    show f (X % 256) + 256 * mp f m (X / 256) < 256 ^ (m + 1)
    rw [Nat.pow_succ]
    omega
theorem mp_mp (f g : Nat → Nat) (hg : ∀ c, c < 256 → g c < 256) : ∀ m X, mp f m (mp g m X) = mp (fun c => f (g c)) m X := by
  intro m
  induction m with
  | zero => intro X; rfl
  | succ m ih =>
    intro X
    have h1 := hg (X % 256) (by omega)
    show f ((g (X % 256) + 256 * mp g m (X / 256)) % 256) + 256 * mp f m ((g (X % 256) + 256 * mp g m (X / 256)) / 256) = f (g (X % 256)) + 256 * mp (fun c => f (g c)) m (X / 256)
    rw [show (g (X % 256) + 256 * mp g m (X / 256)) % 256 = g (X % 256) by omega, show (g (X % 256) + 256 * mp g m (X / 256)) / 256 = mp g m (X / 256) by omega, ih]
theorem okB_mp : ∀ m X, okB m (mp (fun c => pb2 (pb1 c)) m X) := by
  intro m
  induction m with
  | zero => intro X; trivial
  | succ m ih =>
    intro X
    obtain ⟨_, h1, h2, h3, _⟩ := pb_c (X % 256) (by omega)
    show okB (m + 1) (pb2 (pb1 (X % 256)) + 256 * mp (fun c => pb2 (pb1 c)) m (X / 256))
    refine ⟨?_, ?_, ?_⟩
    · rw [show (pb2 (pb1 (X % 256)) + 256 * mp (fun c => pb2 (pb1 c)) m (X / 256)) % 256 = pb2 (pb1 (X % 256)) by omega]; exact h2
    · rw [show (pb2 (pb1 (X % 256)) + 256 * mp (fun c => pb2 (pb1 c)) m (X / 256)) % 256 = pb2 (pb1 (X % 256)) by omega]; exact h3
    · rw [show (pb2 (pb1 (X % 256)) + 256 * mp (fun c => pb2 (pb1 c)) m (X / 256)) / 256 = mp (fun c => pb2 (pb1 c)) m (X / 256) by omega]; exact ih (X / 256)
def pcB (c : Nat) : Nat := pb3 (pb2 (pb1 c))
def pcS : Nat → Nat → Nat
  | 0, _ => 0
  | m + 1, X => pcB (X % 256) + pcS m (X / 256)
theorem dv_c (a b c : Nat) (h : a < c) : (a + c * b) / c = b := by
  rw [Nat.add_mul_div_left _ _ (by omega), Nat.div_eq_of_lt h, Nat.zero_add]
theorem s8_a {W R1 R2 R3 w0 w1 w2 : Nat} (hW : W = w0 + 256 * R1) (r1 : R1 = w1 + 256 * R2) (r2 : R2 = w2 + 256 * R3) : W + R1 = ((w0 + w1) + 256 * (w1 + w2)) + 65536 * (R2 + R3) := by omega
theorem s8_b {X L R2 R3 R4 R5 R6 w2 w3 w4 w5 w6 w7 : Nat} (hX : X = L + 65536 * (R2 + R3)) (r2 : R2 = w2 + 256 * R3) (r3 : R3 = w3 + 256 * R4) (r4 : R4 = w4 + 256 * R5) (r5 : R5 = w5 + 256 * R6) (r6 : R6 = w6 + 256 * w7) : X + (R2 + R3) = (L + (w2 + w3) + 256 * (w3 + w4) + 65536 * (w2 + w3 + w4 + w5) + 16777216 * (w3 + w4 + w5 + w6)) + 4294967296 * (R4 + R5 + R6 + w7) := by omega
theorem s8_c {w0 w1 w2 w3 w4 w5 w6 w7 : Nat} (h0 : w0 ≤ 8) (h1 : w1 ≤ 8) (h2 : w2 ≤ 8) (h3 : w3 ≤ 8) (h4 : w4 ≤ 8) (h5 : w5 ≤ 8) (h6 : w6 ≤ 8) (h7 : w7 ≤ 8) : w0 + (w1 + (w2 + (w3 + (w4 + (w5 + (w6 + w7)))))) ≤ 64 := by omega
theorem s8_d {a b w c : Nat} (h : a = w + 256 * b) (hw : w ≤ 8) (hb : b < c) : a < 256 * c := by omega
theorem s8_e {w0 w1 w2 w3 w4 w5 w6 : Nat} (h0 : w0 ≤ 8) (h1 : w1 ≤ 8) (h2 : w2 ≤ 8) (h3 : w3 ≤ 8) (h4 : w4 ≤ 8) : (w0 + w1) + 256 * (w1 + w2) + (w2 + w3) + 256 * (w3 + w4) ≤ 32 + 256 * 32 := by omega
theorem s8_f {A w2 w3 w4 w5 w6 : Nat} (hA : A ≤ 32 + 256 * 32) (h2 : w2 ≤ 8) (h3 : w3 ≤ 8) (h4 : w4 ≤ 8) (h5 : w5 ≤ 8) (h6 : w6 ≤ 8) : A + 65536 * (w2 + w3 + w4 + w5) + 16777216 * (w3 + w4 + w5 + w6) < 4294967296 := by omega
theorem s8_g {w0 w1 w2 w3 w4 w5 w6 w7 R4 R5 R6 Q : Nat} (r4 : R4 = w4 + 256 * R5) (r5 : R5 = w5 + 256 * R6) (r6 : R6 = w6 + 256 * w7) (hQ : Q = (w1 + w2) + (w3 + w4) + 256 * (w2 + w3 + w4 + w5) + 65536 * (w3 + w4 + w5 + w6) + 16777216 * (R4 + R5 + R6 + w7) + (R5 + R6 + w7)) : (((w0 + w1) + 256 * (w1 + w2)) + (w2 + w3) + 256 * (w3 + w4) + 65536 * (w2 + w3 + w4 + w5) + 16777216 * (w3 + w4 + w5 + w6)) + 4294967296 * (R4 + R5 + R6 + w7) + (R4 + R5 + R6 + w7) = (w0 + (w1 + (w2 + (w3 + (w4 + (w5 + (w6 + w7))))))) + 256 * Q := by omega
theorem s8_h {s Q : Nat} (h : s ≤ 64) : (s + 256 * Q) % 128 = s := by omega
theorem s8_i {W R1 R2 R3 : Nat} (a : W < 2 ^ 60) (b : R1 < 2 ^ 60) (c : R2 < 2 ^ 60) (d : R3 < 2 ^ 60) : W + R1 < 2 ^ 62 ∧ W + R1 + (R2 + R3) < 2 ^ 63 := by omega
theorem sum8 (w0 w1 w2 w3 w4 w5 w6 w7 : Nat) (h0 : w0 ≤ 8) (h1 : w1 ≤ 8) (h2 : w2 ≤ 8) (h3 : w3 ≤ 8) (h4 : w4 ≤ 8) (h5 : w5 ≤ 8) (h6 : w6 ≤ 8) (h7 : w7 ≤ 8) (W : Nat) (hW : W = w0 + 256 * (w1 + 256 * (w2 + 256 * (w3 + 256 * (w4 + 256 * (w5 + 256 * (w6 + 256 * (w7 + 256 * 0)))))))) : W + W / 2 ^ 8 < 2 ^ 62 ∧ (W + W / 2 ^ 8) + (W + W / 2 ^ 8) / 2 ^ 16 < 2 ^ 63 ∧ (((W + W / 2 ^ 8) + (W + W / 2 ^ 8) / 2 ^ 16) + ((W + W / 2 ^ 8) + (W + W / 2 ^ 8) / 2 ^ 16) / 2 ^ 32) % 128 = w0 + (w1 + (w2 + (w3 + (w4 + (w5 + (w6 + (w7 + 0))))))) := by
  rw [Nat.mul_zero, Nat.add_zero] at hW
  rw [Nat.add_zero]
  obtain ⟨R6, r6⟩ : ∃ R, R = w6 + 256 * w7 := ⟨_, rfl⟩
  obtain ⟨R5, r5⟩ : ∃ R, R = w5 + 256 * R6 := ⟨_, rfl⟩
  obtain ⟨R4, r4⟩ : ∃ R, R = w4 + 256 * R5 := ⟨_, rfl⟩
  obtain ⟨R3, r3⟩ : ∃ R, R = w3 + 256 * R4 := ⟨_, rfl⟩
  obtain ⟨R2, r2⟩ : ∃ R, R = w2 + 256 * R3 := ⟨_, rfl⟩
  obtain ⟨R1, r1⟩ : ∃ R, R = w1 + 256 * R2 := ⟨_, rfl⟩
  rw [← r6, ← r5, ← r4, ← r3, ← r2, ← r1] at hW
  have b7 : w7 < 2 ^ 4 := Nat.lt_of_le_of_lt h7 (by decide)
  have b6 : R6 < 2 ^ 12 := s8_d r6 h6 b7
  have b5 : R5 < 2 ^ 20 := s8_d r5 h5 b6
  have b4 : R4 < 2 ^ 28 := s8_d r4 h4 b5
  have b3 : R3 < 2 ^ 36 := s8_d r3 h3 b4
  have b2 : R2 < 2 ^ 44 := s8_d r2 h2 b3
  have b1 : R1 < 2 ^ 52 := s8_d r1 h1 b2
  have b0 : W < 2 ^ 60 := s8_d hW h0 b1
  have c1 : W / 2 ^ 8 = R1 := by rw [hW]; exact dv_c w0 R1 256 (Nat.lt_of_le_of_lt h0 (by decide))
  have e4 := s8_a hW r1 r2
  have hL := s8_e (w5 := w5) (w6 := w6) h0 h1 h2 h3 h4
  have hL1 : (w0 + w1) + 256 * (w1 + w2) < 65536 := Nat.lt_of_le_of_lt (Nat.le_trans (Nat.le_add_right _ _) (Nat.le_trans (Nat.le_add_right _ _) hL)) (by decide)
  have c2 : (W + R1) / 2 ^ 16 = R2 + R3 := by rw [e4]; exact dv_c _ (R2 + R3) 65536 hL1
  have e5 := s8_b e4 r2 r3 r4 r5 r6
  have hP := s8_f hL h2 h3 h4 h5 h6
  have c3 : ((W + R1) + (R2 + R3)) / 2 ^ 32 = R4 + R5 + R6 + w7 := by rw [e5]; exact dv_c _ _ 4294967296 hP
  have e6 := s8_g (w0 := w0) (w1 := w1) (w2 := w2) (w3 := w3) r4 r5 r6 rfl
  have hs := s8_i b0 (Nat.lt_trans b1 (by decide)) (Nat.lt_trans b2 (by decide)) (Nat.lt_trans b3 (by decide))
  rw [c1, c2, c3]
  refine ⟨hs.1, hs.2, ?_⟩
  rw [e5, e6]
  exact s8_h (s8_c h0 h1 h2 h3 h4 h5 h6 h7)
theorem s8_j {Z : Nat} (h : Z / 72057594037927936 % 256 / 16 ≤ 4) (l : Z < 2 ^ 64) : Z + Z / 16 < 2 ^ 64 := by omega
theorem q_bcL {X : Nat} (hX : X < 2 ^ 64) : f_J13_bitCount_95d88 (lN X) = nI (pcS 8 X) := by
  have h256 : (256 : Nat) ^ 8 = 2 ^ 64 := by decide
  have e85 : 85 * rep 8 = 6148914691236517205 := by decide
  have e51 : 51 * rep 8 = 3689348814741910323 := by decide
  have e15 : 15 * rep 8 = 1085102592571150095 := by decide
  have hb : ∀ c, c < 256 → pcB c ≤ 8 := fun c hc => (pb_c c hc).2.2.2.2
  have e127 : ∀ v : Nat, nI v &&& nI 127 = nI (v % 128) := by
    intro v
    rw [pk_and (nI v) (m := nI 127) 7 (by decide)]
    show nI ((v % 2 ^ 32) % 2 ^ 7) = _
    exact congrArg nI (by omega)
  have hd0 : X / 256 ^ 8 = 0 := Nat.div_eq_of_lt (by rw [h256]; exact hX)
  have a1 := mp1 8 X
  rw [hd0, Nat.mul_zero, Nat.add_zero, e85] at a1
  have a2 := mp2 8 (mp pb1 8 X)
  rw [e51, mp_mp pb2 pb1 (fun c hc => (pb_c c hc).1)] at a2
  have l1 := mp_lt pb1 (fun c hc => (pb_c c hc).1) 8 X
  have l2 := mp_lt (fun c => pb2 (pb1 c)) (fun c hc => (pb_c c hc).2.1) 8 X
  have hok := okB_mp 8 X
  have a3 := mp3 8 (mp (fun c => pb2 (pb1 c)) 8 X) l2 hok
  rw [e15, mp_mp pb3 (fun c => pb2 (pb1 c)) (fun c hc => (pb_c c hc).2.1)] at a3
  rw [h256] at l1 l2
  have g1 : X / 2 &&& 6148914691236517205 ≤ X := Nat.le_trans Nat.and_le_left (Nat.div_le_self _ _)
  have l2' : mp (fun c => pb2 (pb1 c)) 8 X + mp (fun c => pb2 (pb1 c)) 8 X / 16 < 2 ^ 64 := by
    refine s8_j ?_ l2
    have := hok.2.2.2.2.2.2.2.2.2.2.2.2.2.2.2.1
    rw [Nat.div_div_eq_div_mul, Nat.div_div_eq_div_mul, Nat.div_div_eq_div_mul, Nat.div_div_eq_div_mul, Nat.div_div_eq_div_mul, Nat.div_div_eq_div_mul] at this
    exact this
  have hm : ∀ Z : Nat, Z % 256 < 256 := fun Z => Nat.mod_lt Z (by decide)
  have hW := sum8 (pcB (X % 256)) (pcB (X / 256 % 256)) (pcB (X / 256 / 256 % 256)) (pcB (X / 256 / 256 / 256 % 256)) (pcB (X / 256 / 256 / 256 / 256 % 256)) (pcB (X / 256 / 256 / 256 / 256 / 256 % 256)) (pcB (X / 256 / 256 / 256 / 256 / 256 / 256 % 256)) (pcB (X / 256 / 256 / 256 / 256 / 256 / 256 / 256 % 256)) (hb _ (hm _)) (hb _ (hm _)) (hb _ (hm _)) (hb _ (hm _)) (hb _ (hm _)) (hb _ (hm _)) (hb _ (hm _)) (hb _ (hm _)) (mp (fun c => pb3 (pb2 (pb1 c))) 8 X) rfl
  obtain ⟨s1, s2, s3⟩ := hW
  have l3 : mp (fun c => pb3 (pb2 (pb1 c))) 8 X < 2 ^ 62 := Nat.lt_of_le_of_lt (Nat.le_add_right _ _) s1
  have t0 : X / 2 < 2 ^ 64 := Nat.lt_of_le_of_lt (Nat.div_le_self _ _) hX
  have t1 : mp pb1 8 X / 4 < 2 ^ 64 := Nat.lt_of_le_of_lt (Nat.div_le_self _ _) l1
  have u1 := w_ushr hX (s := 1) (by decide)
  rw [Nat.pow_one] at u1
  have u2 := w_ushr l1 (s := 2) (by decide)
  rw [show (2 : Nat) ^ 2 = 4 from rfl] at u2
  have u4 := w_ushr l2 (s := 4) (by decide)
  rw [show (2 : Nat) ^ 4 = 16 from rfl] at u4
  have u8 := w_ushr (Nat.lt_trans l3 (by decide)) (s := 8) (by decide)
  have u16 := w_ushr (Nat.lt_trans s1 (by decide)) (s := 16) (by decide)
  have u32 := w_ushr (Nat.lt_trans s2 (by decide)) (s := 32) (by decide)
  unfold f_J13_bitCount_95d88
  simp only [↓q_m1, q_lit, q_litL, ↓q_bd]
  rw [u1, w_and t0 (by decide), lN_sub g1, a1, u2, w_and l1 (by decide), w_and t1 (by decide), lN_add, a2, u4, lN_add, w_and l2' (by decide), a3, u8, lN_add, u16, lN_add, u32, lN_add, lN_i, e127, s3]
  rfl
theorem pcB_or : ∀ c, c < 256 → ∀ b, b < 8 → c ||| 2 ^ b < 256 ∧ pcB (c ||| 2 ^ b) = pcB c + if c.testBit b then 0 else 1 := by decide +kernel
theorem or_spl (X b : Nat) : (b < 8 → (X ||| 2 ^ b) % 256 = (X % 256) ||| 2 ^ b ∧ (X ||| 2 ^ b) / 256 = X / 256) ∧ (8 ≤ b → (X ||| 2 ^ b) % 256 = X % 256 ∧ (X ||| 2 ^ b) / 256 = (X / 256) ||| 2 ^ (b - 8)) := by
  have h256 : (256 : Nat) = 2 ^ 8 := rfl
  refine ⟨fun hb => ⟨?_, ?_⟩, fun hb => ⟨?_, ?_⟩⟩
  · refine Nat.eq_of_testBit_eq fun i => ?_
    rw [h256, Nat.testBit_mod_two_pow, Nat.testBit_or, Nat.testBit_or, Nat.testBit_mod_two_pow, Nat.testBit_two_pow]
    by_cases hi : i < 8
    · simp [hi]
    · have : ¬ b = i := by omega
      simp [hi, this]
  · refine Nat.eq_of_testBit_eq fun i => ?_
    rw [h256, Nat.testBit_div_two_pow, Nat.testBit_div_two_pow, Nat.testBit_or, Nat.testBit_two_pow]
    have : ¬ b = i + 8 := by omega
    simp [this]
  · refine Nat.eq_of_testBit_eq fun i => ?_
    rw [h256, Nat.testBit_mod_two_pow, Nat.testBit_or, Nat.testBit_mod_two_pow, Nat.testBit_two_pow]
    by_cases hi : i < 8
    · have : ¬ b = i := by omega
      simp [hi, this]
    · simp [hi]
  · refine Nat.eq_of_testBit_eq fun i => ?_
    rw [h256, Nat.testBit_div_two_pow, Nat.testBit_or, Nat.testBit_or, Nat.testBit_div_two_pow, Nat.testBit_two_pow, Nat.testBit_two_pow]
    have : (b = i + 8) = (b - 8 = i) := propext (by omega)
    simp only [this]
theorem pcS_or : ∀ m X b, b < 8 * m → pcS m (X ||| 2 ^ b) = pcS m X + if X.testBit b then 0 else 1 := by
  intro m
  induction m with
  | zero => intro X b hb; omega
  | succ m ih =>
    intro X b hb
    obtain ⟨h1, h2⟩ := or_spl X b
    show pcB ((X ||| 2 ^ b) % 256) + pcS m ((X ||| 2 ^ b) / 256) = pcB (X % 256) + pcS m (X / 256) + _
    by_cases hb8 : b < 8
    · obtain ⟨g1, g2⟩ := h1 hb8
      rw [g1, g2, (pcB_or (X % 256) (by omega) b hb8).2]
      have : (X % 256).testBit b = X.testBit b := by
        rw [show (256 : Nat) = 2 ^ 8 from rfl, Nat.testBit_mod_two_pow, decide_eq_true hb8, Bool.true_and]
      rw [this]
      omega
    · obtain ⟨g1, g2⟩ := h2 (by omega)
      rw [g1, g2, ih (X / 256) (b - 8) (by omega)]
      have : (X / 256).testBit (b - 8) = X.testBit b := by
        rw [show (256 : Nat) = 2 ^ 8 from rfl, Nat.testBit_div_two_pow, show b - 8 + 8 = b by omega]
      rw [this]
      omega
theorem and_tp (Y b : Nat) : (Y &&& 2 ^ b = 0) = (Y.testBit b = false) := by
  cases h : Y.testBit b with
  | true =>
    refine propext ⟨fun h9 => ?_, fun h9 => Bool.noConfusion h9⟩
    have := congrArg (fun x => Nat.testBit x b) h9
    simp only [Nat.testBit_and, h, Nat.testBit_two_pow_self, Nat.zero_testBit, Bool.and_self] at this
    exact Bool.noConfusion this
  | false =>
    refine propext ⟨fun _ => rfl, fun _ => ?_⟩
    refine Nat.eq_of_testBit_eq fun i => ?_
    rw [Nat.testBit_and, Nat.testBit_two_pow, Nat.zero_testBit]
    by_cases hi : b = i
    · subst hi; rw [h, Bool.false_and]
    · rw [decide_eq_false hi, Bool.and_false]
theorem pcS_0 : pcS 8 0 = 0 := by decide +kernel
theorem q_lacks {n nm np : Nat} {T : Nat → Int32} {K C O S N M : kD} (hR : RT n K T M) (ho : RO nm np O (M.1 6)) :
    ∃ r M', f_X11_lacks K T C O S N = some (r, kI K 0 1 (nI 0)) ∧ f_X12_lacks M = some (r, M') ∧ RT 0 (kI K 0 1 (nI 0)) T M' ∧ MXz M M' ∧ M'.1 0 0 = nI 0 := by
  obtain ⟨M31, t1, t2, t3, t4, t5, t6⟩ := q_take hR (nI 940)
  obtain ⟨M31', u1, u2, u3, u4, u5, u6, u7, u8⟩ := q_taken (kI M 0 0 (nI 0)) n (nI 940) hR.2.2.1
  have e31 : M31' = M31 := by
    rw [t1] at u1
    exact (Option.some.inj u1).symm
  rw [e31] at u8
  have h00 : M31.1 0 0 = nI 0 := (u8 0 (by omega) (by omega) (by omega) (by omega)).trans rfl
  have h3 : M31.1 0 3 = nI n := t2.2.1
  have ho1 : RO nm np O (M31.1 6) := by rw [t3.2.1 6 (by omega)]; exact ho
  have hp := ho.1.2
  unfold f_X11_lacks f_X12_lacks
  rw [q_takeT hR.2.1]
  simp only [↓q_m1, q_lit, q_litL, ↓q_bd, ↓q_bo2]
  rw [t1, q_bo]
  rcases q_tellsP (K := kI K 0 1 (nI 0)) (C := C) (S := S) (N := N) hp ho.2.1.2.2.2.1 ho1.2.1.2.1 t2 with ⟨hP, k1, k2⟩ | ⟨_, k1, k2⟩
  · rw [k1, k2, q_bo, q_bo, if_neg n10, if_neg n10]
    obtain ⟨hn1, hn9, hph⟩ := hP
    have key := q_two (fun f k (X : Nat) => lp (fun _ _ _ _ => none) (g_X11_lacks_20 T C O S N) f (nI n) (lN X) (nI (1 + k)) (kI K 0 1 (nI 0))) (fun f k (Y : Nat × Nat) => lp (fun _ _ _ _ => none) g_X12_lacks_28 f (lN Y.1) (nI Y.2) (nI (1 + k)) M31) (fun _ X Y => X < 2 ^ 64 ∧ Y.1 < 2 ^ 64 ∧ Y.2 = pcS 8 X ∧ ∀ p q, p < 8 → q < 8 → X.testBit (8 * p + q) = Y.1.testBit (8 * q + p)) (fun r1 r2 => ∃ r, r1 = some (r, kI K 0 1 (nI 0)) ∧ r2 = some (r, M31)) (n - 1) ?_ ?_ (n - 1) 0 2000 2000 0 (0, 0) (by omega) (by omega) (by omega) ⟨by omega, by show 0 < _; omega, pcS_0.symm, fun p q _ _ => by show Nat.testBit 0 _ = Nat.testBit 0 _; rw [Nat.zero_testBit, Nat.zero_testBit]⟩
    · obtain ⟨r, r1, r2⟩ := key
      exact ⟨r, M31, r1, r2, t6, t3, h00⟩
    · rintro f g k X ⟨Y, c⟩ _ _ hk ⟨hX, hY, hc, hXY⟩ ih
      have hY : Y < 2 ^ 64 := hY
      have hc : c = pcS 8 X := hc
      have hXY : ∀ p q, p < 8 → q < 8 → X.testBit (8 * p + q) = Y.testBit (8 * q + p) := hXY
      obtain ⟨q, hq, tq⟩ := hph (1 + k) (by omega)
      obtain ⟨p, hpp, tp⟩ := hph k (by omega)
      obtain ⟨a1, a2⟩ := q_answer (M := M31) ho1 hq hpp
      generalize (O.1 10 p).toNatClampNeg.testBit q = b at a1 a2
      have o1 := q_oct t2 (show 1 + k < 940 by omega)
      have o2 := q_oct t2 (show k < 940 by omega)
      rw [tq] at o1
      rw [tp] at o2
      have hb64 : (2 : Nat) ^ (p * 8 + q) < 2 ^ 64 := Nat.pow_lt_pow_right (by omega) (by omega)
      have hb64' : (2 : Nat) ^ (8 * q + p) < 2 ^ 64 := Nat.pow_lt_pow_right (by omega) (by omega)
      simp only [q_lp]
      generalize lp _ (g_X11_lacks_20 T C O S N) f = rc at ih ⊢
      generalize lp _ g_X12_lacks_28 g = rd at ih ⊢
      have hC : g_X11_lacks_20 T C O S N rc (nI n) (lN X) (nI (1 + k)) (kI K 0 1 (nI 0)) = rc (nI n) (lN (if b then X else X ||| 2 ^ (p * 8 + q))) (nI (1 + (k + 1))) (kI K 0 1 (nI 0)) := by
        unfold g_X11_lacks_20 g_X11_lacks_80
        simp (disch := omega) only [↓q_m1, q_lit, q_litL, ↓q_bd, q_le, show ¬ n ≤ 1 + k by omega, ↓reduceIte, q_lt, Nat.not_lt_zero, false_or, q_cl, show ¬ 940 ≤ 1 + k by omega, q_sub, Nat.add_sub_cancel_left, show ¬ 940 ≤ k by omega, tq, tp, a1, ↓q_bo, q_qb, pk_mul, nI_add, show 1 + k + 1 = 1 + (k + 1) by omega, w_one (p * 8 + q) (by omega)]
        rw [w_or hX hb64]
        cases b with
        | false => simp only [↓reduceIte, Bool.false_eq_true]
        | true => simp only [Bool.true_eq_false, ↓reduceIte]
      have hand : (lN Y &&& lN (2 ^ (8 * q + p)) = lN 0) = (Y.testBit (8 * q + p) = false) := by
        rw [w_and hY hb64', w_eq (Nat.lt_of_le_of_lt Nat.and_le_left hY) (by omega), and_tp]
      have hD : g_X12_lacks_28 rd (lN Y) (nI c) (nI (1 + k)) M31 = rd (lN (if b then Y else Y ||| 2 ^ (8 * q + p))) (nI (if b then c else c + if Y.testBit (8 * q + p) then 0 else 1)) (nI (1 + (k + 1))) M31 := by
        unfold g_X12_lacks_28 g_X12_lacks_100
        simp (disch := omega) only [↓q_m1, q_lit, q_litL, ↓q_bd, h3, q_le, show ¬ n ≤ 1 + k by omega, ↓reduceIte, o1, q_sub, Nat.add_sub_cancel_left, o2, ↓q_bo, a2, q_qb, pk_mul, nI_add, show 1 + k + 1 = 1 + (k + 1) by omega, w_one (8 * q + p) (by omega), l_cmp0, hand]
        cases b with
        | true => simp only [Bool.true_eq_false, ↓reduceIte]
        | false =>
          simp only [↓reduceIte, Bool.false_eq_true]
          cases hyb : Y.testBit (8 * q + p) with
          | false => simp only [↓reduceIte, Bool.false_eq_true]; rw [w_or hY hb64']
          | true =>
            simp only [Bool.true_eq_false, ↓reduceIte, Nat.add_zero]
            have : Y ||| 2 ^ (8 * q + p) = Y := by
              refine Nat.eq_of_testBit_eq fun i => ?_
              rw [Nat.testBit_or, Nat.testBit_two_pow]
              by_cases hi : 8 * q + p = i
              · subst hi; rw [hyb, Bool.true_or]
              · rw [decide_eq_false hi, Bool.or_false]
            rw [this]
      show ∃ r, _ ∧ g_X12_lacks_28 rd (lN Y) (nI c) (nI (1 + k)) M31 = _
      rw [hC, hD]
      refine ih _ (_, _) ⟨?_, ?_, ?_, ?_⟩
      · cases b with
        | true => exact hX
        | false => exact Nat.or_lt_two_pow hX hb64
      · cases b with
        | true => exact hY
        | false => exact Nat.or_lt_two_pow hY hb64'
      · cases b with
        | true => exact hc
        | false =>
          show c + (if Y.testBit (8 * q + p) then 0 else 1) = pcS 8 (X ||| 2 ^ (p * 8 + q))
          rw [pcS_or 8 X (p * 8 + q) (by omega), hc, Nat.mul_comm p 8, hXY p q (by omega) (by omega)]
      · cases b with
        | true => exact hXY
        | false =>
          intro p' q' hp' hq'
          show (X ||| 2 ^ (p * 8 + q)).testBit (8 * p' + q') = (Y ||| 2 ^ (8 * q + p)).testBit (8 * q' + p')
          rw [Nat.testBit_or, Nat.testBit_or, Nat.testBit_two_pow, Nat.testBit_two_pow, hXY p' q' hp' hq', show decide (p * 8 + q = 8 * p' + q') = decide (8 * q + p = 8 * q' + p') from decide_eq_decide.mpr (by omega)]
    · rintro f g X ⟨Y, c⟩ ⟨hX, hY, hc, hXY⟩
      have hc : c = pcS 8 X := hc
      refine ⟨nI c, ?_, ?_⟩
      · simp only [q_lp]
        generalize lp _ (g_X11_lacks_20 T C O S N) f = rc
        unfold g_X11_lacks_20 g_X11_lacks_86
        simp (disch := omega) only [q_le, show n ≤ 1 + (n - 1) by omega, ↓reduceIte]
        rw [q_bcL hX, hc]
      · simp only [q_lp]
        generalize lp _ g_X12_lacks_28 g = rd
        unfold g_X12_lacks_28
        simp (disch := omega) only [h3, q_le, show n ≤ 1 + (n - 1) by omega, ↓reduceIte]
  · rw [k1, k2, q_bo, q_bo, if_pos rfl, if_pos rfl]
    exact ⟨mI, M31, rfl, rfl, t6, t3, h00⟩
