theorem dX11_placeOf_34 : decode cX11_placeOf 34 = .ok (.iconst (-1), 1) := by decide +kernel
theorem dX11_placeOf_35 : decode cX11_placeOf 35 = .ok (.ireturn, 1) := by decide +kernel
/-! the class: base -/
def kTx (a b : Nat) (v : Int32) : Nat := if v = 0 then a else b
theorem kTx_1 (a b : Nat) {v : Int32} (h : v = 1) : kTx a b v = b := by rw [h]; rfl
/-! the compounds of the class: an object and its own rows; data by slot of the field -/
def kW (ad : Nat → Nat) (v : Int32) : Option Nat := if v < 0 ∨ 22 ≤ v.toNatClampNeg then none else some (ad v.toNatClampNeg)
def fX9 (ad ra : Nat → Nat) (D : kD) : List Value := [.int (D.1 0 0), .int (D.1 0 1), .int (D.1 0 2), .int (D.1 0 3), .int (D.1 0 4), .ref (ra 5), .ref (ra 6), .ref (ra 7), .ref (ra 8)]
def wX9 (cs : Nat → ClassId) (ad ra : Nat → Nat) (D : kD) : va_W := [(ra 0, .inr (10, fX9 ad ra D)), (ra 5, .inl (cs 1, 6, .inl (D.1 5))), (ra 6, .inl (cs 1, 6, .inl (D.1 6))), (ra 7, .inl (cs 1, 6, .inl (D.1 7))), (ra 8, .inl (cs 1, 36, .inl (D.1 8)))]
def fX3 (ad ra : Nat → Nat) (D : kD) : List Value := [.int (D.1 0 0), .int (D.1 0 1), .int (D.1 0 2), .int (D.1 0 3), .ref (ra 4), .ref (ra 5), .ref (ra 6), .ref (ra 7), .ref (ra 8), .ref (ra 9), .ref (ra 10)]
def wX3 (cs : Nat → ClassId) (ad ra : Nat → Nat) (D : kD) : va_W := [(ra 0, .inr (4, fX3 ad ra D)), (ra 4, .inl (cs 2, 6, .inr (.inl (D.2 4)))), (ra 5, .inl (cs 1, 6, .inl (D.1 5))), (ra 6, .inl (cs 1, 6, .inl (D.1 6))), (ra 7, .inl (cs 2, 8, .inr (.inl (D.2 7)))), (ra 8, .inl (cs 1, 8, .inl (D.1 8))), (ra 9, .inl (cs 1, 8, .inl (D.1 9))), (ra 10, .inl (cs 1, 8, .inl (D.1 10)))]
def fX0 (ad ra : Nat → Nat) (D : kD) : List Value := [.int (D.1 0 0), .int (D.1 0 1), .int (D.1 0 2), .ref (ra 3), .ref (ra 4), .ref (ra 5)]
def wX0 (cs : Nat → ClassId) (ad ra : Nat → Nat) (D : kD) : va_W := [(ra 0, .inr (1, fX0 ad ra D)), (ra 3, .inl (cs 1, 40, .inl (D.1 3))), (ra 4, .inl (cs 1, 40, .inl (D.1 4))), (ra 5, .inl (cs 1, 40, .inl (D.1 5)))]
def fX5 (ad ra : Nat → Nat) (D : kD) : List Value := [.ref (ra 100), .ref (ra 1), .ref (ra 2), .int (D.1 0 3)]
def wX5 (cs : Nat → ClassId) (ad ra : Nat → Nat) (D : kD) : va_W := [(ra 0, .inr (6, fX5 ad ra D)), (ra 100, .inl (cs 1, 48, .inl (D.1 100))), (ra 1, .inl (cs 1, 48, .inl (D.1 1))), (ra 2, .inl (cs 1, 48, .inl (D.1 2)))]
def fX8 (ad ra : Nat → Nat) (D : kD) : List Value := [.int (D.1 0 0), .int (D.1 0 1), .ref (ra 2), .ref (ra 3), .ref (ra 4), .ref (ra 5)]
def wX8 (cs : Nat → ClassId) (ad ra : Nat → Nat) (D : kD) : va_W := [(ra 0, .inr (9, fX8 ad ra D)), (ra 2, .inl (cs 4, 40, .inr (.inr (.inr (.inr (fun j => kW ad (D.1 2 j))))))), (ra 3, .inl (cs 1, 40, .inl (D.1 3))), (ra 4, .inl (cs 1, 40, .inl (D.1 4))), (ra 5, .inl (cs 1, 20, .inl (D.1 5)))]
def fX1 (ad ra : Nat → Nat) (D : kD) : List Value := [.int (D.1 0 0)]
def wX1 (cs : Nat → ClassId) (ad ra : Nat → Nat) (D : kD) : va_W := [(ra 0, .inr (2, fX1 ad ra D))]
def fX4 (ad ra : Nat → Nat) (x0 x0b : Nat) (D : kD) : List Value := [.ref (kTx x0 x0b (D.1 0 0)), .int (D.1 0 1), .int (D.1 0 2), .int (D.1 0 3), .int (D.1 0 4), .int (D.1 0 5), va_rf (kW ad (D.1 0 6)), .long (D.2 0 7), .int (D.1 0 8), .int (D.1 0 9), .int (D.1 0 10)]
def wX4 (cs : Nat → ClassId) (ad ra : Nat → Nat) (x0 x0b : Nat) (D : kD) : va_W := [(ra 0, .inr (5, fX4 ad ra x0 x0b D))]
def fX7 (ad ra : Nat → Nat) (x0 x1 x2 : Nat) (D : kD) : List Value := [.ref x0, .ref x1, .ref x2]
def wX7 (cs : Nat → ClassId) (ad ra : Nat → Nat) (x0 x1 x2 : Nat) (D : kD) : va_W := [(ra 0, .inr (8, fX7 ad ra x0 x1 x2 D))]
def fX11 (ad ra : Nat → Nat) (x0 x2 x3 x4 x5 x6 x7 x8 x9 x10 x11 x12 x13 x14 x18 : Nat) (D : kD) : List Value := [.ref x0, .int (D.1 0 1), .ref x2, .ref x3, .ref x4, .ref x5, .ref x6, .ref x7, .ref x8, .ref x9, .ref x10, .ref x11, .ref x12, .ref x13, .ref x14, .int (D.1 0 15), .int (D.1 0 16), .int (D.1 0 17), .ref x18]
def wX11 (cs : Nat → ClassId) (ad ra : Nat → Nat) (x0 x2 x3 x4 x5 x6 x7 x8 x9 x10 x11 x12 x13 x14 x18 : Nat) (D : kD) : va_W := [(ra 0, .inr (11, fX11 ad ra x0 x2 x3 x4 x5 x6 x7 x8 x9 x10 x11 x12 x13 x14 x18 D))]
def fX2 (ad ra : Nat → Nat) (x2 : Nat) (D : kD) : List Value := [.int (D.1 0 0), .int (D.1 0 1), .ref x2]
def wX2 (cs : Nat → ClassId) (ad ra : Nat → Nat) (x2 : Nat) (D : kD) : va_W := [(ra 0, .inr (3, fX2 ad ra x2 D))]
def fX6 (ad ra : Nat → Nat) (x0 x1 : Nat) (D : kD) : List Value := [.ref x0, .ref x1, .ref (ra 2), .int (D.1 0 3), .int (D.1 0 4)]
def wX6 (cs : Nat → ClassId) (ad ra : Nat → Nat) (x0 x1 : Nat) (D : kD) : va_W := [(ra 0, .inr (7, fX6 ad ra x0 x1 D)), (ra 2, .inl (cs 1, 9, .inl (D.1 2)))]
def wX9x8 (cs : Nat → ClassId) (ad : Nat → Nat) (ra : Nat → Nat → Nat) (F : Nat → kD) : va_W := (wX9 cs ad (ra 0) (F 0) ++ (wX9 cs ad (ra 1) (F 1) ++ (wX9 cs ad (ra 2) (F 2) ++ (wX9 cs ad (ra 3) (F 3) ++ (wX9 cs ad (ra 4) (F 4) ++ (wX9 cs ad (ra 5) (F 5) ++ (wX9 cs ad (ra 6) (F 6) ++ (wX9 cs ad (ra 7) (F 7)))))))))
def wX3x2 (cs : Nat → ClassId) (ad : Nat → Nat) (ra : Nat → Nat → Nat) (F : Nat → kD) : va_W := (wX3 cs ad (ra 0) (F 0) ++ (wX3 cs ad (ra 1) (F 1)))
def wX9x2 (cs : Nat → ClassId) (ad : Nat → Nat) (ra : Nat → Nat → Nat) (F : Nat → kD) : va_W := (wX9 cs ad (ra 0) (F 0) ++ (wX9 cs ad (ra 1) (F 1)))
def wX8x2 (cs : Nat → ClassId) (ad : Nat → Nat) (ra : Nat → Nat → Nat) (F : Nat → kD) : va_W := (wX8 cs ad (ra 0) (F 0) ++ (wX8 cs ad (ra 1) (F 1)))
def wIC (cs : Nat → ClassId) (ad : Nat → Nat) (rc ro rs rn : Nat → Nat → Nat) : va_W := (wX7 cs ad (rc 0) (ro 0 0) (rs 0 0) (rn 0 0) zD ++ (wX7 cs ad (rc 1) (ro 1 0) (rs 1 0) (rn 1 0) zD))
def nestWs : List Cond := [.methodLinkNest RX11 15 yX4_init "KeyLetters", .fieldLinkNest RX8 75 "KeyLetters$Reader" "word" "LKeyLetters$Word;" "KeyLetters", .fieldLinkNest RX3 126 "KeyLetters$Reader" "name" "J" "KeyLetters", .fieldLinkNest RX0 112 "KeyLetters$Reader" "value" "I" "KeyLetters", .fieldLinkNest RX8 133 "KeyLetters$Reader" "value" "I" "KeyLetters", .fieldLinkNest RX3 133 "KeyLetters$Reader" "value" "I" "KeyLetters", .fieldLinkNest RX11 124 "KeyLetters$Reader" "faultKind" "I" "KeyLetters", .fieldLinkNest RX11 130 "KeyLetters$Reader" "faultPlace" "I" "KeyLetters", .methodLinkNest RX11 22 yX7_init "KeyLetters", .methodLinkNest RX7 9 yX3_init "KeyLetters", .fieldLinkNest RX11 140 "KeyLetters$Office" "lines" "I" "KeyLetters", .fieldLinkNest RX0 61 "KeyLetters$Office" "machines" "I" "KeyLetters", .fieldLinkNest RX8 113 "KeyLetters$Office" "machines" "I" "KeyLetters", .fieldLinkNest RX9 125 "KeyLetters$Office" "machines" "I" "KeyLetters", .fieldLinkNest RX11 399 "KeyLetters$Office" "machines" "I" "KeyLetters", .fieldLinkNest RX0 101 "KeyLetters$Office" "phrases" "I" "KeyLetters", .fieldLinkNest RX8 100 "KeyLetters$Office" "phrases" "I" "KeyLetters", .fieldLinkNest RX9 88 "KeyLetters$Office" "phrases" "I" "KeyLetters", .fieldLinkNest RX11 298 "KeyLetters$Office" "phrases" "I" "KeyLetters", .fieldLinkNest RX11 402 "KeyLetters$Office" "answersTold" "I" "KeyLetters", .fieldLinkNest RX0 55 "KeyLetters$Office" "machineNames" "[J" "KeyLetters", .fieldLinkNest RX8 110 "KeyLetters$Office" "machineNames" "[J" "KeyLetters", .fieldLinkNest RX11 320 "KeyLetters$Office" "machineNames" "[J" "KeyLetters", .fieldLinkNest RX9 40 "KeyLetters$Office" "ink" "[I" "KeyLetters", .fieldLinkNest RX11 159 "KeyLetters$Office" "known" "[I" "KeyLetters", .fieldLinkNest RX0 98 "KeyLetters$Office" "phraseNames" "[J" "KeyLetters", .fieldLinkNest RX8 94 "KeyLetters$Office" "phraseNames" "[J" "KeyLetters", .fieldLinkNest RX11 301 "KeyLetters$Office" "phraseNames" "[J" "KeyLetters", .fieldLinkNest RX11 185 "KeyLetters$Office" "sizes" "[I" "KeyLetters", .fieldLinkNest RX9 85 "KeyLetters$Office" "sizes" "[I" "KeyLetters", .fieldLinkNest RX11 188 "KeyLetters$Office" "claims" "[I" "KeyLetters", .fieldLinkNest RX9 106 "KeyLetters$Office" "claims" "[I" "KeyLetters", .fieldLinkNest RX11 191 "KeyLetters$Office" "answers" "[I" "KeyLetters", .methodLinkNest RX7 18 yX9_init "KeyLetters", .fieldLinkNest RX11 204 "KeyLetters$State" "day" "I" "KeyLetters", .fieldLinkNest RX5 31 "KeyLetters$State" "latest" "I" "KeyLetters", .fieldLinkNest RX11 207 "KeyLetters$State" "latest" "I" "KeyLetters", .fieldLinkNest RX5 25 "KeyLetters$State" "writer" "I" "KeyLetters", .fieldLinkNest RX11 210 "KeyLetters$State" "writer" "I" "KeyLetters", .fieldLinkNest RX8 162 "KeyLetters$State" "writer" "I" "KeyLetters", .fieldLinkNest RX11 213 "KeyLetters$State" "held" "I" "KeyLetters", .fieldLinkNest RX11 220 "KeyLetters$State" "lettersOver" "I" "KeyLetters", .fieldLinkNest RX11 156 "KeyLetters$State" "ink" "[I" "KeyLetters", .fieldLinkNest RX8 180 "KeyLetters$State" "ink" "[I" "KeyLetters", .fieldLinkNest RX11 165 "KeyLetters$State" "wrote" "[I" "KeyLetters", .fieldLinkNest RX8 183 "KeyLetters$State" "wrote" "[I" "KeyLetters", .fieldLinkNest RX11 168 "KeyLetters$State" "letters" "[I" "KeyLetters", .fieldLinkNest RX11 223 "KeyLetters$State" "debts" "[I" "KeyLetters", .methodLinkNest RX7 25 yX8_init "KeyLetters", .fieldLinkNest RX11 378 "KeyLetters$Sentence" "ones" "I" "KeyLetters", .fieldLinkNest RX11 143 "KeyLetters$Scene" "office" "LKeyLetters$Office;" "KeyLetters", .fieldLinkNest RX11 146 "KeyLetters$Scene" "state" "LKeyLetters$State;" "KeyLetters", .fieldLinkNest RX11 372 "KeyLetters$Scene" "sentence" "LKeyLetters$Sentence;" "KeyLetters", .methodLinkNest RX11 37 yX2_init "KeyLetters", .methodLinkNest RX2 15 yX9_init "KeyLetters", .fieldLinkNest RX11 253 "KeyLetters$History" "size" "I" "KeyLetters", .methodLinkNest RX11 44 yX3_init "KeyLetters", .methodLinkNest RX11 51 yX8_init "KeyLetters", .methodLinkNest RX11 58 yX0_init "KeyLetters", .fieldLinkNest RX11 368 "KeyLetters$Book" "lived" "I" "KeyLetters", .fieldLinkNest RX11 365 "KeyLetters$Book" "whyWrong" "I" "KeyLetters", .methodLinkNest RX11 65 yX9_init "KeyLetters", .methodLinkNest RX11 72 yX1_init "KeyLetters", .fieldLinkNest RX11 347 "KeyLetters$Dice" "seed" "I" "KeyLetters", .methodLinkNest RX11 79 yX5_init "KeyLetters", .fieldLinkNest RX11 261 "KeyLetters$Route" "steps" "[I" "KeyLetters", .fieldLinkNest RX11 260 "KeyLetters$Route" "size" "I" "KeyLetters", .methodLinkNest RX11 86 yX6_init "KeyLetters", .fieldLinkNest RX11 279 "KeyLetters$Rows" "first" "[I" "KeyLetters", .fieldLinkNest RX11 278 "KeyLetters$Rows" "size" "I" "KeyLetters", .fieldLinkNest RX11 282 "KeyLetters$Rows" "askPlace" "I" "KeyLetters", .methodLinkNest RX11 116 yX4_open "KeyLetters", .methodLinkNest RX11 120 yX3_read "KeyLetters", .methodLinkNest RX3 70 yX4_seesEnd "KeyLetters", .methodLinkNest RX3 92 yX4_seesWord "KeyLetters", .methodLinkNest RX3 117 yX4_refuse "KeyLetters", .methodLinkNest RX3 120 yX4_advance "KeyLetters", .methodLinkNest RX3 140 yX4_needsName "KeyLetters", .methodLinkNest RX3 143 yX11_placeOf "KeyLetters", .methodLinkNest RX3 130 yX4_needsNumber "KeyLetters", .methodLinkNest RX3 136 yX4_neededOf "KeyLetters", .methodLinkNest RX4 101 yX11_placeOf "KeyLetters", .methodLinkNest RX3 60 yX11_hasBit "KeyLetters", .methodLinkNest RX3 80 yX4_passSign "KeyLetters", .methodLinkNest RX3 83 yX4_needsEnd "KeyLetters", .methodLinkNest RX11 133 yX7_begin "KeyLetters", .methodLinkNest RX7 30 yX3_copyFrom "KeyLetters", .methodLinkNest RX7 34 yX9_begin "KeyLetters", .methodLinkNest RX7 37 yX8_forget "KeyLetters", .methodLinkNest RX11 137 yX2_forget "KeyLetters", .methodLinkNest RX11 182 yX3_hasPhrase "KeyLetters", .methodLinkNest RX11 194 yX3_answeredBy "KeyLetters", .methodLinkNest RX11 197 yX3_machinesKnowing "KeyLetters", .methodLinkNest RX11 149 yX3_hasMachine "KeyLetters", .methodLinkNest RX11 200 yX9_debtOf "KeyLetters", .methodLinkNest RX11 405 yX9_whyNot "KeyLetters", .methodLinkNest RX9 65 yX3_hasMachine "KeyLetters", .methodLinkNest RX9 76 yX3_hasPhrase "KeyLetters", .methodLinkNest RX9 49 yX11_hasBit "KeyLetters", .methodLinkNest RX9 79 yX3_knowsOf "KeyLetters", .methodLinkNest RX9 82 yX3_isAnswer "KeyLetters", .methodLinkNest RX11 241 yX2_keep "KeyLetters", .methodLinkNest RX2 23 yX9_copyFrom "KeyLetters", .methodLinkNest RX11 409 yX9_perform "KeyLetters", .methodLinkNest RX11 233 yX9_daysLeft "KeyLetters", .methodLinkNest RX11 245 yX9_passDays "KeyLetters", .methodLinkNest RX11 249 yX2_takeBack "KeyLetters", .methodLinkNest RX11 256 yX5_find "KeyLetters", .methodLinkNest RX5 49 yX9_isHeld "KeyLetters", .methodLinkNest RX5 53 yX3_knowsOf "KeyLetters", .methodLinkNest RX5 59 yX3_isAnswer "KeyLetters", .methodLinkNest RX11 264 yX9_copyFrom "KeyLetters", .methodLinkNest RX11 267 yX9_passDay "KeyLetters", .methodLinkNest RX11 274 yX6_measure "KeyLetters", .methodLinkNest RX6 27 yX3_knowsOf "KeyLetters", .methodLinkNest RX6 37 yX11_sumOf "KeyLetters", .methodLinkNest RX11 285 yX3_isAnswer "KeyLetters", .methodLinkNest RX11 162 yX9_isHeld "KeyLetters", .methodLinkNest RX11 350 yX9_drawDays "KeyLetters", .methodLinkNest RX9 132 yX1_draw "KeyLetters", .methodLinkNest RX11 354 yX0_read "KeyLetters", .methodLinkNest RX0 25 yX4_seesEnd "KeyLetters", .methodLinkNest RX0 48 yX4_seesWord "KeyLetters", .methodLinkNest RX0 63 yX4_neededOf "KeyLetters", .methodLinkNest RX0 67 yX4_refuse "KeyLetters", .methodLinkNest RX0 70 yX4_advance "KeyLetters", .methodLinkNest RX0 108 yX4_needsNumber "KeyLetters", .methodLinkNest RX0 35 yX4_passSign "KeyLetters", .methodLinkNest RX0 39 yX4_needsEnd "KeyLetters", .methodLinkNest RX11 357 yX0_live "KeyLetters", .methodLinkNest RX0 121 yX9_whyNot "KeyLetters", .methodLinkNest RX0 127 yX9_passDays "KeyLetters", .methodLinkNest RX0 131 yX9_perform "KeyLetters", .methodLinkNest RX11 371 yX8_read "KeyLetters", .methodLinkNest RX8 71 yX4_seesSign "KeyLetters", .methodLinkNest RX8 82 yX4_refuse "KeyLetters", .methodLinkNest RX8 58 yX4_advance "KeyLetters", .methodLinkNest RX8 85 yX4_passSign "KeyLetters", .methodLinkNest RX8 129 yX4_neededOf "KeyLetters", .methodLinkNest RX8 136 yX4_needsNumber "KeyLetters", .methodLinkNest RX8 54 yX4_seesWord "KeyLetters", .methodLinkNest RX8 41 yX4_needsEnd "KeyLetters", .methodLinkNest RX11 375 yX8_copyFrom "KeyLetters", .methodLinkNest RX11 381 yX8_isTold "KeyLetters", .methodLinkNest RX11 385 yX8_machinesOf "KeyLetters", .methodLinkNest RX8 148 yX3_hasMachine "KeyLetters", .methodLinkNest RX8 154 yX9_isHeld "KeyLetters", .methodLinkNest RX8 168 yX9_phrasesAble "KeyLetters", .methodLinkNest RX8 172 yX9_whyNotWrite "KeyLetters", .methodLinkNest RX8 176 yX9_debtOf "KeyLetters", .methodLinkNest RX11 396 yX7_copyFrom "KeyLetters", .methodLinkNest RX7 40 yX9_copyFrom "KeyLetters", .methodLinkNest RX7 43 yX8_copyFrom "KeyLetters", .methodLinkNest RX11 171 yX9_phrasesAble "KeyLetters", .methodLinkNest RX11 175 yX9_owedBy "KeyLetters", .methodLinkNest RX11 179 yX9_owedTo "KeyLetters", .fieldLinkNest RX4 77 "KeyLetters$Word" "text" "Ljava/lang/String;" "KeyLetters", .fieldLinkNest RX8 78 "KeyLetters$Word" "beginsOne" "Z" "KeyLetters"]
theorem kW_in (ad : Nat → Nat) {v : Int32} (h : ¬ (v < 0 ∨ 22 ≤ v.toNatClampNeg)) : va_rf (kW ad v) = .ref (ad v.toNatClampNeg) := by
  unfold kW; rw [if_neg h]; rfl
/-- JDK's statics that are only read: String's check of a place, the digits -/
def kY (A : Nat → Prop) (U : State) (H : Heap) : Prop := va_Zq "jdk/internal/util/Preconditions" "SIOOBE_FORMATTER" "Ljava/util/function/BiFunction;" A U H ∧ (∃ aO, va_Z "java/lang/Integer" "DigitOnes" "[B" (.ref aO) A U H ∧ va_T .byte aO 100 (fun j => .int (Int32.ofNat (48 + j % 10))) A U H) ∧ ∃ aT, va_Z "java/lang/Integer" "DigitTens" "[B" (.ref aT) A U H ∧ va_T .byte aT 100 (fun j => .int (Int32.ofNat (48 + j / 10))) A U H
theorem kY.moved {A : Nat → Prop} {u U : State} {H : Heap} (hvm : u.vm.Alike U.vm) (h : kY A u H) : kY A U H := by
  obtain ⟨h1, ⟨aO, h2, h3⟩, aT, h4, h5⟩ := h
  exact ⟨va_Zq.moved hvm h1, ⟨aO, va_Z.moved hvm h2, va_T.moved hvm h3⟩, aT, va_Z.moved hvm h4, va_T.moved hvm h5⟩
theorem kY.kept {A : Nat → Prop} {U : State} {H H1 : Heap} (h : kY A U H) (hq : ∀ a : Nat, a < H.size → ¬ A a → H1[a]? = H[a]?) : kY A U H1 := by
  obtain ⟨h1, ⟨aO, h2, h3⟩, aT, h4, h5⟩ := h
  exact ⟨h1.kept hq, ⟨aO, h2.kept hq, h3.kept hq⟩, aT, h4.kept hq, h5.kept hq⟩
theorem kY.narrow {A B : Nat → Prop} {U : State} {H : Heap} (h : kY A U H) (hAB : ∀ q, B q → A q) : kY B U H := by
  obtain ⟨h1, ⟨aO, h2, h3⟩, aT, h4, h5⟩ := h
  exact ⟨h1.narrow hAB, ⟨aO, h2.narrow hAB, h3.narrow hAB⟩, aT, h4.narrow hAB, h5.narrow hAB⟩
/-- the Words' texts, the row of all Words, String's own switch -/
def kX (ad : Nat → Nat) (A : Nat → Prop) (U : State) (H : Heap) : Prop := ∃ (adK adV : Nat → Nat) (aW : Nat), (∀ i : Nat, i < 22 → va_OF "KeyLetters$Word" "text" "Ljava/lang/String;" (.ref (adK i)) (ad i) A U H ∧ va_O "java/lang/String" (adK i) A U H ∧ va_OF "java/lang/String" "coder" "B" (.int 0) (adK i) A U H ∧ va_OF "java/lang/String" "value" "[B" (.ref (adV i)) (adK i) A U H ∧ va_T .byte (adV i) (wLn i) (fun j => .int (wCh i j)) A U H) ∧ va_Z "KeyLetters$Reader" "WORDS" "[LKeyLetters$Word;" (.ref aW) A U H ∧ va_T (.object "KeyLetters$Word") aW 22 (fun j => .ref (ad j)) A U H ∧ va_Z "java/lang/String" "COMPACT_STRINGS" "Z" (.int 1) A U H ∧ kY A U H
theorem kX.moved {ad : Nat → Nat} {A : Nat → Prop} {u U : State} {H : Heap} (hvm : u.vm.Alike U.vm) (h : kX ad A u H) : kX ad A U H := by
  obtain ⟨adK, adV, aW, h1, h2, h3, h4, h5⟩ := h
  exact ⟨adK, adV, aW, fun i hi => ⟨va_OF.moved hvm (h1 i hi).1, va_O.moved hvm (h1 i hi).2.1, va_OF.moved hvm (h1 i hi).2.2.1, va_OF.moved hvm (h1 i hi).2.2.2.1, va_T.moved hvm (h1 i hi).2.2.2.2⟩, va_Z.moved hvm h2, va_T.moved hvm h3, va_Z.moved hvm h4, h5.moved hvm⟩
theorem kX.kept {ad : Nat → Nat} {A : Nat → Prop} {U : State} {H H1 : Heap} (h : kX ad A U H) (hq : ∀ a : Nat, a < H.size → ¬ A a → H1[a]? = H[a]?) : kX ad A U H1 := by
  obtain ⟨adK, adV, aW, h1, h2, h3, h4, h5⟩ := h
  exact ⟨adK, adV, aW, fun i hi => ⟨(h1 i hi).1.kept hq, (h1 i hi).2.1.kept hq, (h1 i hi).2.2.1.kept hq, (h1 i hi).2.2.2.1.kept hq, (h1 i hi).2.2.2.2.kept hq⟩, h2.kept hq, h3.kept hq, h4.kept hq, h5.kept hq⟩
theorem kX.narrow {ad : Nat → Nat} {A B : Nat → Prop} {U : State} {H : Heap} (h : kX ad A U H) (hAB : ∀ q, B q → A q) : kX ad B U H := by
  obtain ⟨adK, adV, aW, h1, h2, h3, h4, h5⟩ := h
  exact ⟨adK, adV, aW, fun i hi => ⟨(h1 i hi).1.narrow hAB, (h1 i hi).2.1.narrow hAB, (h1 i hi).2.2.1.narrow hAB, (h1 i hi).2.2.2.1.narrow hAB, (h1 i hi).2.2.2.2.narrow hAB⟩, h2.narrow hAB, h3.narrow hAB, h4.narrow hAB, h5.narrow hAB⟩
def kE (ad : Nat → Nat) (A : Nat → Prop) (U : State) (H : Heap) : Prop := va_En "KeyLetters$Word" "LKeyLetters$Word;" wNm [("KeyLetters$Word", "beginsOne", "Z", wBeg)] ad A U H ∧ kX ad A U H
theorem kE.moved {ad : Nat → Nat} {A : Nat → Prop} {u U : State} {H : Heap} (hvm : u.vm.Alike U.vm) (h : kE ad A u H) : kE ad A U H := ⟨va_En.moved hvm h.1, h.2.moved hvm⟩
def ct (cs : Nat → ClassId) : List (ClassId × FieldType) := [(cs 0, .byte), (cs 1, .int), (cs 2, .long), (cs 3, .boolean), (cs 4, .object "KeyLetters$Word"), (cs 5, .object "KeyLetters$State"), (cs 6, .object "KeyLetters$Scene"), (cs 7, .array .int)]
def kN (U : State) : Prop := ∀ w ∈ nestWs, va_Nw w U
theorem nestWs_ok : ∀ w ∈ nestWs, (∃ a i b n d h, w = .fieldLinkNest a i b n d h) ∨ (∃ a i x h, w = .methodLinkNest a i x h) := by
  intro w hw
  simp only [nestWs, List.mem_cons, List.not_mem_nil, or_false] at hw
  rcases hw with rfl | rfl | rfl | rfl | rfl | rfl | rfl | rfl | rfl | rfl | rfl | rfl | rfl | rfl | rfl | rfl | rfl | rfl | rfl | rfl | rfl | rfl | rfl | rfl | rfl | rfl | rfl | rfl | rfl | rfl | rfl | rfl | rfl | rfl | rfl | rfl | rfl | rfl | rfl | rfl | rfl | rfl | rfl | rfl | rfl | rfl | rfl | rfl | rfl | rfl | rfl | rfl | rfl | rfl | rfl | rfl | rfl | rfl | rfl | rfl | rfl | rfl | rfl | rfl | rfl | rfl | rfl | rfl | rfl | rfl | rfl | rfl | rfl | rfl | rfl | rfl | rfl | rfl | rfl | rfl | rfl | rfl | rfl | rfl | rfl | rfl | rfl | rfl | rfl | rfl | rfl | rfl | rfl | rfl | rfl | rfl | rfl | rfl | rfl | rfl | rfl | rfl | rfl | rfl | rfl | rfl | rfl | rfl | rfl | rfl | rfl | rfl | rfl | rfl | rfl | rfl | rfl | rfl | rfl | rfl | rfl | rfl | rfl | rfl | rfl | rfl | rfl | rfl | rfl | rfl | rfl | rfl | rfl | rfl | rfl | rfl | rfl | rfl | rfl | rfl | rfl | rfl | rfl | rfl | rfl | rfl | rfl | rfl | rfl | rfl | rfl | rfl | rfl | rfl | rfl | rfl | rfl | rfl <;> first | exact Or.inl ⟨_, _, _, _, _, _, rfl⟩ | exact Or.inr ⟨_, _, _, _, rfl⟩
theorem kN_warm {s U : State} (hW : s.WarmedH U.vm) (h : kN s) : kN U := by
  intro w hw
  have h1 := h w hw
  rcases nestWs_ok w hw with ⟨a, i, b, n, d, q, rfl⟩ | ⟨a, i, x, q, rfl⟩
  · exact va_Nw.warmF hW h1
  · exact va_Nw.warmM hW h1
theorem kN_same {u U : State} (hv : u.vm = U.vm) (h : kN u) : kN U := by
  intro w hw
  have h1 := h w hw
  rcases nestWs_ok w hw with ⟨a, i, b, n, d, q, rfl⟩ | ⟨a, i, x, q, rfl⟩
  · exact va_Nw.same rfl hv h1
  · exact va_Nw.same rfl hv h1
def kAO (U : State) : Prop := va_AO "KeyLetters$Word" U ∧ va_AO "KeyLetters$State" U ∧ va_AO "KeyLetters$Scene" U
def cPr (dC : Nat → ClassId) (dI : Nat → Nat → Nat) (cs : Nat → ClassId) (w : va_W) : State → Prop := fun U => va_P (dC, dI) vwCl w U.heap ∧ va_K (dC, dI) vwCl (ct cs) U ∧ kN U
def cPw (dC : Nat → ClassId) (dI : Nat → Nat → Nat) (cs : Nat → ClassId) (sz : Nat) (w : va_W) : State → Prop := fun U => U.heap.size = sz ∧ va_P (dC, dI) vwCl w U.heap ∧ va_K (dC, dI) vwCl (ct cs) U ∧ va_D (fun _ => True) w ∧ kN U
def cPe (ad : Nat → Nat) (A : Nat → Prop) (P : State → Prop) : State → Prop := fun U => kE ad A U U.heap ∧ P U
def cB (dC : Nat → ClassId) (dI : Nat → Nat → Nat) (cs : Nat → ClassId) (A : Nat → Prop) (w : va_W) (t : State) : Prop := va_P (dC, dI) vwCl w t.heap ∧ va_K (dC, dI) vwCl (ct cs) t ∧ va_D A w
def cQi (dC : Nat → ClassId) (dI : Nat → Nat → Nat) (cs : Nat → ClassId) (A : Nat → Prop) (v : Int32) (w : va_W) : Array Value → State → Outcome → State → Prop := va_Qi (fun v' (_ : Unit) => v' = v) (fun _ t => cB dC dI cs A w t) A
def cQv (dC : Nat → ClassId) (dI : Nat → Nat → Nat) (cs : Nat → ClassId) (A : Nat → Prop) (w : va_W) : Array Value → State → Outcome → State → Prop := va_Qv (fun (_ : Unit) => True) (fun _ t => cB dC dI cs A w t) A
def cQn (dC : Nat → ClassId) (dI : Nat → Nat → Nat) (cs : Nat → ClassId) (A : Nat → Prop) (post : (Nat → Nat) → Prop) (w : (Nat → Nat) → va_W) : Array Value → State → Outcome → State → Prop := va_Qv post (fun ra t => cB dC dI cs A (w ra) t) A
section KC
variable {p : Program} {l : Launch} {e : Env} {R : Room} {s : State} {m : MethodId} {args : Array Value} {below : List Frame} {meth : Method} {c : Code} {H : Heap} {locs : List Loc} {cells slots : Nat} {Q : State → Prop}
variable {cc : ByteArray} {pc : Nat} {ls : Array Slot} {rest : List Value} {dC : Nat → ClassId} {dI : Nat → Nat → Nat} {cs : Nat → ClassId} {ad : Nat → Nat} {A : Nat → Prop} {H0 : Heap} {Ts : List Cond} {w ws ws' wc wz w1 : va_W}
theorem cPr_bl {a : Array Value} {U : State} {g : JFrame} {mk : MethodId} (q : cPr dC dI cs w U) : cPr dC dI cs w (U.calling g mk a) := ⟨q.1, va_K.moved (u := U) (U := U.calling g mk a) (Vm.Alike.refl U.vm) q.2.1, kN_same (u := U) (U := U.calling g mk a) rfl q.2.2⟩
theorem cPw_bl {sz : Nat} {a : Array Value} {U : State} {g : JFrame} {mk : MethodId} (q : cPw dC dI cs sz w U) : cPw dC dI cs sz w (U.calling g mk a) := ⟨q.1, q.2.1, va_K.moved (u := U) (U := U.calling g mk a) (Vm.Alike.refl U.vm) q.2.2.1, q.2.2.2.1, kN_same (u := U) (U := U.calling g mk a) rfl q.2.2.2.2⟩
theorem cPe_bl {P : State → Prop} {a : Array Value} {U : State} {g : JFrame} {mk : MethodId} (hP : P U → P (U.calling g mk a)) (q : cPe ad A P U) : cPe ad A P (U.calling g mk a) := ⟨kE.moved (u := U) (U := U.calling g mk a) (Vm.Alike.refl U.vm) q.1, hP q.2⟩
theorem vA_fst {sz : Nat} {q : Nat} (h : ws.map Prod.fst = ws'.map Prod.fst) (hq : va_A ws sz q) : va_A ws' sz q := by
  rcases hq with ⟨k, e, hk⟩ | hq
  · have h1 : (ws.map Prod.fst)[k]? = some q := by rw [List.getElem?_map, hk]; rfl
    rw [h, List.getElem?_map] at h1
    cases hq2 : ws'[k]? with
    | none => rw [hq2] at h1; cases h1
    | some q2 =>
      rw [hq2] at h1
      have h2 : q2.1 = q := Option.some.inj h1
      rw [← h2]
      exact va_A.in hq2
  · exact Or.inr hq
theorem cA_in {sz : Nat} {k : Nat} {q : Nat × va_E} (hf : ws.map Prod.fst = ws'.map Prod.fst) (h : ws[k]? = some q) : va_A ws' sz q.1 := vA_fst hf (va_A.in h)
theorem cA_free {isC : List Nat} (hC : isC.map (fun i => ws[i]?) = wc.map some) (hz : wc.map Prod.fst = wz.map Prod.fst) (hD : va_D A ws) (hS : va_S A H0 H locs) (hA : ∀ q, H0.size ≤ q → A q) : ∀ q, va_A wz H.size q → A q := fun q h => va_free (wc := wc) hD hS hA isC hC q (vA_fst hz.symm h)
theorem g_toP {w w' : va_W} (h : w = w') (hP : va_P (dC, dI) vwCl w H) : va_P (dC, dI) vwCl w' H := h ▸ hP
theorem g_toD {w w' : va_W} (h : w = w') (hD : va_D A w) : va_D A w' := h ▸ hD
theorem kt_v {x y : Value} (h : x = y) (k : W p l e R s m args below meth c H locs cells slots Q (F0 m pc ls (y :: rest))) : W p l e R s m args below meth c H locs cells slots Q (F0 m pc ls (x :: rest)) := h ▸ k
theorem g_back {D : va_G} {cl : List vw_C} {H1 : Heap} (isC isR : List Nat) (hP : va_P D cl ws H) (hD : va_D A ws) (hC : isC.map (fun i => ws[i]?) = wc.map some) (hC' : isC.map (fun i => ws'[i]?) = w1.map some) {wr : va_W} (hR : isR.map (fun i => ws[i]?) = wr.map some) (hR2 : isR.map (fun i => ws'[i]?) = wr.map some) {nw : Nat} (hnw : ws'.length = nw) (hcd : (isR.all (fun i => !isC.contains i) && (List.range nw).all (fun k => isC.contains k || isR.contains k)) = true) (hfst : ws.map Prod.fst = ws'.map Prod.fst) (hk : ∀ q : Nat, q < H.size → ¬ va_A wc H.size q → H1[q]? = H[q]?) (hP1 : va_P D cl w1 H1) : va_P D cl ws' H1 ∧ va_D A ws' := by
  rw [Bool.and_eq_true] at hcd
  have hfk : ∀ (k : Nat) (q : Nat × va_E), ws'[k]? = some q → ∃ q0 : Nat × va_E, ws[k]? = some q0 ∧ q0.1 = q.1 := by
    intro k q hq
    have h1 : (ws'.map Prod.fst)[k]? = some q.1 := by rw [List.getElem?_map, hq]; rfl
    rw [← hfst, List.getElem?_map] at h1
    cases h2 : ws[k]? with
    | none => rw [h2] at h1; cases h1
    | some q0 => rw [h2] at h1; exact ⟨q0, rfl, Option.some.inj h1⟩
  refine ⟨fun k q hq => ?_, ⟨fun i j x y hx hy e => ?_, fun k q hq => ?_⟩⟩
  · have hlt : k < nw := hnw ▸ (List.getElem?_eq_some_iff.mp hq).1
    have h1 := List.all_eq_true.mp hcd.2 k (List.mem_range.mpr hlt)
    rw [Bool.or_eq_true, List.contains_iff_mem, List.contains_iff_mem] at h1
    by_cases hkC : k ∈ isC
    · obtain ⟨i, hi⟩ := List.getElem?_of_mem hkC
      have h2 : (isC.map (fun i => ws'[i]?))[i]? = some (some q) := by rw [List.getElem?_map, hi]; simp [hq]
      rw [hC', List.getElem?_map] at h2
      cases h3 : w1[i]? with
      | none => rw [h3] at h2; cases h2
      | some q1 =>
        rw [h3] at h2
        have h4 : q1 = q := by simpa using h2
        rw [h4] at h3
        exact hP1 i q h3
    · have hkR : k ∈ isR := h1.resolve_left hkC
      obtain ⟨i, hi⟩ := List.getElem?_of_mem hkR
      have h2 : (isR.map (fun i => ws'[i]?))[i]? = some (some q) := by rw [List.getElem?_map, hi]; simp [hq]
      rw [hR2, ← hR, List.getElem?_map, hi] at h2
      have h3 : ws[k]? = some q := by simpa using h2
      have hl := (hP k q h3).lt
      refine (hP k q h3).kept (hk q.1 hl fun ha => ?_)
      rcases ha with ⟨j, e, hj⟩ | ha
      · have h5 : (isC.map (fun i => ws[i]?))[j]? = some (some (q.1, e)) := by rw [hC, List.getElem?_map, hj]; rfl
        rw [List.getElem?_map] at h5
        cases h6 : isC[j]? with
        | none => rw [h6] at h5; cases h5
        | some j2 =>
          rw [h6] at h5
          have h7 : ws[j2]? = some (q.1, e) := by simpa using h5
          have h8 := hD.1 k j2 q (q.1, e) h3 h7 rfl
          exact hkC (h8 ▸ List.mem_of_getElem? h6)
      · omega
  · obtain ⟨x0, hx0, ex⟩ := hfk i x hx
    obtain ⟨y0, hy0, ey⟩ := hfk j y hy
    exact hD.1 i j x0 y0 hx0 hy0 (by rw [ex, ey]; exact e)
  · obtain ⟨q0, h0, e0⟩ := hfk k q hq
    rw [← e0]
    exact hD.2 k q0 h0
theorem g_callw {isC isR : List Nat} {st0 : List Value} {a : Array Value} {v : Int32} (hr : va_Run p l e R s m args below meth c H locs cells slots 0 0 (F0 m pc ls st0) rest (cQi dC dI cs (va_A wz H.size) v w1 a) (va_A wz H.size)) (hP : va_P (dC, dI) vwCl ws H) (hD : va_D A ws) (hS : va_S A H0 H locs) (hA : ∀ q, H0.size ≤ q → A q)
    (hC : isC.map (fun i => ws[i]?) = wc.map some) (hC' : isC.map (fun i => ws'[i]?) = w1.map some) {wr : va_W} (hR : isR.map (fun i => ws[i]?) = wr.map some) (hR2 : isR.map (fun i => ws'[i]?) = wr.map some) (hz : wc.map Prod.fst = wz.map Prod.fst) {nw : Nat} (hnw : ws'.length = nw) (hcd : (isR.all (fun i => !isC.contains i) && (List.range nw).all (fun k => isC.contains k || isR.contains k)) = true) (hfst : ws.map Prod.fst = ws'.map Prod.fst)
    (kk : ∀ (H : Heap) (locs : List Loc), va_P (dC, dI) vwCl ws' H → va_D A ws' → va_S A H0 H locs → W p l e R s m args below meth c H locs cells slots Q (F0 m (pc + 3) ls (.int v :: rest))) : W p l e R s m args below meth c H locs cells slots Q (F0 m pc ls st0) := by
  have hF := cA_free hC hz hD hS hA
  refine va_calli hr hS (fun q _ h => hF q h) hF (fun r u t H1 locs1 ht hvm hw hB hz1 hk hS1 => ?_)
  have hw : r = v := hw
  subst hw
  have hb := g_back isC isR hP hD hC hC' hR hR2 hnw hcd hfst (fun q h1 h2 => hk q h1 (fun h3 => h2 (vA_fst hz.symm h3))) (by rw [← ht]; exact hB.1)
  exact kk H1 locs1 hb.1 hb.2 hS1
theorem g_callv {isC isR : List Nat} {st0 : List Value} {a : Array Value} (hr : va_Run p l e R s m args below meth c H locs cells slots 0 0 (F0 m pc ls st0) rest (cQv dC dI cs (va_A wz H.size) w1 a) (va_A wz H.size)) (hP : va_P (dC, dI) vwCl ws H) (hD : va_D A ws) (hS : va_S A H0 H locs) (hA : ∀ q, H0.size ≤ q → A q)
    (hC : isC.map (fun i => ws[i]?) = wc.map some) (hC' : isC.map (fun i => ws'[i]?) = w1.map some) {wr : va_W} (hR : isR.map (fun i => ws[i]?) = wr.map some) (hR2 : isR.map (fun i => ws'[i]?) = wr.map some) (hz : wc.map Prod.fst = wz.map Prod.fst) {nw : Nat} (hnw : ws'.length = nw) (hcd : (isR.all (fun i => !isC.contains i) && (List.range nw).all (fun k => isC.contains k || isR.contains k)) = true) (hfst : ws.map Prod.fst = ws'.map Prod.fst)
    (kk : ∀ (H : Heap) (locs : List Loc), va_P (dC, dI) vwCl ws' H → va_D A ws' → va_S A H0 H locs → W p l e R s m args below meth c H locs cells slots Q (F0 m (pc + 3) ls rest)) : W p l e R s m args below meth c H locs cells slots Q (F0 m pc ls st0) := by
  have hF := cA_free hC hz hD hS hA
  refine va_callv hr hS (fun q _ h => hF q h) hF (fun u t H1 locs1 ht hvm hw hB hz1 hk hS1 => ?_)
  have hb := g_back isC isR hP hD hC hC' hR hR2 hnw hcd hfst (fun q h1 h2 => hk q h1 (fun h3 => h2 (vA_fst hz.symm h3))) (by rw [← ht]; exact hB.1)
  exact kk H1 locs1 hb.1 hb.2 hS1
theorem c_iret {v : Int32} (hx : p.tables.exec = Jvm.exec) (hb : c.code = cc) (hr : meth.sig.returnType = some .int) (hlocks : meth.locks = false) (hP : va_P (dC, dI) vwCl w H) (hK : va_K (dC, dI) vwCl (ct cs) s) (hD : va_D A w) (hS : va_S A s.heap H locs) (hdg : decode cc pc = .ok (.ireturn, 1)) : W p l e R s m args below meth c H locs 0 0 (MQ below (cQi dC dI cs A v w) args s 0 0 A) (F0 m pc ls [.int v]) :=
  W.iret (v := v) hx hb hr (fun t ht hW => ⟨⟨v, (), rfl, rfl, by rw [ht]; exact hP, va_K.moved hW.alike hK, hD⟩, hS.F ht⟩) hS.2.2 hdg hlocks
theorem c_zret {v : Int32} (hx : p.tables.exec = Jvm.exec) (hb : c.code = cc) (hr : meth.sig.returnType = some .boolean) (hn : narrow .boolean (.int v) = .int v) (hlocks : meth.locks = false) (hP : va_P (dC, dI) vwCl w H) (hK : va_K (dC, dI) vwCl (ct cs) s) (hD : va_D A w) (hS : va_S A s.heap H locs) (hdg : decode cc pc = .ok (.ireturn, 1)) : W p l e R s m args below meth c H locs 0 0 (MQ below (cQi dC dI cs A v w) args s 0 0 A) (F0 m pc ls [.int v]) :=
  W.zret (v := v) (ty := .boolean) hx hb hr hn (fun t ht hW => ⟨⟨v, (), rfl, rfl, by rw [ht]; exact hP, va_K.moved hW.alike hK, hD⟩, hS.F ht⟩) hS.2.2 hdg hlocks
theorem c_vret (hx : p.tables.exec = Jvm.exec) (hb : c.code = cc) (hr : meth.sig.returnType = none) (hlocks : meth.locks = false) (hP : va_P (dC, dI) vwCl w H) (hK : va_K (dC, dI) vwCl (ct cs) s) (hD : va_D A w) (hS : va_S A s.heap H locs) (hdg : decode cc pc = .ok (.return_, 1)) : W p l e R s m args below meth c H locs 0 0 (MQ below (cQv dC dI cs A w) args s 0 0 A) (F0 m pc ls []) :=
  W.vret hx hb hr (fun t ht hW => ⟨⟨(), rfl, trivial, by rw [ht]; exact hP, va_K.moved hW.alike hK, hD⟩, hS.F ht⟩) hS.2.2 hdg hlocks
theorem cE_sub {A1 : Nat → Prop} (hE : kE ad A s s.heap) (hS : va_S A s.heap H locs) (hF : ∀ q, A1 q → A q) : ∀ U : State, U.heap = H → s.WarmedH U.vm → kE ad A1 U U.heap := fun U hU hW =>
  kE.moved hW.alike ⟨va_En.narrow (va_En.kept hE.1 (fun a h1 h2 => by rw [hU]; exact hS.2.1 a h1 h2)) hF, (hE.2.kept (fun a h1 h2 => by rw [hU]; exact hS.2.1 a h1 h2)).narrow hF⟩
theorem cE_subF (hE : kE ad A s s.heap) (hS : va_S A s.heap H locs) : ∀ U : State, U.heap = H → s.WarmedH U.vm → kE ad kF U U.heap := cE_sub hE hS (fun _ h => h.elim)
theorem kW_ad {x y : Int32} (hE : kE ad A s s.heap) (hx : ¬ (x < 0 ∨ 22 ≤ x.toNatClampNeg)) (hy : ¬ (y < 0 ∨ 22 ≤ y.toNatClampNeg)) (h : ad x.toNatClampNeg = ad y.toNatClampNeg) : x = y := by
  have h1 := hE.1.2 x.toNatClampNeg y.toNatClampNeg (Nat.not_le.mp fun q => hx (Or.inr q)) (Nat.not_le.mp fun q => hy (Or.inr q)) h
  obtain ⟨i, hi, rfl⟩ := nI_of (fun q => hx (Or.inl q))
  obtain ⟨j, hj, rfl⟩ := nI_of (fun q => hy (Or.inl q))
  rw [nI_clamp hi, nI_clamp hj] at h1
  rw [h1]
theorem ke_beg {x : Int32} (hE : kE ad A s s.heap) (hvx : ¬ (x < 0 ∨ 22 ≤ x.toNatClampNeg)) (hS : va_S A s.heap H locs) {own host : String} {index : Nat} (hown : s.vm.findClass own = some m.cls) (hlink : (Cond.fieldLinkNest own index "KeyLetters$Word" "beginsOne" "Z" host).before args s = true) (hx : p.tables.exec = Jvm.exec) (hb : c.code = cc) (hdg : decode cc pc = .ok (.getfield index, 3))
    (kk : W p l e R s m args below meth c H locs cells slots Q (F0 m (pc + 3) ls (.int (kBeg x) :: rest))) : W p l e R s m args below meth c H locs cells slots Q (F0 m pc ls (.ref (ad x.toNatClampNeg) :: rest)) := by
  obtain ⟨cf, k, fi, f, cell, h1, h2, h3, h4, h5, h6⟩ := ((hE.1.1 x.toNatClampNeg (Nat.not_le.mp fun q => hvx (Or.inr q))).2.2 _ List.mem_cons_self).kept hS.2.1
  exact va_Wgetf hx hb hown hlink h1 h2 h3 h4 (v := .int (kBeg x)) h5 rfl rfl hdg kk
theorem ke_acmp_eq {x y : Int32} (hE : kE ad A s s.heap) (hvx : ¬ (x < 0 ∨ 22 ≤ x.toNatClampNeg)) (hvy : ¬ (y < 0 ∨ 22 ≤ y.toNatClampNeg)) {off : Int} {tgt : Nat} (hx : p.tables.exec = Jvm.exec) (hb : c.code = cc) (hdg : decode cc pc = .ok (.if_acmp .eq off, 3)) (ht : (pc : Int) + off = (tgt : Int))
    (kt : x = y → W p l e R s m args below meth c H locs cells slots Q (F0 m tgt ls rest)) (kf : ¬ x = y → W p l e R s m args below meth c H locs cells slots Q (F0 m (pc + 3) ls rest)) : W p l e R s m args below meth c H locs cells slots Q (F0 m pc ls (.ref (ad y.toNatClampNeg) :: .ref (ad x.toNatClampNeg) :: rest)) :=
  lv_acmp_eq (rx := some (ad x.toNatClampNeg)) (ry := some (ad y.toNatClampNeg)) hx hb hdg ht (fun h => kt (kW_ad hE hvx hvy (Option.some.inj h))) (fun h => kf (fun q => h (by rw [q])))
theorem ke_acmp_ne {x y : Int32} (hE : kE ad A s s.heap) (hvx : ¬ (x < 0 ∨ 22 ≤ x.toNatClampNeg)) (hvy : ¬ (y < 0 ∨ 22 ≤ y.toNatClampNeg)) {off : Int} {tgt : Nat} (hx : p.tables.exec = Jvm.exec) (hb : c.code = cc) (hdg : decode cc pc = .ok (.if_acmp .ne off, 3)) (ht : (pc : Int) + off = (tgt : Int))
    (kt : ¬ x = y → W p l e R s m args below meth c H locs cells slots Q (F0 m tgt ls rest)) (kf : x = y → W p l e R s m args below meth c H locs cells slots Q (F0 m (pc + 3) ls rest)) : W p l e R s m args below meth c H locs cells slots Q (F0 m pc ls (.ref (ad y.toNatClampNeg) :: .ref (ad x.toNatClampNeg) :: rest)) :=
  lv_acmp_ne (rx := some (ad x.toNatClampNeg)) (ry := some (ad y.toNatClampNeg)) hx hb hdg ht (fun h => kt (fun q => h (by rw [q]))) (fun h => kf (kW_ad hE hvx hvy (Option.some.inj h)))
theorem kt_arrq {D : va_G} {cl : List vw_C} {cA cB : ClassId} {C : String} {tys : List (ClassId × FieldType)} {i j : Nat} (h1 : va_K D cl tys s) (hi : tys[i]? = some (cA, .object C)) (hj : tys[j]? = some (cB, .object C)) : cA = cB := by
  obtain ⟨k1, c1, -, -, -, e1⟩ := (h1.2 i _ hi).2
  obtain ⟨k2, c2, -, -, -, e2⟩ := (h1.2 j _ hj).2
  exact Option.some.inj (e1.symm.trans e2)
theorem kt_nar (v : Int32) : narrow (.object "KeyLetters$Word") (va_rf (kW ad v)) = va_rf (kW ad v) := by
  unfold kW; split <;> rfl
theorem kt_fit (v : Int32) : fits (.object "KeyLetters$Word") (va_rf (kW ad v)) = true := by
  unfold kW; split <;> rfl
section KP
variable {own ref C host : String} {T : u_T} {N ci index a : Nat} {tys : List (ClassId × FieldType)} {cl : List vw_C} {D : va_G}
theorem g_put (hexec : p.tables.exec = Jvm.exec) (hb : c.code = cc) (hts : ∀ w ∈ Ts, w.before args s = true) (hin : ∀ w ∈ u_ws C T N, w ∈ Ts) (ty0 : Nat → FieldType) (hty : ∀ k, k < N → parseFieldDescriptor (T k).2.2.1 = some (ty0 k)) (hnm : ∀ a, a < N → ∀ b, b < N → a ≠ b → (T a).2.1 ≠ (T b).2.1) (hown : s.vm.findClass own = some m.cls) (hK : va_K D cl tys s) (hP : va_P D cl ws H) (hD : va_D A ws) (hS0 : va_S A H0 H locs) (q0 : Nat) {fs : List Value} (he : ws[q0]? = some (a, .inr (ci, fs))) (hc : cl[ci]? = some (C, T, N)) (k : Nat) (hk : k < N) (hlink : (Cond.fieldLink own index ref (T k).2.1 (T k).2.2.1).before args s = true) (hsame : ∀ x, s.fieldFound? (T k).1 (T k).2.1 (T k).2.2.1 = some x → s.fieldFound? ref (T k).2.1 (T k).2.2.1 = some x) (hfin : (T k).2.2.2 = false) {ty : FieldType} {v : Value} (hd : parseFieldDescriptor (T k).2.2.1 = some ty) (hn : narrow ty v = v) (hfit : fits ty v = true) (hl : k < fs.length) (hw : ws.set q0 (a, .inr (ci, fs.set k v)) = ws') (hdg : decode cc pc = .ok (.putfield index, 3))
    (kk : ∀ (H : Heap) (locs : List Loc), va_P D cl ws' H → va_D A ws' → va_S A H0 H locs → W p l e R s m args below meth c H locs cells slots Q (F0 m (pc + 3) ls rest)) : W p l e R s m args below meth c H locs cells slots Q (F0 m pc ls (v :: .ref a :: rest)) :=
  va_put hexec hb hts hin ty0 hty hnm hown hK hP hD hS0 q0 he hc k hk hlink hsame hfin hd hn hfit hl hdg (fun H1 locs1 h1 h2 h3 => kk H1 locs1 (hw ▸ h1) (hw ▸ h2) h3)
theorem g_putN (hexec : p.tables.exec = Jvm.exec) (hb : c.code = cc) (hts : ∀ w ∈ Ts, w.before args s = true) (hin : ∀ w ∈ u_ws C T N, w ∈ Ts) (ty0 : Nat → FieldType) (hty : ∀ k, k < N → parseFieldDescriptor (T k).2.2.1 = some (ty0 k)) (hnm : ∀ a, a < N → ∀ b, b < N → a ≠ b → (T a).2.1 ≠ (T b).2.1) (hown : s.vm.findClass own = some m.cls) (hK : va_K D cl tys s) (hP : va_P D cl ws H) (hD : va_D A ws) (hS0 : va_S A H0 H locs) (q0 : Nat) {fs : List Value} (he : ws[q0]? = some (a, .inr (ci, fs))) (hc : cl[ci]? = some (C, T, N)) (k : Nat) (hk : k < N) (hlink : (Cond.fieldLinkNest own index ref (T k).2.1 (T k).2.2.1 host).before args s = true) (hsame : ∀ x, s.fieldFound? (T k).1 (T k).2.1 (T k).2.2.1 = some x → s.fieldFound? ref (T k).2.1 (T k).2.2.1 = some x) (hfin : (T k).2.2.2 = false) {ty : FieldType} {v : Value} (hd : parseFieldDescriptor (T k).2.2.1 = some ty) (hn : narrow ty v = v) (hfit : fits ty v = true) (hl : k < fs.length) (hw : ws.set q0 (a, .inr (ci, fs.set k v)) = ws') (hdg : decode cc pc = .ok (.putfield index, 3))
    (kk : ∀ (H : Heap) (locs : List Loc), va_P D cl ws' H → va_D A ws' → va_S A H0 H locs → W p l e R s m args below meth c H locs cells slots Q (F0 m (pc + 3) ls rest)) : W p l e R s m args below meth c H locs cells slots Q (F0 m pc ls (v :: .ref a :: rest)) :=
  va_putN hexec hb hts hin ty0 hty hnm hown hK hP hD hS0 q0 he hc k hk hlink hsame hfin hd hn hfit hl hdg (fun H1 locs1 h1 h2 h3 => kk H1 locs1 (hw ▸ h1) (hw ▸ h2) h3)
theorem kE_any {t : Nat} (h : va_O "KeyLetters$Word" t A s s.heap) (hS : va_S A s.heap H locs) : va_Any "KeyLetters$Word" s H t := by
  obtain ⟨cell, h1, h2, h3, h4⟩ := h
  obtain ⟨kC, hkC, -⟩ := Vm.findClass_spec h3
  refine ⟨cell, by rw [hS.2.1 t (Array.getElem?_eq_some_iff.mp h1).1 h4]; exact h1, h2, ⟨kC, hkC⟩, fun comp hc => ?_⟩
  have : comp = cell.cls := Option.some.inj (hc.symm.trans h3)
  subst this
  unfold Vm.assignable
  rw [Vm.assignableAux, beq_self_eq_true, Bool.true_or]
/-- a Word, or null, into a row of Words -/
theorem g_astw (hE : kE ad A s s.heap) (hexec : p.tables.exec = Jvm.exec) (hb : c.code = cc) (hK : va_K D cl tys s) (hP : va_P D cl ws H) (hD : va_D A ws) (hS : va_S A s.heap H locs) (q0 t0 : Nat) {cA : ClassId} {n : Nat} {f : Nat → Option Nat} (ha : ws[q0]? = some (a, .inl (cA, n, .inr (.inr (.inr (.inr f)))))) (ht : tys[t0]? = some (cA, .object "KeyLetters$Word")) {i v : Int32} (hin : vp_in i n) (hdg : decode cc pc = .ok (.aastore, 1)) (hw : ws.set q0 (a, .inl (cA, n, .inr (.inr (.inr (.inr (va_up f i.toNatClampNeg (kW ad v))))))) = ws')
    (kk : ∀ (H : Heap) (locs : List Loc), va_P D cl ws' H → va_D A ws' → va_S A s.heap H locs → W p l e R s m args below meth c H locs cells slots Q (F0 m (pc + 1) ls rest)) : W p l e R s m args below meth c H locs cells slots Q (F0 m pc ls (va_rf (kW ad v) :: .int i :: .ref a :: rest)) := by
  by_cases hv : v < 0 ∨ 22 ≤ v.toNatClampNeg
  · have e : kW ad v = none := if_pos hv
    rw [e] at hw ⊢
    exact va_astqN hexec hb hK hP hD hS q0 t0 ha ht hin hdg (fun H1 locs1 h1 h2 h3 => kk H1 locs1 (hw ▸ h1) (hw ▸ h2) h3)
  · have e : kW ad v = some (ad v.toNatClampNeg) := if_neg hv
    rw [e] at hw ⊢
    exact va_astqM hexec hb hK hP hD hS q0 t0 ha ht (kE_any ((hE.1.1 v.toNatClampNeg (Nat.not_le.mp fun q => hv (Or.inr q))).2.1) hS) hin hdg (fun H1 locs1 h1 h2 h3 => kk H1 locs1 (hw ▸ h1) (hw ▸ h2) h3)
theorem g_wst (g : Nat → Int32) (i : Nat) (v : Int32) : va_up (fun j => kW ad (g j)) i (kW ad v) = fun j => kW ad (upd g i v j) := by
  funext j
  unfold va_up upd
  split <;> rfl
end KP
end KC

