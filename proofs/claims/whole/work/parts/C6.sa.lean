/-! what the Statement gives of the start, each word by its place -/
def wTx : List Nat := [98, 104, 107, 110, 113, 116, 119, 122, 125, 128, 131, 134, 137, 140, 143, 146, 149, 152, 155, 158, 161, 164]
abbrev stG : Jvm.Cond := Jvm.Cond.and given_1 narrow_1
abbrev stT (i : Nat) : Term := .static "KeyLetters$Word" (wNm.getD i "") "LKeyLetters$Word;"
abbrev stS (i : Nat) : Term := .string "KeyLetters$Word" (wTx.getD i 0)
abbrev stV (t : Term) : Term := .field t "java/lang/String" "value" "[B"
abbrev stW : Term := .static "KeyLetters$Reader" "WORDS" "[LKeyLetters$Word;"
abbrev stOn : Term := .static "java/lang/Integer" "DigitOnes" "[B"
abbrev stDt : Term := .static "java/lang/Integer" "DigitTens" "[B"
theorem st_rg {P : Cond → Prop} {f : Nat → Cond} {a n : Nat} (h : ∀ w ∈ (List.range' a n).map f, P w) : ∀ i, a ≤ i → i < a + n → P (f i) := fun i h1 h2 => h _ (List.mem_map_of_mem (List.mem_range'_1.mpr ⟨h1, h2⟩))
theorem st_rs {P : Nat → Prop} {n : Nat} (m : Nat) (h1 : ∀ i, 0 ≤ i → i < 0 + m → P i) (h2 : ∀ i, m ≤ i → i < n → P i) : ∀ i, i < n → P i := fun i h => by
  by_cases hm : i < m
  · exact h1 i (by omega) (by omega)
  · exact h2 i (by omega) h
set_option maxRecDepth 100000 in
theorem st_f1_0 : ∀ w ∈ (List.range' 0 22).map (fun i => Cond.exactly (stT i) "KeyLetters$Word"), w ∈ flatC stG := lw_at_in [4, 40, 44, 48, 52, 270, 274, 278, 282, 262, 266, 314, 310, 286, 318, 322, 326, 290, 294, 298, 302, 306] (by decide +kernel)
theorem st_f1 : ∀ i, i < 22 → Cond.exactly (stT i) "KeyLetters$Word" ∈ flatC stG := by
  intro i hi
  exact st_rg (P := fun w => w ∈ flatC stG) (f := fun i => Cond.exactly (stT i) "KeyLetters$Word") st_f1_0 i (by omega) (by omega)
set_option maxRecDepth 100000 in
theorem st_f2_0 : ∀ w ∈ (List.range' 0 22).map (fun i => Cond.eq (.field (stT i) "java/lang/Enum" "ordinal" "I") (.int (Int32.ofNat i))), w ∈ flatC stG := lw_at_in [5, 41, 45, 49, 53, 271, 275, 279, 283, 263, 267, 315, 311, 287, 319, 323, 327, 291, 295, 299, 303, 307] (by decide +kernel)
theorem st_f2 : ∀ i, i < 22 → Cond.eq (.field (stT i) "java/lang/Enum" "ordinal" "I") (.int (Int32.ofNat i)) ∈ flatC stG := by
  intro i hi
  exact st_rg (P := fun w => w ∈ flatC stG) (f := fun i => Cond.eq (.field (stT i) "java/lang/Enum" "ordinal" "I") (.int (Int32.ofNat i))) st_f2_0 i (by omega) (by omega)
set_option maxRecDepth 100000 in
theorem st_f3_0 : ∀ w ∈ (List.range' 0 22).map (fun i => Cond.eq (.field (stT i) "KeyLetters$Word" "beginsOne" "Z") (.int (wBeg.getD i 0))), w ∈ flatC stG := lw_at_in [7, 43, 47, 51, 55, 273, 277, 281, 285, 265, 269, 317, 313, 289, 321, 325, 329, 293, 297, 301, 305, 309] (by decide +kernel)
theorem st_f3 : ∀ i, i < 22 → Cond.eq (.field (stT i) "KeyLetters$Word" "beginsOne" "Z") (.int (wBeg.getD i 0)) ∈ flatC stG := by
  intro i hi
  exact st_rg (P := fun w => w ∈ flatC stG) (f := fun i => Cond.eq (.field (stT i) "KeyLetters$Word" "beginsOne" "Z") (.int (wBeg.getD i 0))) st_f3_0 i (by omega) (by omega)
set_option maxRecDepth 100000 in
theorem st_f4_0 : ∀ w ∈ (List.range' 0 22).map (fun i => Cond.eq (.field (stT i) "KeyLetters$Word" "text" "Ljava/lang/String;") (stS i)), w ∈ flatC stG := lw_at_in [6, 42, 46, 50, 54, 272, 276, 280, 284, 264, 268, 316, 312, 288, 320, 324, 328, 292, 296, 300, 304, 308] (by decide +kernel)
theorem st_f4 : ∀ i, i < 22 → Cond.eq (.field (stT i) "KeyLetters$Word" "text" "Ljava/lang/String;") (stS i) ∈ flatC stG := by
  intro i hi
  exact st_rg (P := fun w => w ∈ flatC stG) (f := fun i => Cond.eq (.field (stT i) "KeyLetters$Word" "text" "Ljava/lang/String;") (stS i)) st_f4_0 i (by omega) (by omega)
set_option maxRecDepth 100000 in
theorem st_f5a_0 : ∀ w ∈ (List.range' 0 22).map (fun i => Cond.exactly (stS i) "java/lang/String"), w ∈ flatC stG := lw_at_in [423, 427, 438, 448, 457, 484, 494, 502, 512, 468, 477, 578, 571, 522, 584, 592, 602, 529, 537, 545, 552, 561] (by decide +kernel)
theorem st_f5a : ∀ i, i < 22 → Cond.exactly (stS i) "java/lang/String" ∈ flatC stG := by
  intro i hi
  exact st_rg (P := fun w => w ∈ flatC stG) (f := fun i => Cond.exactly (stS i) "java/lang/String") st_f5a_0 i (by omega) (by omega)
set_option maxRecDepth 100000 in
theorem st_f5b_0 : ∀ w ∈ (List.range' 0 22).map (fun i => Cond.eq (.field (stS i) "java/lang/String" "coder" "B") (.int 0)), w ∈ flatC stG := lw_at_in [424, 428, 439, 449, 458, 485, 495, 503, 513, 469, 478, 579, 572, 523, 585, 593, 603, 530, 538, 546, 553, 562] (by decide +kernel)
theorem st_f5b : ∀ i, i < 22 → Cond.eq (.field (stS i) "java/lang/String" "coder" "B") (.int 0) ∈ flatC stG := by
  intro i hi
  exact st_rg (P := fun w => w ∈ flatC stG) (f := fun i => Cond.eq (.field (stS i) "java/lang/String" "coder" "B") (.int 0)) st_f5b_0 i (by omega) (by omega)
set_option maxRecDepth 100000 in
theorem st_f5c_0 : ∀ w ∈ (List.range' 0 22).map (fun i => Cond.arrayOf (stV (stS i)) .byte), w ∈ flatC stG := lw_at_in [425, 429, 440, 450, 459, 486, 496, 504, 514, 470, 479, 580, 573, 524, 586, 594, 604, 531, 539, 547, 554, 563] (by decide +kernel)
theorem st_f5c : ∀ i, i < 22 → Cond.arrayOf (stV (stS i)) .byte ∈ flatC stG := by
  intro i hi
  exact st_rg (P := fun w => w ∈ flatC stG) (f := fun i => Cond.arrayOf (stV (stS i)) .byte) st_f5c_0 i (by omega) (by omega)
set_option maxRecDepth 100000 in
theorem st_f5d_0 : ∀ w ∈ (List.range' 0 22).map (fun i => Cond.eq (.length (stV (stS i))) (.int (Int32.ofNat (wLn i)))), w ∈ flatC stG := lw_at_in [426, 430, 441, 451, 460, 487, 497, 505, 515, 471, 480, 581, 574, 525, 587, 595, 605, 532, 540, 548, 555, 564] (by decide +kernel)
theorem st_f5d : ∀ i, i < 22 → Cond.eq (.length (stV (stS i))) (.int (Int32.ofNat (wLn i))) ∈ flatC stG := by
  intro i hi
  exact st_rg (P := fun w => w ∈ flatC stG) (f := fun i => Cond.eq (.length (stV (stS i))) (.int (Int32.ofNat (wLn i)))) st_f5d_0 i (by omega) (by omega)
theorem st_f5 : ∀ i, i < 22 → Cond.exactly (stS i) "java/lang/String" ∈ flatC stG ∧ Cond.eq (.field (stS i) "java/lang/String" "coder" "B") (.int 0) ∈ flatC stG ∧ Cond.arrayOf (stV (stS i)) .byte ∈ flatC stG ∧ Cond.eq (.length (stV (stS i))) (.int (Int32.ofNat (wLn i))) ∈ flatC stG := fun i h => ⟨st_f5a i h, st_f5b i h, st_f5c i h, st_f5d i h⟩
set_option maxRecDepth 100000 in
theorem st_f9_1 : ∀ w ∈ (List.range' 0 7).map (fun j => Cond.eq (.elem (stV (stS 1)) (.int (Int32.ofNat j))) (.int (wCh 1 j))), w ∈ flatC stG := lw_at_in [431, 432, 433, 434, 435, 436, 437] (by decide +kernel)
set_option maxRecDepth 100000 in
theorem st_f9_2 : ∀ w ∈ (List.range' 0 6).map (fun j => Cond.eq (.elem (stV (stS 2)) (.int (Int32.ofNat j))) (.int (wCh 2 j))), w ∈ flatC stG := lw_at_in [442, 443, 444, 445, 446, 447] (by decide +kernel)
set_option maxRecDepth 100000 in
theorem st_f9_3 : ∀ w ∈ (List.range' 0 5).map (fun j => Cond.eq (.elem (stV (stS 3)) (.int (Int32.ofNat j))) (.int (wCh 3 j))), w ∈ flatC stG := lw_at_in [452, 453, 454, 455, 456] (by decide +kernel)
set_option maxRecDepth 100000 in
theorem st_f9_4 : ∀ w ∈ (List.range' 0 7).map (fun j => Cond.eq (.elem (stV (stS 4)) (.int (Int32.ofNat j))) (.int (wCh 4 j))), w ∈ flatC stG := lw_at_in [461, 462, 463, 464, 465, 466, 467] (by decide +kernel)
set_option maxRecDepth 100000 in
theorem st_f9_5 : ∀ w ∈ (List.range' 0 6).map (fun j => Cond.eq (.elem (stV (stS 5)) (.int (Int32.ofNat j))) (.int (wCh 5 j))), w ∈ flatC stG := lw_at_in [488, 489, 490, 491, 492, 493] (by decide +kernel)
set_option maxRecDepth 100000 in
theorem st_f9_6 : ∀ w ∈ (List.range' 0 4).map (fun j => Cond.eq (.elem (stV (stS 6)) (.int (Int32.ofNat j))) (.int (wCh 6 j))), w ∈ flatC stG := lw_at_in [498, 499, 500, 501] (by decide +kernel)
set_option maxRecDepth 100000 in
theorem st_f9_7 : ∀ w ∈ (List.range' 0 6).map (fun j => Cond.eq (.elem (stV (stS 7)) (.int (Int32.ofNat j))) (.int (wCh 7 j))), w ∈ flatC stG := lw_at_in [506, 507, 508, 509, 510, 511] (by decide +kernel)
set_option maxRecDepth 100000 in
theorem st_f9_8 : ∀ w ∈ (List.range' 0 6).map (fun j => Cond.eq (.elem (stV (stS 8)) (.int (Int32.ofNat j))) (.int (wCh 8 j))), w ∈ flatC stG := lw_at_in [516, 517, 518, 519, 520, 521] (by decide +kernel)
set_option maxRecDepth 100000 in
theorem st_f9_9 : ∀ w ∈ (List.range' 0 5).map (fun j => Cond.eq (.elem (stV (stS 9)) (.int (Int32.ofNat j))) (.int (wCh 9 j))), w ∈ flatC stG := lw_at_in [472, 473, 474, 475, 476] (by decide +kernel)
set_option maxRecDepth 100000 in
theorem st_f9_10 : ∀ w ∈ (List.range' 0 3).map (fun j => Cond.eq (.elem (stV (stS 10)) (.int (Int32.ofNat j))) (.int (wCh 10 j))), w ∈ flatC stG := lw_at_in [481, 482, 483] (by decide +kernel)
set_option maxRecDepth 100000 in
theorem st_f9_11 : ∀ w ∈ (List.range' 0 2).map (fun j => Cond.eq (.elem (stV (stS 11)) (.int (Int32.ofNat j))) (.int (wCh 11 j))), w ∈ flatC stG := lw_at_in [582, 583] (by decide +kernel)
set_option maxRecDepth 100000 in
theorem st_f9_12 : ∀ w ∈ (List.range' 0 3).map (fun j => Cond.eq (.elem (stV (stS 12)) (.int (Int32.ofNat j))) (.int (wCh 12 j))), w ∈ flatC stG := lw_at_in [575, 576, 577] (by decide +kernel)
set_option maxRecDepth 100000 in
theorem st_f9_13 : ∀ w ∈ (List.range' 0 3).map (fun j => Cond.eq (.elem (stV (stS 13)) (.int (Int32.ofNat j))) (.int (wCh 13 j))), w ∈ flatC stG := lw_at_in [526, 527, 528] (by decide +kernel)
set_option maxRecDepth 100000 in
theorem st_f9_14 : ∀ w ∈ (List.range' 0 4).map (fun j => Cond.eq (.elem (stV (stS 14)) (.int (Int32.ofNat j))) (.int (wCh 14 j))), w ∈ flatC stG := lw_at_in [588, 589, 590, 591] (by decide +kernel)
set_option maxRecDepth 100000 in
theorem st_f9_15 : ∀ w ∈ (List.range' 0 6).map (fun j => Cond.eq (.elem (stV (stS 15)) (.int (Int32.ofNat j))) (.int (wCh 15 j))), w ∈ flatC stG := lw_at_in [596, 597, 598, 599, 600, 601] (by decide +kernel)
set_option maxRecDepth 100000 in
theorem st_f9_16 : ∀ w ∈ (List.range' 0 4).map (fun j => Cond.eq (.elem (stV (stS 16)) (.int (Int32.ofNat j))) (.int (wCh 16 j))), w ∈ flatC stG := lw_at_in [606, 607, 608, 609] (by decide +kernel)
set_option maxRecDepth 100000 in
theorem st_f9_17 : ∀ w ∈ (List.range' 0 4).map (fun j => Cond.eq (.elem (stV (stS 17)) (.int (Int32.ofNat j))) (.int (wCh 17 j))), w ∈ flatC stG := lw_at_in [533, 534, 535, 536] (by decide +kernel)
set_option maxRecDepth 100000 in
theorem st_f9_18 : ∀ w ∈ (List.range' 0 4).map (fun j => Cond.eq (.elem (stV (stS 18)) (.int (Int32.ofNat j))) (.int (wCh 18 j))), w ∈ flatC stG := lw_at_in [541, 542, 543, 544] (by decide +kernel)
set_option maxRecDepth 100000 in
theorem st_f9_19 : ∀ w ∈ (List.range' 0 3).map (fun j => Cond.eq (.elem (stV (stS 19)) (.int (Int32.ofNat j))) (.int (wCh 19 j))), w ∈ flatC stG := lw_at_in [549, 550, 551] (by decide +kernel)
set_option maxRecDepth 100000 in
theorem st_f9_20 : ∀ w ∈ (List.range' 0 5).map (fun j => Cond.eq (.elem (stV (stS 20)) (.int (Int32.ofNat j))) (.int (wCh 20 j))), w ∈ flatC stG := lw_at_in [556, 557, 558, 559, 560] (by decide +kernel)
set_option maxRecDepth 100000 in
theorem st_f9_21 : ∀ w ∈ (List.range' 0 6).map (fun j => Cond.eq (.elem (stV (stS 21)) (.int (Int32.ofNat j))) (.int (wCh 21 j))), w ∈ flatC stG := lw_at_in [565, 566, 567, 568, 569, 570] (by decide +kernel)
theorem st_f9 : ∀ i, i < 22 → ∀ j, j < wLn i → Cond.eq (.elem (stV (stS i)) (.int (Int32.ofNat j))) (.int (wCh i j)) ∈ flatC stG := by
  intro i hi j hj
  match i, hi, hj with
  | 0, _, hj => exact absurd hj (Nat.not_lt_zero j)
  | 1, _, hj => exact st_rg (P := fun w => w ∈ flatC stG) (f := fun j => Cond.eq (.elem (stV (stS 1)) (.int (Int32.ofNat j))) (.int (wCh 1 j))) st_f9_1 j (Nat.zero_le j) (Nat.lt_of_lt_of_le hj (Nat.le_of_ble_eq_true rfl))
  | 2, _, hj => exact st_rg (P := fun w => w ∈ flatC stG) (f := fun j => Cond.eq (.elem (stV (stS 2)) (.int (Int32.ofNat j))) (.int (wCh 2 j))) st_f9_2 j (Nat.zero_le j) (Nat.lt_of_lt_of_le hj (Nat.le_of_ble_eq_true rfl))
  | 3, _, hj => exact st_rg (P := fun w => w ∈ flatC stG) (f := fun j => Cond.eq (.elem (stV (stS 3)) (.int (Int32.ofNat j))) (.int (wCh 3 j))) st_f9_3 j (Nat.zero_le j) (Nat.lt_of_lt_of_le hj (Nat.le_of_ble_eq_true rfl))
  | 4, _, hj => exact st_rg (P := fun w => w ∈ flatC stG) (f := fun j => Cond.eq (.elem (stV (stS 4)) (.int (Int32.ofNat j))) (.int (wCh 4 j))) st_f9_4 j (Nat.zero_le j) (Nat.lt_of_lt_of_le hj (Nat.le_of_ble_eq_true rfl))
  | 5, _, hj => exact st_rg (P := fun w => w ∈ flatC stG) (f := fun j => Cond.eq (.elem (stV (stS 5)) (.int (Int32.ofNat j))) (.int (wCh 5 j))) st_f9_5 j (Nat.zero_le j) (Nat.lt_of_lt_of_le hj (Nat.le_of_ble_eq_true rfl))
  | 6, _, hj => exact st_rg (P := fun w => w ∈ flatC stG) (f := fun j => Cond.eq (.elem (stV (stS 6)) (.int (Int32.ofNat j))) (.int (wCh 6 j))) st_f9_6 j (Nat.zero_le j) (Nat.lt_of_lt_of_le hj (Nat.le_of_ble_eq_true rfl))
  | 7, _, hj => exact st_rg (P := fun w => w ∈ flatC stG) (f := fun j => Cond.eq (.elem (stV (stS 7)) (.int (Int32.ofNat j))) (.int (wCh 7 j))) st_f9_7 j (Nat.zero_le j) (Nat.lt_of_lt_of_le hj (Nat.le_of_ble_eq_true rfl))
  | 8, _, hj => exact st_rg (P := fun w => w ∈ flatC stG) (f := fun j => Cond.eq (.elem (stV (stS 8)) (.int (Int32.ofNat j))) (.int (wCh 8 j))) st_f9_8 j (Nat.zero_le j) (Nat.lt_of_lt_of_le hj (Nat.le_of_ble_eq_true rfl))
  | 9, _, hj => exact st_rg (P := fun w => w ∈ flatC stG) (f := fun j => Cond.eq (.elem (stV (stS 9)) (.int (Int32.ofNat j))) (.int (wCh 9 j))) st_f9_9 j (Nat.zero_le j) (Nat.lt_of_lt_of_le hj (Nat.le_of_ble_eq_true rfl))
  | 10, _, hj => exact st_rg (P := fun w => w ∈ flatC stG) (f := fun j => Cond.eq (.elem (stV (stS 10)) (.int (Int32.ofNat j))) (.int (wCh 10 j))) st_f9_10 j (Nat.zero_le j) (Nat.lt_of_lt_of_le hj (Nat.le_of_ble_eq_true rfl))
  | 11, _, hj => exact st_rg (P := fun w => w ∈ flatC stG) (f := fun j => Cond.eq (.elem (stV (stS 11)) (.int (Int32.ofNat j))) (.int (wCh 11 j))) st_f9_11 j (Nat.zero_le j) (Nat.lt_of_lt_of_le hj (Nat.le_of_ble_eq_true rfl))
  | 12, _, hj => exact st_rg (P := fun w => w ∈ flatC stG) (f := fun j => Cond.eq (.elem (stV (stS 12)) (.int (Int32.ofNat j))) (.int (wCh 12 j))) st_f9_12 j (Nat.zero_le j) (Nat.lt_of_lt_of_le hj (Nat.le_of_ble_eq_true rfl))
  | 13, _, hj => exact st_rg (P := fun w => w ∈ flatC stG) (f := fun j => Cond.eq (.elem (stV (stS 13)) (.int (Int32.ofNat j))) (.int (wCh 13 j))) st_f9_13 j (Nat.zero_le j) (Nat.lt_of_lt_of_le hj (Nat.le_of_ble_eq_true rfl))
  | 14, _, hj => exact st_rg (P := fun w => w ∈ flatC stG) (f := fun j => Cond.eq (.elem (stV (stS 14)) (.int (Int32.ofNat j))) (.int (wCh 14 j))) st_f9_14 j (Nat.zero_le j) (Nat.lt_of_lt_of_le hj (Nat.le_of_ble_eq_true rfl))
  | 15, _, hj => exact st_rg (P := fun w => w ∈ flatC stG) (f := fun j => Cond.eq (.elem (stV (stS 15)) (.int (Int32.ofNat j))) (.int (wCh 15 j))) st_f9_15 j (Nat.zero_le j) (Nat.lt_of_lt_of_le hj (Nat.le_of_ble_eq_true rfl))
  | 16, _, hj => exact st_rg (P := fun w => w ∈ flatC stG) (f := fun j => Cond.eq (.elem (stV (stS 16)) (.int (Int32.ofNat j))) (.int (wCh 16 j))) st_f9_16 j (Nat.zero_le j) (Nat.lt_of_lt_of_le hj (Nat.le_of_ble_eq_true rfl))
  | 17, _, hj => exact st_rg (P := fun w => w ∈ flatC stG) (f := fun j => Cond.eq (.elem (stV (stS 17)) (.int (Int32.ofNat j))) (.int (wCh 17 j))) st_f9_17 j (Nat.zero_le j) (Nat.lt_of_lt_of_le hj (Nat.le_of_ble_eq_true rfl))
  | 18, _, hj => exact st_rg (P := fun w => w ∈ flatC stG) (f := fun j => Cond.eq (.elem (stV (stS 18)) (.int (Int32.ofNat j))) (.int (wCh 18 j))) st_f9_18 j (Nat.zero_le j) (Nat.lt_of_lt_of_le hj (Nat.le_of_ble_eq_true rfl))
  | 19, _, hj => exact st_rg (P := fun w => w ∈ flatC stG) (f := fun j => Cond.eq (.elem (stV (stS 19)) (.int (Int32.ofNat j))) (.int (wCh 19 j))) st_f9_19 j (Nat.zero_le j) (Nat.lt_of_lt_of_le hj (Nat.le_of_ble_eq_true rfl))
  | 20, _, hj => exact st_rg (P := fun w => w ∈ flatC stG) (f := fun j => Cond.eq (.elem (stV (stS 20)) (.int (Int32.ofNat j))) (.int (wCh 20 j))) st_f9_20 j (Nat.zero_le j) (Nat.lt_of_lt_of_le hj (Nat.le_of_ble_eq_true rfl))
  | 21, _, hj => exact st_rg (P := fun w => w ∈ flatC stG) (f := fun j => Cond.eq (.elem (stV (stS 21)) (.int (Int32.ofNat j))) (.int (wCh 21 j))) st_f9_21 j (Nat.zero_le j) (Nat.lt_of_lt_of_le hj (Nat.le_of_ble_eq_true rfl))
  | i + 22, hi, _ => omega
set_option maxRecDepth 100000 in
theorem st_g3_0 : ∀ w ∈ (List.range' 0 22).map (fun i => Cond.eq (.elem stW (.int (Int32.ofNat i))) (stT i)), w ∈ flatC stG := lw_at_in [14, 15, 16, 17, 18, 19, 20, 21, 22, 23, 24, 25, 26, 27, 28, 29, 30, 31, 32, 33, 34, 35] (by decide +kernel)
theorem st_g3 : ∀ i, i < 22 → Cond.eq (.elem stW (.int (Int32.ofNat i))) (stT i) ∈ flatC stG := by
  intro i hi
  exact st_rg (P := fun w => w ∈ flatC stG) (f := fun i => Cond.eq (.elem stW (.int (Int32.ofNat i))) (stT i)) st_g3_0 i (by omega) (by omega)
set_option maxRecDepth 100000 in
theorem st_jo_0 : ∀ w ∈ (List.range' 0 25).map (fun i => Cond.eq (.elem stOn (.int (Int32.ofNat i))) (.int (Int32.ofNat (48 + i % 10)))), w ∈ flatC stG := lw_at_in [59, 60, 61, 62, 63, 64, 65, 66, 67, 68, 69, 70, 71, 72, 73, 74, 75, 76, 77, 78, 79, 80, 81, 82, 83] (by decide +kernel)
set_option maxRecDepth 100000 in
theorem st_jo_25 : ∀ w ∈ (List.range' 25 25).map (fun i => Cond.eq (.elem stOn (.int (Int32.ofNat i))) (.int (Int32.ofNat (48 + i % 10)))), w ∈ flatC stG := lw_at_in [84, 85, 86, 87, 88, 89, 90, 91, 92, 93, 94, 95, 96, 97, 98, 99, 100, 101, 102, 103, 104, 105, 106, 107, 108] (by decide +kernel)
set_option maxRecDepth 100000 in
theorem st_jo_50 : ∀ w ∈ (List.range' 50 25).map (fun i => Cond.eq (.elem stOn (.int (Int32.ofNat i))) (.int (Int32.ofNat (48 + i % 10)))), w ∈ flatC stG := lw_at_in [109, 110, 111, 112, 113, 114, 115, 116, 117, 118, 119, 120, 121, 122, 123, 124, 125, 126, 127, 128, 129, 130, 131, 132, 133] (by decide +kernel)
set_option maxRecDepth 100000 in
theorem st_jo_75 : ∀ w ∈ (List.range' 75 25).map (fun i => Cond.eq (.elem stOn (.int (Int32.ofNat i))) (.int (Int32.ofNat (48 + i % 10)))), w ∈ flatC stG := lw_at_in [134, 135, 136, 137, 138, 139, 140, 141, 142, 143, 144, 145, 146, 147, 148, 149, 150, 151, 152, 153, 154, 155, 156, 157, 158] (by decide +kernel)
theorem st_jo : ∀ i, i < 100 → Cond.eq (.elem stOn (.int (Int32.ofNat i))) (.int (Int32.ofNat (48 + i % 10))) ∈ flatC stG := by
  intro i hi
  by_cases h0 : i < 25
  · exact st_rg (P := fun w => w ∈ flatC stG) (f := fun i => Cond.eq (.elem stOn (.int (Int32.ofNat i))) (.int (Int32.ofNat (48 + i % 10)))) st_jo_0 i (by omega) (by omega)
  by_cases h1 : i < 50
  · exact st_rg (P := fun w => w ∈ flatC stG) (f := fun i => Cond.eq (.elem stOn (.int (Int32.ofNat i))) (.int (Int32.ofNat (48 + i % 10)))) st_jo_25 i (by omega) (by omega)
  by_cases h2 : i < 75
  · exact st_rg (P := fun w => w ∈ flatC stG) (f := fun i => Cond.eq (.elem stOn (.int (Int32.ofNat i))) (.int (Int32.ofNat (48 + i % 10)))) st_jo_50 i (by omega) (by omega)
  exact st_rg (P := fun w => w ∈ flatC stG) (f := fun i => Cond.eq (.elem stOn (.int (Int32.ofNat i))) (.int (Int32.ofNat (48 + i % 10)))) st_jo_75 i (by omega) (by omega)
set_option maxRecDepth 100000 in
theorem st_jd_0 : ∀ w ∈ (List.range' 0 25).map (fun i => Cond.eq (.elem stDt (.int (Int32.ofNat i))) (.int (Int32.ofNat (48 + i / 10)))), w ∈ flatC stG := lw_at_in [162, 163, 164, 165, 166, 167, 168, 169, 170, 171, 172, 173, 174, 175, 176, 177, 178, 179, 180, 181, 182, 183, 184, 185, 186] (by decide +kernel)
set_option maxRecDepth 100000 in
theorem st_jd_25 : ∀ w ∈ (List.range' 25 25).map (fun i => Cond.eq (.elem stDt (.int (Int32.ofNat i))) (.int (Int32.ofNat (48 + i / 10)))), w ∈ flatC stG := lw_at_in [187, 188, 189, 190, 191, 192, 193, 194, 195, 196, 197, 198, 199, 200, 201, 202, 203, 204, 205, 206, 207, 208, 209, 210, 211] (by decide +kernel)
set_option maxRecDepth 100000 in
theorem st_jd_50 : ∀ w ∈ (List.range' 50 25).map (fun i => Cond.eq (.elem stDt (.int (Int32.ofNat i))) (.int (Int32.ofNat (48 + i / 10)))), w ∈ flatC stG := lw_at_in [212, 213, 214, 215, 216, 217, 218, 219, 220, 221, 222, 223, 224, 225, 226, 227, 228, 229, 230, 231, 232, 233, 234, 235, 236] (by decide +kernel)
set_option maxRecDepth 100000 in
theorem st_jd_75 : ∀ w ∈ (List.range' 75 25).map (fun i => Cond.eq (.elem stDt (.int (Int32.ofNat i))) (.int (Int32.ofNat (48 + i / 10)))), w ∈ flatC stG := lw_at_in [237, 238, 239, 240, 241, 242, 243, 244, 245, 246, 247, 248, 249, 250, 251, 252, 253, 254, 255, 256, 257, 258, 259, 260, 261] (by decide +kernel)
theorem st_jd : ∀ i, i < 100 → Cond.eq (.elem stDt (.int (Int32.ofNat i))) (.int (Int32.ofNat (48 + i / 10))) ∈ flatC stG := by
  intro i hi
  by_cases h0 : i < 25
  · exact st_rg (P := fun w => w ∈ flatC stG) (f := fun i => Cond.eq (.elem stDt (.int (Int32.ofNat i))) (.int (Int32.ofNat (48 + i / 10)))) st_jd_0 i (by omega) (by omega)
  by_cases h1 : i < 50
  · exact st_rg (P := fun w => w ∈ flatC stG) (f := fun i => Cond.eq (.elem stDt (.int (Int32.ofNat i))) (.int (Int32.ofNat (48 + i / 10)))) st_jd_25 i (by omega) (by omega)
  by_cases h2 : i < 75
  · exact st_rg (P := fun w => w ∈ flatC stG) (f := fun i => Cond.eq (.elem stDt (.int (Int32.ofNat i))) (.int (Int32.ofNat (48 + i / 10)))) st_jd_50 i (by omega) (by omega)
  exact st_rg (P := fun w => w ∈ flatC stG) (f := fun i => Cond.eq (.elem stDt (.int (Int32.ofNat i))) (.int (Int32.ofNat (48 + i / 10)))) st_jd_75 i (by omega) (by omega)
set_option maxRecDepth 100000 in
theorem st_g1_l : ∀ w ∈ [Cond.arrayOf stW (.object "KeyLetters$Word"), Cond.eq (.length stW) (.int (Int32.ofNat 22))], w ∈ flatC stG := lw_at_in [11, 12] (by decide +kernel)
theorem st_g1 : Cond.arrayOf stW (.object "KeyLetters$Word") ∈ flatC stG ∧ Cond.eq (.length stW) (.int (Int32.ofNat 22)) ∈ flatC stG := ⟨st_g1_l _ (List.mem_cons_self), st_g1_l _ (List.mem_cons_of_mem _ List.mem_cons_self)⟩
set_option maxRecDepth 100000 in
theorem st_h_l : ∀ w ∈ [Cond.eq (.static "java/lang/String" "COMPACT_STRINGS" "Z") (.int 1), Cond.isRef (.static "jdk/internal/util/Preconditions" "SIOOBE_FORMATTER" "Ljava/util/function/BiFunction;"), Cond.isRef (.static "java/lang/Throwable" "UNASSIGNED_STACK" "[Ljava/lang/StackTraceElement;"), Cond.isRef (.static "java/lang/Throwable" "SUPPRESSED_SENTINEL" "Ljava/util/List;")], w ∈ flatC stG := lw_at_in [8, 36, 330, 331] (by decide +kernel)
theorem st_h : Cond.eq (.static "java/lang/String" "COMPACT_STRINGS" "Z") (.int 1) ∈ flatC stG ∧ Cond.isRef (.static "jdk/internal/util/Preconditions" "SIOOBE_FORMATTER" "Ljava/util/function/BiFunction;") ∈ flatC stG ∧ Cond.isRef (.static "java/lang/Throwable" "UNASSIGNED_STACK" "[Ljava/lang/StackTraceElement;") ∈ flatC stG ∧ Cond.isRef (.static "java/lang/Throwable" "SUPPRESSED_SENTINEL" "Ljava/util/List;") ∈ flatC stG := ⟨st_h_l _ (List.mem_cons_self), st_h_l _ (List.mem_cons_of_mem _ List.mem_cons_self), st_h_l _ (List.mem_cons_of_mem _ (List.mem_cons_of_mem _ List.mem_cons_self)), st_h_l _ (List.mem_cons_of_mem _ (List.mem_cons_of_mem _ (List.mem_cons_of_mem _ List.mem_cons_self)))⟩
set_option maxRecDepth 100000 in
theorem st_j_l : ∀ w ∈ [Cond.arrayOf stOn .byte, Cond.eq (.length stOn) (.int (Int32.ofNat 100)), Cond.arrayOf stDt .byte, Cond.eq (.length stDt) (.int (Int32.ofNat 100))], w ∈ flatC stG := lw_at_in [57, 58, 160, 161] (by decide +kernel)
theorem st_j : Cond.arrayOf stOn .byte ∈ flatC stG ∧ Cond.eq (.length stOn) (.int (Int32.ofNat 100)) ∈ flatC stG ∧ Cond.arrayOf stDt .byte ∈ flatC stG ∧ Cond.eq (.length stDt) (.int (Int32.ofNat 100)) ∈ flatC stG := ⟨st_j_l _ (List.mem_cons_self), st_j_l _ (List.mem_cons_of_mem _ List.mem_cons_self), st_j_l _ (List.mem_cons_of_mem _ (List.mem_cons_of_mem _ List.mem_cons_self)), st_j_l _ (List.mem_cons_of_mem _ (List.mem_cons_of_mem _ (List.mem_cons_of_mem _ List.mem_cons_self)))⟩
set_option maxRecDepth 100000 in
theorem st_c327_l : ∀ w ∈ [Cond.exactly (.string "KeyLetters" 327) "java/lang/String", Cond.eq (.field (.string "KeyLetters" 327) "java/lang/String" "coder" "B") (.int 0), Cond.arrayOf (stV (.string "KeyLetters" 327)) .byte, Cond.eq (.length (stV (.string "KeyLetters" 327))) (.int (Int32.ofNat 7))], w ∈ flatC stG := lw_at_in [394, 395, 396, 397] (by decide +kernel)
theorem st_c327 : Cond.exactly (.string "KeyLetters" 327) "java/lang/String" ∈ flatC stG ∧ Cond.eq (.field (.string "KeyLetters" 327) "java/lang/String" "coder" "B") (.int 0) ∈ flatC stG ∧ Cond.arrayOf (stV (.string "KeyLetters" 327)) .byte ∈ flatC stG ∧ Cond.eq (.length (stV (.string "KeyLetters" 327))) (.int (Int32.ofNat 7)) ∈ flatC stG := ⟨st_c327_l _ (List.mem_cons_self), st_c327_l _ (List.mem_cons_of_mem _ List.mem_cons_self), st_c327_l _ (List.mem_cons_of_mem _ (List.mem_cons_of_mem _ List.mem_cons_self)), st_c327_l _ (List.mem_cons_of_mem _ (List.mem_cons_of_mem _ (List.mem_cons_of_mem _ List.mem_cons_self)))⟩
set_option maxRecDepth 100000 in
theorem st_d327_0 : ∀ w ∈ (List.range' 0 7).map (fun i => Cond.eq (.elem (stV (.string "KeyLetters" 327)) (.int (Int32.ofNat i))) (.int (sb_b (([32, 119, 114, 111, 116, 101, 32] : List Nat).getD i 0)))), w ∈ flatC stG := lw_at_in [398, 399, 400, 401, 402, 403, 404] (by decide +kernel)
theorem st_d327 : ∀ i, i < 7 → Cond.eq (.elem (stV (.string "KeyLetters" 327)) (.int (Int32.ofNat i))) (.int (sb_b (([32, 119, 114, 111, 116, 101, 32] : List Nat).getD i 0))) ∈ flatC stG := by
  intro i hi
  exact st_rg (P := fun w => w ∈ flatC stG) (f := fun i => Cond.eq (.elem (stV (.string "KeyLetters" 327)) (.int (Int32.ofNat i))) (.int (sb_b (([32, 119, 114, 111, 116, 101, 32] : List Nat).getD i 0)))) st_d327_0 i (by omega) (by omega)
set_option maxRecDepth 100000 in
theorem st_c336_l : ∀ w ∈ [Cond.exactly (.string "KeyLetters" 336) "java/lang/String", Cond.eq (.field (.string "KeyLetters" 336) "java/lang/String" "coder" "B") (.int 0), Cond.arrayOf (stV (.string "KeyLetters" 336)) .byte, Cond.eq (.length (stV (.string "KeyLetters" 336))) (.int (Int32.ofNat 5))], w ∈ flatC stG := lw_at_in [405, 406, 407, 408] (by decide +kernel)
theorem st_c336 : Cond.exactly (.string "KeyLetters" 336) "java/lang/String" ∈ flatC stG ∧ Cond.eq (.field (.string "KeyLetters" 336) "java/lang/String" "coder" "B") (.int 0) ∈ flatC stG ∧ Cond.arrayOf (stV (.string "KeyLetters" 336)) .byte ∈ flatC stG ∧ Cond.eq (.length (stV (.string "KeyLetters" 336))) (.int (Int32.ofNat 5)) ∈ flatC stG := ⟨st_c336_l _ (List.mem_cons_self), st_c336_l _ (List.mem_cons_of_mem _ List.mem_cons_self), st_c336_l _ (List.mem_cons_of_mem _ (List.mem_cons_of_mem _ List.mem_cons_self)), st_c336_l _ (List.mem_cons_of_mem _ (List.mem_cons_of_mem _ (List.mem_cons_of_mem _ List.mem_cons_self)))⟩
set_option maxRecDepth 100000 in
theorem st_d336_0 : ∀ w ∈ (List.range' 0 5).map (fun i => Cond.eq (.elem (stV (.string "KeyLetters" 336)) (.int (Int32.ofNat i))) (.int (sb_b (([32, 105, 110, 107, 32] : List Nat).getD i 0)))), w ∈ flatC stG := lw_at_in [409, 410, 411, 412, 413] (by decide +kernel)
theorem st_d336 : ∀ i, i < 5 → Cond.eq (.elem (stV (.string "KeyLetters" 336)) (.int (Int32.ofNat i))) (.int (sb_b (([32, 105, 110, 107, 32] : List Nat).getD i 0))) ∈ flatC stG := by
  intro i hi
  exact st_rg (P := fun w => w ∈ flatC stG) (f := fun i => Cond.eq (.elem (stV (.string "KeyLetters" 336)) (.int (Int32.ofNat i))) (.int (sb_b (([32, 105, 110, 107, 32] : List Nat).getD i 0)))) st_d336_0 i (by omega) (by omega)
set_option maxRecDepth 100000 in
theorem st_c338_l : ∀ w ∈ [Cond.exactly (.string "KeyLetters" 338) "java/lang/String", Cond.eq (.field (.string "KeyLetters" 338) "java/lang/String" "coder" "B") (.int 0), Cond.arrayOf (stV (.string "KeyLetters" 338)) .byte, Cond.eq (.length (stV (.string "KeyLetters" 338))) (.int (Int32.ofNat 5))], w ∈ flatC stG := lw_at_in [414, 415, 416, 417] (by decide +kernel)
theorem st_c338 : Cond.exactly (.string "KeyLetters" 338) "java/lang/String" ∈ flatC stG ∧ Cond.eq (.field (.string "KeyLetters" 338) "java/lang/String" "coder" "B") (.int 0) ∈ flatC stG ∧ Cond.arrayOf (stV (.string "KeyLetters" 338)) .byte ∈ flatC stG ∧ Cond.eq (.length (stV (.string "KeyLetters" 338))) (.int (Int32.ofNat 5)) ∈ flatC stG := ⟨st_c338_l _ (List.mem_cons_self), st_c338_l _ (List.mem_cons_of_mem _ List.mem_cons_self), st_c338_l _ (List.mem_cons_of_mem _ (List.mem_cons_of_mem _ List.mem_cons_self)), st_c338_l _ (List.mem_cons_of_mem _ (List.mem_cons_of_mem _ (List.mem_cons_of_mem _ List.mem_cons_self)))⟩
set_option maxRecDepth 100000 in
theorem st_d338_0 : ∀ w ∈ (List.range' 0 5).map (fun i => Cond.eq (.elem (stV (.string "KeyLetters" 338)) (.int (Int32.ofNat i))) (.int (sb_b (([32, 104, 101, 108, 100] : List Nat).getD i 0)))), w ∈ flatC stG := lw_at_in [418, 419, 420, 421, 422] (by decide +kernel)
theorem st_d338 : ∀ i, i < 5 → Cond.eq (.elem (stV (.string "KeyLetters" 338)) (.int (Int32.ofNat i))) (.int (sb_b (([32, 104, 101, 108, 100] : List Nat).getD i 0))) ∈ flatC stG := by
  intro i hi
  exact st_rg (P := fun w => w ∈ flatC stG) (f := fun i => Cond.eq (.elem (stV (.string "KeyLetters" 338)) (.int (Int32.ofNat i))) (.int (sb_b (([32, 104, 101, 108, 100] : List Nat).getD i 0)))) st_d338_0 i (by omega) (by omega)
set_option maxRecDepth 100000 in
theorem st_t6_0 : ∀ w ∈ (nestWs.drop 0).take 30, w ∈ lw_tbl := lw_at_in [201, 214, 216, 218, 219, 220, 222, 224, 251, 257, 262, 264, 265, 266, 267, 269, 270, 271, 272, 274, 276, 277, 278, 280, 282, 284, 285, 286, 288, 289] (by decide +kernel)
set_option maxRecDepth 100000 in
theorem st_t6_30 : ∀ w ∈ (nestWs.drop 30).take 30, w ∈ lw_tbl := lw_at_in [291, 292, 294, 321, 326, 328, 329, 331, 332, 333, 335, 337, 339, 340, 342, 343, 345, 347, 369, 376, 396, 398, 400, 411, 417, 419, 431, 433, 436, 442] (by decide +kernel)
set_option maxRecDepth 100000 in
theorem st_t6_60 : ∀ w ∈ (nestWs.drop 60).take 30, w ∈ lw_tbl := lw_at_in [444, 462, 465, 470, 476, 483, 485, 497, 506, 508, 510, 632, 703, 707, 717, 725, 729, 734, 740, 743, 759, 763, 776, 789, 797, 802, 806, 813, 817, 821] (by decide +kernel)
set_option maxRecDepth 100000 in
theorem st_t6_90 : ∀ w ∈ (nestWs.drop 90).take 30, w ∈ lw_tbl := lw_at_in [833, 834, 838, 846, 847, 866, 879, 884, 889, 890, 891, 892, 896, 901, 941, 943, 959, 967, 978, 979, 983, 996, 997, 1006, 1010, 1014, 1038, 1248, 1275, 1283] (by decide +kernel)
set_option maxRecDepth 100000 in
theorem st_t6_120 : ∀ w ∈ (nestWs.drop 120).take 30, w ∈ lw_tbl := lw_at_in [1302, 1306, 1313, 1316, 1317, 1318, 1347, 1348, 1349, 1350, 1354, 1355, 1356, 1365, 1382, 1383, 1384, 1385, 1398, 1411, 1414, 1417, 1418, 1426, 1430, 1442, 1445, 1450, 1454, 1455] (by decide +kernel)
set_option maxRecDepth 100000 in
theorem st_t6_150 : ∀ w ∈ nestWs.drop 150, w ∈ lw_tbl := lw_at_in [1469, 1473, 1474, 1552, 1553, 1557, 2226, 2229] (by decide +kernel)
theorem st_dt {P : Cond → Prop} {l : List Cond} {n : Nat} (h1 : ∀ w ∈ l.take n, P w) (h2 : ∀ w ∈ l.drop n, P w) : ∀ w ∈ l, P w := fun w h => by
  rw [← List.take_append_drop n l] at h
  rcases List.mem_append.mp h with h | h
  · exact h1 w h
  · exact h2 w h
theorem st_t6 : ∀ w ∈ nestWs, w ∈ lw_tbl := by
  rw [show nestWs = nestWs.drop 0 from rfl]
  exact (st_dt (n := 30) st_t6_0 (by rw [List.drop_drop]; exact (st_dt (n := 30) st_t6_30 (by rw [List.drop_drop]; exact (st_dt (n := 30) st_t6_60 (by rw [List.drop_drop]; exact (st_dt (n := 30) st_t6_90 (by rw [List.drop_drop]; exact (st_dt (n := 30) st_t6_120 (by rw [List.drop_drop]; exact st_t6_150))))))))))
