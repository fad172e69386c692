def wF1x9 (cs : Nat → ClassId) (ra : Nat → Nat) (F : Nat → Nat → Int32) : va_W := [(ra 0, .inl (cs 1, 6, .inl (F 0))), (ra 1, .inl (cs 1, 6, .inl (F 1))), (ra 2, .inl (cs 1, 6, .inl (F 2))), (ra 3, .inl (cs 1, 6, .inl (F 3))), (ra 4, .inl (cs 1, 6, .inl (F 4))), (ra 5, .inl (cs 1, 6, .inl (F 5))), (ra 6, .inl (cs 1, 6, .inl (F 6))), (ra 7, .inl (cs 1, 6, .inl (F 7))), (ra 8, .inl (cs 1, 6, .inl (F 8)))]
section KA
variable {p : Program} {l : Launch} {e : Env} {R : Room} {s : State} {m : MethodId} {args : Array Value} {below : List Frame} {meth : Method} {c : Code} {H : Heap} {locs : List Loc} {cells slots : Nat} {Q : State → Prop}
variable {cc : ByteArray} {pc a : Nat} {ls : Array Slot} {rest : List Value} {ws : va_W} {tys : List (ClassId × FieldType)} {cl : List vw_C} {D : va_G}
/-- a row of rows of ints read -/
theorem g_aldqA (hexec : p.tables.exec = Jvm.exec) (hb : c.code = cc) (hK : va_K D cl tys s) (hP : va_P D cl ws H) (q0 t0 : Nat) {cA : ClassId} {n : Nat} {f : Nat → Option Nat} (ha : ws[q0]? = some (a, .inl (cA, n, .inr (.inr (.inr (.inr f)))))) (ht : tys[t0]? = some (cA, .array .int)) {i : Int32} (hin : vp_in i n) (hdg : decode cc pc = .ok (.aaload, 1))
    (kk : W p l e R s m args below meth c H locs cells slots Q (F0 m (pc + 1) ls (va_rf (f i.toNatClampNeg) :: rest))) : W p l e R s m args below meth c H locs cells slots Q (F0 m pc ls (.int i :: .ref a :: rest)) := by
  have hlt : i.toNatClampNeg < n := Nat.not_le.mp fun q => hin (Or.inr q)
  exact W.aald (v := va_rf (f i.toNatClampNeg)) (ty := .array .int) hexec hb (hP q0 _ ha) ((hK.2 t0 _ ht).1 n (fun j => va_rf (f j))) rfl (fun q => by cases q) (by show ¬ (i < 0 ∨ (arrV _ _ _).slots.size ≤ _); rw [arrV_size]; exact hin) (by show (arrV _ _ _).slots[_]? = _; rw [arrV_read _ _ hlt]) rfl rfl hdg kk
end KA
def ww_X6_sumWithout (cs : Nat → ClassId) (ad : Nat → Nat) (raA : Nat) (nA : Nat) (A : Nat → Int32) : va_W := ([(raA, .inl (cs 1, nA, .inl A))])
abbrev rm_X6_sumWithout : Room := { frames := 1, cells := 0, slots := 0, locals := 22 }
set_option maxHeartbeats 4000000 in
set_option maxRecDepth 100000 in
theorem c_X6_sumWithout (l : Launch) (dC : Nat → ClassId) (dI : Nat → Nat → Nat) (cs : Nat → ClassId) (ad : Nat → Nat) (raA : Nat) (nA : Nat) (A : Nat → Int32) (a1 : Int32) (r : Int32) (hf : f_X6_sumWithout a1 nA A = some r) : Met l yX6_sumWithout wsX6_sumWithout rm_X6_sumWithout (va_Pc [.ref raA, .int a1] (cPr dC dI cs (ww_X6_sumWithout cs ad raA nA A))) (kQ (some (.int r))) 0 0 (kF) := by
  refine Met.ofW (cc := cX6_sumWithout) (maxL := 2) (ret := (some .int)) (by decide) rfl ?_
  intro p e s m args below meth c s₁ B hml hv
  obtain ⟨hav, hP, hK, hN⟩ := hv
  have hx := B.exec
  have hb := B.bytes
  have hr := B.returns
  have hts := atoms_spec (ws := wsX6_sumWithout) B.pre
  have hown : s.vm.findClass RX6 = some m.cls := findClass_of_methodNamed B.named
  have hlocks := B.notSynchronized
  have k_initialized_RX11 := hts (.initialized RX11) (List.mem_of_getElem? (i := 2) rfl)
  have k_static_yX11_sumOf := hts (.static yX11_sumOf) (List.mem_of_getElem? (i := 1) rfl)
  have hl := lv_entry ([.ref raA, .int a1]) (n := 2) (Nat.le_of_ble_eq_true rfl)
  rw [show entryFrame m args 2 = entryFrame m ([.ref raA, .int a1] : List Value).toArray 2 from by rw [hav], lg_entry_eq]
  generalize (lg_sl ([.ref raA, .int a1]) ++ List.replicate (2 - (lg_sl ([.ref raA, .int a1])).length) Slot.unset).toArray = ls at hl ⊢
  have hl : lv_has ls 2 [(0, .ref raA), (1, .int a1)] := hl
  unfold f_X6_sumWithout at hf
  refine lv_iload_n hx hb dX6_sumWithout_0 rfl (lv_at hl 1 rfl) ?_
  refine lv_if_lt (tgt := 21) hx hb dX6_sumWithout_1 (by decide) (fun hb5 => ?_) (fun hb5 => ?_)
  · have hf := (if_pos hb5).symm.trans hf
    refine lv_iconst (v := 0) hx hb dX6_sumWithout_21 (by decide) ?_
    have hf := Option.some.inj hf
    subst hf
    exact W.iret (v := (0 : Int32)) hx hb hr (fun t ht hW => ⟨rfl, ht⟩) (fun _ h => nomatch h) dX6_sumWithout_22
  · have hf := (if_neg hb5).symm.trans hf
    refine lv_iload_n hx hb dX6_sumWithout_4 rfl (lv_at hl 1 rfl) ?_
    refine lv_aload_n hx hb dX6_sumWithout_5 rfl (lv_at hl 0 rfl) ?_
    refine va_alen hx hb hK hP 0 1 rfl rfl (v := (Int32.ofNat nA)) rfl dX6_sumWithout_6 ?_
    refine lv_icmp_ge (tgt := 21) hx hb dX6_sumWithout_7 (by decide) (fun hb4 => ?_) (fun hb4 => ?_)
    · have hf := (if_pos hb4).symm.trans hf
      refine lv_iconst (v := 0) hx hb dX6_sumWithout_21 (by decide) ?_
      have hf := Option.some.inj hf
      subst hf
      exact W.iret (v := (0 : Int32)) hx hb hr (fun t ht hW => ⟨rfl, ht⟩) (fun _ h => nomatch h) dX6_sumWithout_22
    · have hf := (if_neg hb4).symm.trans hf
      refine lv_aload_n hx hb dX6_sumWithout_10 rfl (lv_at hl 0 rfl) ?_
      obtain ⟨v2, hq1, hf⟩ := bo_e hf
      refine ko_call (v := some (.int v2)) (va_runSN (As := [.ref raA]) (rest := []) ⟨hx, hb, hml, hown, hts⟩ (c_X11_sumOf l dC dI cs ad raA nA A v2 hq1) ⟨va_cnB 1 hts gX6_sumWithout_X11_sumOf_n37 rfl rfl rfl (hN _ (List.mem_of_getElem? (i := 115) rfl)) k_initialized_RX11 (by decide +kernel) ⟨Nat.le_of_ble_eq_true rfl, Nat.le_of_ble_eq_true rfl⟩, k_static_yX11_sumOf, trivial⟩ ⟨fun a U g mk q => ⟨q.1, (fun _ _ _ _ => cPr_bl) a U g mk q.2⟩, fun U hU hW => ⟨rfl, ⟨by rw [hU]; exact (hP.sub (ws' := (ww_X11_sumOf cs ad raA nA A)) [0] rfl), va_K.moved hW.alike hK, kN_warm hW hN⟩⟩⟩ rfl rfl hl.1 rfl (lv_room (Nat.le_of_ble_eq_true rfl)) dX6_sumWithout_11 ⟨Nat.le_refl _, Nat.le_refl _⟩) ?_
      refine lv_aload_n hx hb dX6_sumWithout_14 rfl (lv_at hl 0 rfl) ?_
      refine lv_iload_n hx hb dX6_sumWithout_15 rfl (lv_at hl 1 rfl) ?_
      obtain ⟨hc3, hf⟩ := ck_e hf
      refine va_iald hx hb hK hP 0 1 rfl rfl hc3 dX6_sumWithout_16 ?_
      refine lv_isub hx hb dX6_sumWithout_17 ?_
      refine lv_goto (tgt := 22) hx hb dX6_sumWithout_18 (by decide) ?_
      have hf := Option.some.inj hf
      subst hf
      exact W.iret (v := (v2 - (A a1.toNatClampNeg))) hx hb hr (fun t ht hW => ⟨rfl, ht⟩) (fun _ h => nomatch h) dX6_sumWithout_22

def ww_X6_keepFirst (cs : Nat → ClassId) (ad : Nat → Nat) (raRW : Nat → Nat) (raUO : Nat) (raUF : Nat → Nat) (raVO : Nat) (raVF : Nat → Nat) (RW : kD) (UF : Nat → Nat → Int32) (VF : Nat → Nat → Int32) : va_W := (wX6 cs ad raRW raUO raVO RW ++ ([(raUO, .inl (cs 7, 9, .inr (.inr (.inr (.inr (fun j => some (raUF j)))))))] ++ (wF1x9 cs raUF UF ++ ([(raVO, .inl (cs 7, 9, .inr (.inr (.inr (.inr (fun j => some (raVF j)))))))] ++ (wF1x9 cs raVF VF)))))
abbrev rm_X6_keepFirst : Room := { frames := 0, cells := 0, slots := 0, locals := 0 }
set_option maxHeartbeats 4000000 in
set_option maxRecDepth 100000 in
theorem c_X6_keepFirst (l : Launch) (dC : Nat → ClassId) (dI : Nat → Nat → Nat) (cs : Nat → ClassId) (ad : Nat → Nat) (raRW : Nat → Nat) (raUO : Nat) (raUF : Nat → Nat) (raVO : Nat) (raVF : Nat → Nat) (sz : Nat) (RW : kD) (UF : Nat → Nat → Int32) (VF : Nat → Nat → Int32) (r : kD) (hf : f_X6_keepFirst RW UF VF = some r) : Met l yX6_keepFirst wsX6_keepFirst rm_X6_keepFirst (va_Pc [.ref (raRW 0)] (cPw dC dI cs sz (ww_X6_keepFirst cs ad raRW raUO raUF raVO raVF RW UF VF))) (cQv dC dI cs (va_A (ww_X6_keepFirst cs ad raRW raUO raUF raVO raVF zD (fun _ _ => 0) (fun _ _ => 0)) sz) (ww_X6_keepFirst cs ad raRW raUO raUF raVO raVF r UF VF)) 0 0 (va_A (ww_X6_keepFirst cs ad raRW raUO raUF raVO raVF zD (fun _ _ => 0) (fun _ _ => 0)) sz) := by
  refine Met.ofW (cc := cX6_keepFirst) (maxL := 4) (ret := none) (by decide) rfl ?_
  intro p e s m args below meth c s₁ B hml hv
  obtain ⟨hav, hsz, hP, hK, hD0, hN⟩ := hv
  have hx := B.exec
  have hb := B.bytes
  have hr := B.returns
  have hts := atoms_spec (ws := wsX6_keepFirst) B.pre
  have hown : s.vm.findClass RX6 = some m.cls := findClass_of_methodNamed B.named
  have hlocks := B.notSynchronized
  subst hsz
  have hA : ∀ q, s.heap.size ≤ q → va_A (ww_X6_keepFirst cs ad raRW raUO raUF raVO raVF zD (fun _ _ => 0) (fun _ _ => 0)) s.heap.size q := fun q h => Or.inr h
  have hD : va_D (va_A (ww_X6_keepFirst cs ad raRW raUO raUF raVO raVF zD (fun _ _ => 0) (fun _ _ => 0)) s.heap.size) (ww_X6_keepFirst cs ad raRW raUO raUF raVO raVF RW UF VF) := hD0.weaken (fun k q h _ => cA_in (ws := (ww_X6_keepFirst cs ad raRW raUO raUF raVO raVF RW UF VF)) (ws' := (ww_X6_keepFirst cs ad raRW raUO raUF raVO raVF zD (fun _ _ => 0) (fun _ _ => 0))) rfl h)
  have hS : va_S (va_A (ww_X6_keepFirst cs ad raRW raUO raUF raVO raVF zD (fun _ _ => 0) (fun _ _ => 0)) s.heap.size) s.heap s.heap [] := va_S.rf
  have hinX6 := (show ∀ w ∈ wsX60, w ∈ wsX6_keepFirst from fun w h => List.mem_cons_of_mem _ (List.mem_append_right _ h))
  have k_fieldLink_RX6_16__KeyLetters_Rows___from_____I_ := hts (.fieldLink RX6 16 "KeyLetters$Rows" "from" "[[I") (List.mem_of_getElem? (i := 2) rfl)
  have k_fieldLink_RX6_19__KeyLetters_Rows___first____I_ := hts (.fieldLink RX6 19 "KeyLetters$Rows" "first" "[I") (List.mem_of_getElem? (i := 3) rfl)
  have k_fieldLink_RX6_41__KeyLetters_Rows___size___I_ := hts (.fieldLink RX6 41 "KeyLetters$Rows" "size" "I") (List.mem_of_getElem? (i := 1) rfl)
  have hl := lv_entry ([.ref (raRW 0)]) (n := 4) (Nat.le_of_ble_eq_true rfl)
  rw [show entryFrame m args 4 = entryFrame m ([.ref (raRW 0)] : List Value).toArray 4 from by rw [hav], lg_entry_eq]
  generalize (lg_sl ([.ref (raRW 0)]) ++ List.replicate (4 - (lg_sl ([.ref (raRW 0)])).length) Slot.unset).toArray = ls at hl ⊢
  have hl : lv_has ls 4 [(0, .ref (raRW 0))] := hl
  unfold f_X6_keepFirst at hf
  have h_4 := lp_ind (z := (fun _ _ _ => none)) (b := (g_X6_keepFirst_4 UF VF)) (fun (rc_4 : Int32 → Int32 → kD → Option kD) => ∀ (x1_4 : Int32) (x2_4 : Int32) (RW_4 : kD) (ls : Array Slot) (H : Heap) (locs : List Loc), lv_has ls 4 [(0, .ref (raRW 0)), (1, .int x1_4), (2, .int x2_4)] → va_P (dC, dI) vwCl (ww_X6_keepFirst cs ad raRW raUO raUF raVO raVF RW_4 UF VF) H → va_D (va_A (ww_X6_keepFirst cs ad raRW raUO raUF raVO raVF zD (fun _ _ => 0) (fun _ _ => 0)) s.heap.size) (ww_X6_keepFirst cs ad raRW raUO raUF raVO raVF RW_4 UF VF) → va_S (va_A (ww_X6_keepFirst cs ad raRW raUO raUF raVO raVF zD (fun _ _ => 0) (fun _ _ => 0)) s.heap.size) s.heap H locs → rc_4 x1_4 x2_4 RW_4 = some r → W p l e (headSpec wsX6_keepFirst rm_X6_keepFirst).room s m args below meth c H locs 0 0 (MQ below (cQv dC dI cs (va_A (ww_X6_keepFirst cs ad raRW raUO raUF raVO raVF zD (fun _ _ => 0) (fun _ _ => 0)) s.heap.size) (ww_X6_keepFirst cs ad raRW raUO raUF raVO raVF r UF VF)) args s 0 0 (va_A (ww_X6_keepFirst cs ad raRW raUO raUF raVO raVF zD (fun _ _ => 0) (fun _ _ => 0)) s.heap.size)) (F0 m 4 ls [])) (by
      intro x1_4 x2_4 RW_4 ls H locs hl hP hD hS hf
      cases hf) (by
      intro rc_4 ih_4 x1_4 x2_4 RW_4 ls H locs hl hP hD hS hf
      unfold g_X6_keepFirst_4 at hf
      have h_47 : ∀ (x2_47 : Int32) (x3_47 : Int32) (RW_47 : kD) (ls : Array Slot) (H : Heap) (locs : List Loc), lv_has ls 4 [(0, .ref (raRW 0)), (2, .int x2_47), (3, .int x3_47)] → va_P (dC, dI) vwCl (ww_X6_keepFirst cs ad raRW raUO raUF raVO raVF RW_47 UF VF) H → va_D (va_A (ww_X6_keepFirst cs ad raRW raUO raUF raVO raVF zD (fun _ _ => 0) (fun _ _ => 0)) s.heap.size) (ww_X6_keepFirst cs ad raRW raUO raUF raVO raVF RW_47 UF VF) → va_S (va_A (ww_X6_keepFirst cs ad raRW raUO raUF raVO raVF zD (fun _ _ => 0) (fun _ _ => 0)) s.heap.size) s.heap H locs → g_X6_keepFirst_47 rc_4 UF VF x2_47 x3_47 RW_47 = some r → W p l e (headSpec wsX6_keepFirst rm_X6_keepFirst).room s m args below meth c H locs 0 0 (MQ below (cQv dC dI cs (va_A (ww_X6_keepFirst cs ad raRW raUO raUF raVO raVF zD (fun _ _ => 0) (fun _ _ => 0)) s.heap.size) (ww_X6_keepFirst cs ad raRW raUO raUF raVO raVF r UF VF)) args s 0 0 (va_A (ww_X6_keepFirst cs ad raRW raUO raUF raVO raVF zD (fun _ _ => 0) (fun _ _ => 0)) s.heap.size)) (F0 m 47 ls []) := by
        intro x2_47 x3_47 RW_47 ls H locs hl hP hD hS hf
        unfold g_X6_keepFirst_47 at hf
        refine lv_aload_n hx hb dX6_keepFirst_47 rfl (lv_at hl 0 rfl) ?_
        refine va_get (D := (dC, dI)) (ci := 7) (C := RX6) (T := TX6) (N := 5) hx hb hts hinX6 hown hK hP 0 rfl rfl 2 (by decide) (v := .ref (raRW 2)) k_fieldLink_RX6_19__KeyLetters_Rows___first____I_ (fun _ h9 => h9) rfl dX6_keepFirst_48 ?_
        refine lv_iload_n hx hb dX6_keepFirst_51 rfl (lv_at hl 1 rfl) ?_
        refine lv_iload_n hx hb dX6_keepFirst_52 rfl (lv_at hl 2 rfl) ?_
        obtain ⟨hc1, hf⟩ := ck_e hf
        obtain ⟨RWv2, eRWv2, hf⟩ := bd1_e hf
        refine va_iast hx hb hK hP hD hS 1 1 rfl rfl hc1 dX6_keepFirst_53 (fun H locs hP hD hS => ?_)
        have hP : va_P (dC, dI) vwCl (ww_X6_keepFirst cs ad raRW raUO raUF raVO raVF RWv2 UF VF) H := g_toP (by rw [eRWv2]; rfl) hP
        have hD : va_D (va_A (ww_X6_keepFirst cs ad raRW raUO raUF raVO raVF zD (fun _ _ => 0) (fun _ _ => 0)) s.heap.size) (ww_X6_keepFirst cs ad raRW raUO raUF raVO raVF RWv2 UF VF) := g_toD (by rw [eRWv2]; rfl) hD
        refine lv_iload_n hx hb dX6_keepFirst_54 rfl (lv_at hl 2 rfl) ?_
        refine lv_istore_n (nL := 4) (lv' := [(1, .int x3_47), (0, .ref (raRW 0)), (2, .int x2_47), (3, .int x3_47)]) hx hb dX6_keepFirst_55 rfl hl (by decide) rfl (fun ls hl => ?_)
        obtain ⟨v3, ev3, hf⟩ := bd1_e hf
        refine lv_iinc (k := 2) (x := x2_47) (v := v3) (nL := 4) (lv' := [(2, .int v3), (1, .int x3_47), (0, .ref (raRW 0)), (3, .int x3_47)]) hx hb dX6_keepFirst_56 hl rfl (kt_inc (w := 1) (by decide) ev3) (by decide) rfl (fun ls hl => ?_)
        refine lv_goto (tgt := 4) hx hb dX6_keepFirst_59 (by decide) ?_
        exact ih_4 x3_47 v3 RWv2 ls _ _ (lv_sub hl [2, 1, 0] rfl) hP hD hS hf
      have h_20 := lp_ind (z := (fun _ _ _ _ => none)) (b := (g_X6_keepFirst_20 rc_4 UF VF)) (fun (rc_20 : Int32 → Int32 → Int32 → kD → Option kD) => ∀ (x1_20 : Int32) (x2_20 : Int32) (x3_20 : Int32) (RW_20 : kD) (ls : Array Slot) (H : Heap) (locs : List Loc), lv_has ls 4 [(0, .ref (raRW 0)), (1, .int x1_20), (2, .int x2_20), (3, .int x3_20)] → va_P (dC, dI) vwCl (ww_X6_keepFirst cs ad raRW raUO raUF raVO raVF RW_20 UF VF) H → va_D (va_A (ww_X6_keepFirst cs ad raRW raUO raUF raVO raVF zD (fun _ _ => 0) (fun _ _ => 0)) s.heap.size) (ww_X6_keepFirst cs ad raRW raUO raUF raVO raVF RW_20 UF VF) → va_S (va_A (ww_X6_keepFirst cs ad raRW raUO raUF raVO raVF zD (fun _ _ => 0) (fun _ _ => 0)) s.heap.size) s.heap H locs → rc_20 x1_20 x2_20 x3_20 RW_20 = some r → W p l e (headSpec wsX6_keepFirst rm_X6_keepFirst).room s m args below meth c H locs 0 0 (MQ below (cQv dC dI cs (va_A (ww_X6_keepFirst cs ad raRW raUO raUF raVO raVF zD (fun _ _ => 0) (fun _ _ => 0)) s.heap.size) (ww_X6_keepFirst cs ad raRW raUO raUF raVO raVF r UF VF)) args s 0 0 (va_A (ww_X6_keepFirst cs ad raRW raUO raUF raVO raVF zD (fun _ _ => 0) (fun _ _ => 0)) s.heap.size)) (F0 m 20 ls [])) (by
          intro x1_20 x2_20 x3_20 RW_20 ls H locs hl hP hD hS hf
          cases hf) (by
          intro rc_20 ih_20 x1_20 x2_20 x3_20 RW_20 ls H locs hl hP hD hS hf
          unfold g_X6_keepFirst_20 at hf
          have h_41 : ∀ (x1_41 : Int32) (x2_41 : Int32) (x3_41 : Int32) (RW_41 : kD) (ls : Array Slot) (H : Heap) (locs : List Loc), lv_has ls 4 [(0, .ref (raRW 0)), (1, .int x1_41), (2, .int x2_41), (3, .int x3_41)] → va_P (dC, dI) vwCl (ww_X6_keepFirst cs ad raRW raUO raUF raVO raVF RW_41 UF VF) H → va_D (va_A (ww_X6_keepFirst cs ad raRW raUO raUF raVO raVF zD (fun _ _ => 0) (fun _ _ => 0)) s.heap.size) (ww_X6_keepFirst cs ad raRW raUO raUF raVO raVF RW_41 UF VF) → va_S (va_A (ww_X6_keepFirst cs ad raRW raUO raUF raVO raVF zD (fun _ _ => 0) (fun _ _ => 0)) s.heap.size) s.heap H locs → g_X6_keepFirst_41 rc_4 rc_20 UF VF x1_41 x2_41 x3_41 RW_41 = some r → W p l e (headSpec wsX6_keepFirst rm_X6_keepFirst).room s m args below meth c H locs 0 0 (MQ below (cQv dC dI cs (va_A (ww_X6_keepFirst cs ad raRW raUO raUF raVO raVF zD (fun _ _ => 0) (fun _ _ => 0)) s.heap.size) (ww_X6_keepFirst cs ad raRW raUO raUF raVO raVF r UF VF)) args s 0 0 (va_A (ww_X6_keepFirst cs ad raRW raUO raUF raVO raVF zD (fun _ _ => 0) (fun _ _ => 0)) s.heap.size)) (F0 m 41 ls []) := by
            intro x1_41 x2_41 x3_41 RW_41 ls H locs hl hP hD hS hf
            unfold g_X6_keepFirst_41 at hf
            obtain ⟨v4, ev4, hf⟩ := bd1_e hf
            refine lv_iinc (k := 3) (x := x3_41) (v := v4) (nL := 4) (lv' := [(3, .int v4), (0, .ref (raRW 0)), (1, .int x1_41), (2, .int x2_41)]) hx hb dX6_keepFirst_41 hl rfl (kt_inc (w := 1) (by decide) ev4) (by decide) rfl (fun ls hl => ?_)
            refine lv_goto (tgt := 20) hx hb dX6_keepFirst_44 (by decide) ?_
            exact ih_20 x1_41 x2_41 v4 RW_41 ls _ _ (lv_sub hl [1, 2, 3, 0] rfl) hP hD hS hf
          refine lv_iload_n hx hb dX6_keepFirst_20 rfl (lv_at hl 3 rfl) ?_
          refine lv_iconst (v := 5) hx hb dX6_keepFirst_21 (by decide) ?_
          refine lv_icmp_ge (tgt := 47) hx hb dX6_keepFirst_22 (by decide) (fun hb34 => ?_) (fun hb34 => ?_)
          · have hf := (if_pos hb34).symm.trans hf
            exact h_47 x2_20 x3_20 RW_20 ls _ _ (lv_sub hl [0, 2, 3] rfl) hP hD hS hf
          · have hf := (if_neg hb34).symm.trans hf
            refine lv_iload_n hx hb dX6_keepFirst_25 rfl (lv_at hl 3 rfl) ?_
            refine lv_iload_n hx hb dX6_keepFirst_26 rfl (lv_at hl 1 rfl) ?_
            refine lv_icmp_eq (tgt := 41) hx hb dX6_keepFirst_27 (by decide) (fun hb33 => ?_) (fun hb33 => ?_)
            · have hf := (if_pos hb33).symm.trans hf
              exact h_41 x1_20 x2_20 x3_20 RW_20 ls _ _ hl hP hD hS hf
            · have hf := (if_neg hb33).symm.trans hf
              refine lv_aload_n hx hb dX6_keepFirst_30 rfl (lv_at hl 0 rfl) ?_
              refine va_get (D := (dC, dI)) (ci := 7) (C := RX6) (T := TX6) (N := 5) hx hb hts hinX6 hown hK hP 0 rfl rfl 1 (by decide) (v := .ref raVO) k_fieldLink_RX6_16__KeyLetters_Rows___from_____I_ (fun _ h9 => h9) rfl dX6_keepFirst_31 ?_
              refine lv_iload_n hx hb dX6_keepFirst_34 rfl (lv_at hl 2 rfl) ?_
              obtain ⟨hc5, hf⟩ := ck_e hf
              refine g_aldqA (f := fun j => some (raVF j)) hx hb hK hP 12 7 rfl rfl hc5 dX6_keepFirst_35 ?_
              refine kt_v (show va_rf (some (raVF x2_20.toNatClampNeg)) = Value.ref (raVF x2_20.toNatClampNeg) from rfl) ?_
              refine lv_iload_n hx hb dX6_keepFirst_36 rfl (lv_at hl 3 rfl) ?_
              by_cases hs6 : x2_20 = 0
              · have hf := (if_pos hs6).symm.trans hf
                rw [show raVF x2_20.toNatClampNeg = raVF 0 from congrArg raVF (by rw [hs6]; rfl)]
                obtain ⟨hc7, hf⟩ := ck_e hf
                refine va_iald hx hb hK hP 13 1 rfl rfl hc7 dX6_keepFirst_37 ?_
                refine lv_if_ne (tgt := 47) hx hb dX6_keepFirst_38 (by decide) (fun hb8 => ?_) (fun hb8 => ?_)
                · have hf := (if_neg hb8).symm.trans hf
                  exact h_47 x2_20 x3_20 RW_20 ls _ _ (lv_sub hl [0, 2, 3] rfl) hP hD hS hf
                · have hf := (if_pos hb8).symm.trans hf
                  exact h_41 x1_20 x2_20 x3_20 RW_20 ls _ _ hl hP hD hS hf
              have hf := (if_neg hs6).symm.trans hf
              by_cases hs9 : x2_20 = 1
              · have hf := (if_pos hs9).symm.trans hf
                rw [show raVF x2_20.toNatClampNeg = raVF 1 from congrArg raVF (by rw [hs9]; rfl)]
                obtain ⟨hc10, hf⟩ := ck_e hf
                refine va_iald hx hb hK hP 14 1 rfl rfl hc10 dX6_keepFirst_37 ?_
                refine lv_if_ne (tgt := 47) hx hb dX6_keepFirst_38 (by decide) (fun hb11 => ?_) (fun hb11 => ?_)
                · have hf := (if_neg hb11).symm.trans hf
                  exact h_47 x2_20 x3_20 RW_20 ls _ _ (lv_sub hl [0, 2, 3] rfl) hP hD hS hf
                · have hf := (if_pos hb11).symm.trans hf
                  exact h_41 x1_20 x2_20 x3_20 RW_20 ls _ _ hl hP hD hS hf
              have hf := (if_neg hs9).symm.trans hf
              by_cases hs12 : x2_20 = 2
              · have hf := (if_pos hs12).symm.trans hf
                rw [show raVF x2_20.toNatClampNeg = raVF 2 from congrArg raVF (by rw [hs12]; rfl)]
                obtain ⟨hc13, hf⟩ := ck_e hf
                refine va_iald hx hb hK hP 15 1 rfl rfl hc13 dX6_keepFirst_37 ?_
                refine lv_if_ne (tgt := 47) hx hb dX6_keepFirst_38 (by decide) (fun hb14 => ?_) (fun hb14 => ?_)
                · have hf := (if_neg hb14).symm.trans hf
                  exact h_47 x2_20 x3_20 RW_20 ls _ _ (lv_sub hl [0, 2, 3] rfl) hP hD hS hf
                · have hf := (if_pos hb14).symm.trans hf
                  exact h_41 x1_20 x2_20 x3_20 RW_20 ls _ _ hl hP hD hS hf
              have hf := (if_neg hs12).symm.trans hf
              by_cases hs15 : x2_20 = 3
              · have hf := (if_pos hs15).symm.trans hf
                rw [show raVF x2_20.toNatClampNeg = raVF 3 from congrArg raVF (by rw [hs15]; rfl)]
                obtain ⟨hc16, hf⟩ := ck_e hf
                refine va_iald hx hb hK hP 16 1 rfl rfl hc16 dX6_keepFirst_37 ?_
                refine lv_if_ne (tgt := 47) hx hb dX6_keepFirst_38 (by decide) (fun hb17 => ?_) (fun hb17 => ?_)
                · have hf := (if_neg hb17).symm.trans hf
                  exact h_47 x2_20 x3_20 RW_20 ls _ _ (lv_sub hl [0, 2, 3] rfl) hP hD hS hf
                · have hf := (if_pos hb17).symm.trans hf
                  exact h_41 x1_20 x2_20 x3_20 RW_20 ls _ _ hl hP hD hS hf
              have hf := (if_neg hs15).symm.trans hf
              by_cases hs18 : x2_20 = 4
              · have hf := (if_pos hs18).symm.trans hf
                rw [show raVF x2_20.toNatClampNeg = raVF 4 from congrArg raVF (by rw [hs18]; rfl)]
                obtain ⟨hc19, hf⟩ := ck_e hf
                refine va_iald hx hb hK hP 17 1 rfl rfl hc19 dX6_keepFirst_37 ?_
                refine lv_if_ne (tgt := 47) hx hb dX6_keepFirst_38 (by decide) (fun hb20 => ?_) (fun hb20 => ?_)
                · have hf := (if_neg hb20).symm.trans hf
                  exact h_47 x2_20 x3_20 RW_20 ls _ _ (lv_sub hl [0, 2, 3] rfl) hP hD hS hf
                · have hf := (if_pos hb20).symm.trans hf
                  exact h_41 x1_20 x2_20 x3_20 RW_20 ls _ _ hl hP hD hS hf
              have hf := (if_neg hs18).symm.trans hf
              by_cases hs21 : x2_20 = 5
              · have hf := (if_pos hs21).symm.trans hf
                rw [show raVF x2_20.toNatClampNeg = raVF 5 from congrArg raVF (by rw [hs21]; rfl)]
                obtain ⟨hc22, hf⟩ := ck_e hf
                refine va_iald hx hb hK hP 18 1 rfl rfl hc22 dX6_keepFirst_37 ?_
                refine lv_if_ne (tgt := 47) hx hb dX6_keepFirst_38 (by decide) (fun hb23 => ?_) (fun hb23 => ?_)
                · have hf := (if_neg hb23).symm.trans hf
                  exact h_47 x2_20 x3_20 RW_20 ls _ _ (lv_sub hl [0, 2, 3] rfl) hP hD hS hf
                · have hf := (if_pos hb23).symm.trans hf
                  exact h_41 x1_20 x2_20 x3_20 RW_20 ls _ _ hl hP hD hS hf
              have hf := (if_neg hs21).symm.trans hf
              by_cases hs24 : x2_20 = 6
              · have hf := (if_pos hs24).symm.trans hf
                rw [show raVF x2_20.toNatClampNeg = raVF 6 from congrArg raVF (by rw [hs24]; rfl)]
                obtain ⟨hc25, hf⟩ := ck_e hf
                refine va_iald hx hb hK hP 19 1 rfl rfl hc25 dX6_keepFirst_37 ?_
                refine lv_if_ne (tgt := 47) hx hb dX6_keepFirst_38 (by decide) (fun hb26 => ?_) (fun hb26 => ?_)
                · have hf := (if_neg hb26).symm.trans hf
                  exact h_47 x2_20 x3_20 RW_20 ls _ _ (lv_sub hl [0, 2, 3] rfl) hP hD hS hf
                · have hf := (if_pos hb26).symm.trans hf
                  exact h_41 x1_20 x2_20 x3_20 RW_20 ls _ _ hl hP hD hS hf
              have hf := (if_neg hs24).symm.trans hf
              by_cases hs27 : x2_20 = 7
              · have hf := (if_pos hs27).symm.trans hf
                rw [show raVF x2_20.toNatClampNeg = raVF 7 from congrArg raVF (by rw [hs27]; rfl)]
                obtain ⟨hc28, hf⟩ := ck_e hf
                refine va_iald hx hb hK hP 20 1 rfl rfl hc28 dX6_keepFirst_37 ?_
                refine lv_if_ne (tgt := 47) hx hb dX6_keepFirst_38 (by decide) (fun hb29 => ?_) (fun hb29 => ?_)
                · have hf := (if_neg hb29).symm.trans hf
                  exact h_47 x2_20 x3_20 RW_20 ls _ _ (lv_sub hl [0, 2, 3] rfl) hP hD hS hf
                · have hf := (if_pos hb29).symm.trans hf
                  exact h_41 x1_20 x2_20 x3_20 RW_20 ls _ _ hl hP hD hS hf
              have hf := (if_neg hs27).symm.trans hf
              by_cases hs30 : x2_20 = 8
              · have hf := (if_pos hs30).symm.trans hf
                rw [show raVF x2_20.toNatClampNeg = raVF 8 from congrArg raVF (by rw [hs30]; rfl)]
                obtain ⟨hc31, hf⟩ := ck_e hf
                refine va_iald hx hb hK hP 21 1 rfl rfl hc31 dX6_keepFirst_37 ?_
                refine lv_if_ne (tgt := 47) hx hb dX6_keepFirst_38 (by decide) (fun hb32 => ?_) (fun hb32 => ?_)
                · have hf := (if_neg hb32).symm.trans hf
                  exact h_47 x2_20 x3_20 RW_20 ls _ _ (lv_sub hl [0, 2, 3] rfl) hP hD hS hf
                · have hf := (if_pos hb32).symm.trans hf
                  exact h_41 x1_20 x2_20 x3_20 RW_20 ls _ _ hl hP hD hS hf
              have hf := (if_neg hs30).symm.trans hf
              cases hf) 2000
      refine lv_iload_n hx hb dX6_keepFirst_4 rfl (lv_at hl 2 rfl) ?_
      refine lv_aload_n hx hb dX6_keepFirst_5 rfl (lv_at hl 0 rfl) ?_
      refine va_get (D := (dC, dI)) (ci := 7) (C := RX6) (T := TX6) (N := 5) hx hb hts hinX6 hown hK hP 0 rfl rfl 3 (by decide) (v := .int (RW_4.1 0 3)) k_fieldLink_RX6_41__KeyLetters_Rows___size___I_ (fun _ h9 => h9) rfl dX6_keepFirst_6 ?_
      refine lv_icmp_ge (tgt := 62) hx hb dX6_keepFirst_9 (by decide) (fun hb36 => ?_) (fun hb36 => ?_)
      · have hf := (if_pos hb36).symm.trans hf
        have hf := Option.some.inj hf
        subst hf
        exact c_vret hx hb hr hlocks hP hK hD hS dX6_keepFirst_62
      · have hf := (if_neg hb36).symm.trans hf
        refine lv_iload_n hx hb dX6_keepFirst_12 rfl (lv_at hl 2 rfl) ?_
        refine lv_bipush (v := 9) hx hb dX6_keepFirst_13 (by decide) ?_
        refine lv_icmp_ge (tgt := 62) hx hb dX6_keepFirst_15 (by decide) (fun hb35 => ?_) (fun hb35 => ?_)
        · have hf := (if_pos hb35).symm.trans hf
          have hf := Option.some.inj hf
          subst hf
          exact c_vret hx hb hr hlocks hP hK hD hS dX6_keepFirst_62
        · have hf := (if_neg hb35).symm.trans hf
          refine lv_iconst (v := 0) hx hb dX6_keepFirst_18 (by decide) ?_
          refine lv_istore_n (nL := 4) (lv' := [(3, .int (0 : Int32)), (0, .ref (raRW 0)), (1, .int x1_4), (2, .int x2_4)]) hx hb dX6_keepFirst_19 rfl hl (by decide) rfl (fun ls hl => ?_)
          exact h_20 x1_4 x2_4 (0 : Int32) RW_4 ls _ _ (lv_sub hl [1, 2, 3, 0] rfl) hP hD hS hf) 2000
  refine lv_iconst (v := -1) hx hb dX6_keepFirst_0 (by decide) ?_
  refine lv_istore_n (nL := 4) (lv' := [(1, .int (-1 : Int32)), (0, .ref (raRW 0))]) hx hb dX6_keepFirst_1 rfl hl (by decide) rfl (fun ls hl => ?_)
  refine lv_iconst (v := 0) hx hb dX6_keepFirst_2 (by decide) ?_
  refine lv_istore_n (nL := 4) (lv' := [(2, .int (0 : Int32)), (1, .int (-1 : Int32)), (0, .ref (raRW 0))]) hx hb dX6_keepFirst_3 rfl hl (by decide) rfl (fun ls hl => ?_)
  exact h_4 (-1 : Int32) (0 : Int32) RW ls _ _ (lv_sub hl [2, 1, 0] rfl) hP hD hS hf

def ww_X6_keepAskPlace (cs : Nat → ClassId) (ad : Nat → Nat) (raRW : Nat → Nat) (raUO : Nat) (raUF : Nat → Nat) (raVO : Nat) (raVF : Nat → Nat) (RW : kD) (UF : Nat → Nat → Int32) (VF : Nat → Nat → Int32) : va_W := (wX6 cs ad raRW raUO raVO RW ++ ([(raUO, .inl (cs 7, 9, .inr (.inr (.inr (.inr (fun j => some (raUF j)))))))] ++ (wF1x9 cs raUF UF ++ ([(raVO, .inl (cs 7, 9, .inr (.inr (.inr (.inr (fun j => some (raVF j)))))))] ++ (wF1x9 cs raVF VF)))))
abbrev rm_X6_keepAskPlace : Room := { frames := 1, cells := 0, slots := 0, locals := 40 }
set_option maxHeartbeats 4000000 in
set_option maxRecDepth 100000 in
theorem c_X6_keepAskPlace (l : Launch) (dC : Nat → ClassId) (dI : Nat → Nat → Nat) (cs : Nat → ClassId) (ad : Nat → Nat) (raRW : Nat → Nat) (raUO : Nat) (raUF : Nat → Nat) (raVO : Nat) (raVF : Nat → Nat) (sz : Nat) (RW : kD) (UF : Nat → Nat → Int32) (VF : Nat → Nat → Int32) (r : kD) (hf : f_X6_keepAskPlace RW UF VF = some r) : Met l yX6_keepAskPlace wsX6_keepAskPlace rm_X6_keepAskPlace (va_Pc [.ref (raRW 0)] (cPw dC dI cs sz (ww_X6_keepAskPlace cs ad raRW raUO raUF raVO raVF RW UF VF))) (cQv dC dI cs (va_A (ww_X6_keepAskPlace cs ad raRW raUO raUF raVO raVF zD (fun _ _ => 0) (fun _ _ => 0)) sz) (ww_X6_keepAskPlace cs ad raRW raUO raUF raVO raVF r UF VF)) 0 0 (va_A (ww_X6_keepAskPlace cs ad raRW raUO raUF raVO raVF zD (fun _ _ => 0) (fun _ _ => 0)) sz) := by
  refine Met.ofW (cc := cX6_keepAskPlace) (maxL := 5) (ret := none) (by decide) rfl ?_
  intro p e s m args below meth c s₁ B hml hv
  obtain ⟨hav, hsz, hP, hK, hD0, hN⟩ := hv
  have hx := B.exec
  have hb := B.bytes
  have hr := B.returns
  have hts := atoms_spec (ws := wsX6_keepAskPlace) B.pre
  have hown : s.vm.findClass RX6 = some m.cls := findClass_of_methodNamed B.named
  have hlocks := B.notSynchronized
  subst hsz
  have hA : ∀ q, s.heap.size ≤ q → va_A (ww_X6_keepAskPlace cs ad raRW raUO raUF raVO raVF zD (fun _ _ => 0) (fun _ _ => 0)) s.heap.size q := fun q h => Or.inr h
  have hD : va_D (va_A (ww_X6_keepAskPlace cs ad raRW raUO raUF raVO raVF zD (fun _ _ => 0) (fun _ _ => 0)) s.heap.size) (ww_X6_keepAskPlace cs ad raRW raUO raUF raVO raVF RW UF VF) := hD0.weaken (fun k q h _ => cA_in (ws := (ww_X6_keepAskPlace cs ad raRW raUO raUF raVO raVF RW UF VF)) (ws' := (ww_X6_keepAskPlace cs ad raRW raUO raUF raVO raVF zD (fun _ _ => 0) (fun _ _ => 0))) rfl h)
  have hS : va_S (va_A (ww_X6_keepAskPlace cs ad raRW raUO raUF raVO raVF zD (fun _ _ => 0) (fun _ _ => 0)) s.heap.size) s.heap s.heap [] := va_S.rf
  have hinX6 := (show ∀ w ∈ wsX60, w ∈ wsX6_keepAskPlace from fun w h => List.mem_cons_of_mem _ (List.mem_append_right _ h))
  have k_code_Lib_Math_max_name_Lib_Math_max_code_2__some__int_ := hts (.code Lib.Math.max.name Lib.Math.max.code 2 (some .int)) (List.mem_of_getElem? (i := 7) rfl)
  have k_fieldLink_RX6_11__KeyLetters_Rows___upTo_____I_ := hts (.fieldLink RX6 11 "KeyLetters$Rows" "upTo" "[[I") (List.mem_of_getElem? (i := 2) rfl)
  have k_fieldLink_RX6_16__KeyLetters_Rows___from_____I_ := hts (.fieldLink RX6 16 "KeyLetters$Rows" "from" "[[I") (List.mem_of_getElem? (i := 3) rfl)
  have k_fieldLink_RX6_23__KeyLetters_Rows___askPlace___I_ := hts (.fieldLink RX6 23 "KeyLetters$Rows" "askPlace" "I") (List.mem_of_getElem? (i := 8) rfl)
  have k_fieldLink_RX6_41__KeyLetters_Rows___size___I_ := hts (.fieldLink RX6 41 "KeyLetters$Rows" "size" "I") (List.mem_of_getElem? (i := 1) rfl)
  have k_initialized__java_lang_Math_ := hts (.initialized "java/lang/Math") (List.mem_of_getElem? (i := 6) rfl)
  have k_methodLink_RX6_50_Lib_Math_max_name := hts (.methodLink RX6 50 Lib.Math.max.name) (List.mem_of_getElem? (i := 4) rfl)
  have k_static_Lib_Math_max_name := hts (.static Lib.Math.max.name) (List.mem_of_getElem? (i := 5) rfl)
  have hl := lv_entry ([.ref (raRW 0)]) (n := 5) (Nat.le_of_ble_eq_true rfl)
  rw [show entryFrame m args 5 = entryFrame m ([.ref (raRW 0)] : List Value).toArray 5 from by rw [hav], lg_entry_eq]
  generalize (lg_sl ([.ref (raRW 0)]) ++ List.replicate (5 - (lg_sl ([.ref (raRW 0)])).length) Slot.unset).toArray = ls at hl ⊢
  have hl : lv_has ls 5 [(0, .ref (raRW 0))] := hl
  unfold f_X6_keepAskPlace at hf
  have h_4 := lp_ind (z := (fun _ _ _ => none)) (b := (g_X6_keepAskPlace_4 UF VF)) (fun (rc_4 : Int32 → Int32 → kD → Option kD) => ∀ (x1_4 : Int32) (x2_4 : Int32) (RW_4 : kD) (ls : Array Slot) (H : Heap) (locs : List Loc), lv_has ls 5 [(0, .ref (raRW 0)), (1, .int x1_4), (2, .int x2_4)] → va_P (dC, dI) vwCl (ww_X6_keepAskPlace cs ad raRW raUO raUF raVO raVF RW_4 UF VF) H → va_D (va_A (ww_X6_keepAskPlace cs ad raRW raUO raUF raVO raVF zD (fun _ _ => 0) (fun _ _ => 0)) s.heap.size) (ww_X6_keepAskPlace cs ad raRW raUO raUF raVO raVF RW_4 UF VF) → va_S (va_A (ww_X6_keepAskPlace cs ad raRW raUO raUF raVO raVF zD (fun _ _ => 0) (fun _ _ => 0)) s.heap.size) s.heap H locs → rc_4 x1_4 x2_4 RW_4 = some r → W p l e (headSpec wsX6_keepAskPlace rm_X6_keepAskPlace).room s m args below meth c H locs 0 0 (MQ below (cQv dC dI cs (va_A (ww_X6_keepAskPlace cs ad raRW raUO raUF raVO raVF zD (fun _ _ => 0) (fun _ _ => 0)) s.heap.size) (ww_X6_keepAskPlace cs ad raRW raUO raUF raVO raVF r UF VF)) args s 0 0 (va_A (ww_X6_keepAskPlace cs ad raRW raUO raUF raVO raVF zD (fun _ _ => 0) (fun _ _ => 0)) s.heap.size)) (F0 m 4 ls [])) (by
      intro x1_4 x2_4 RW_4 ls H locs hl hP hD hS hf
      cases hf) (by
      intro rc_4 ih_4 x1_4 x2_4 RW_4 ls H locs hl hP hD hS hf
      unfold g_X6_keepAskPlace_4 at hf
      have h_60 : ∀ (x1_60 : Int32) (x2_60 : Int32) (x3_60 : Int32) (RW_60 : kD) (ls : Array Slot) (H : Heap) (locs : List Loc), lv_has ls 5 [(0, .ref (raRW 0)), (1, .int x1_60), (2, .int x2_60), (3, .int x3_60)] → va_P (dC, dI) vwCl (ww_X6_keepAskPlace cs ad raRW raUO raUF raVO raVF RW_60 UF VF) H → va_D (va_A (ww_X6_keepAskPlace cs ad raRW raUO raUF raVO raVF zD (fun _ _ => 0) (fun _ _ => 0)) s.heap.size) (ww_X6_keepAskPlace cs ad raRW raUO raUF raVO raVF RW_60 UF VF) → va_S (va_A (ww_X6_keepAskPlace cs ad raRW raUO raUF raVO raVF zD (fun _ _ => 0) (fun _ _ => 0)) s.heap.size) s.heap H locs → g_X6_keepAskPlace_60 rc_4 UF VF x1_60 x2_60 x3_60 RW_60 = some r → W p l e (headSpec wsX6_keepAskPlace rm_X6_keepAskPlace).room s m args below meth c H locs 0 0 (MQ below (cQv dC dI cs (va_A (ww_X6_keepAskPlace cs ad raRW raUO raUF raVO raVF zD (fun _ _ => 0) (fun _ _ => 0)) s.heap.size) (ww_X6_keepAskPlace cs ad raRW raUO raUF raVO raVF r UF VF)) args s 0 0 (va_A (ww_X6_keepAskPlace cs ad raRW raUO raUF raVO raVF zD (fun _ _ => 0) (fun _ _ => 0)) s.heap.size)) (F0 m 60 ls []) := by
        intro x1_60 x2_60 x3_60 RW_60 ls H locs hl hP hD hS hf
        unfold g_X6_keepAskPlace_60 at hf
        have h_76 : ∀ (x1_76 : Int32) (x2_76 : Int32) (RW_76 : kD) (ls : Array Slot) (H : Heap) (locs : List Loc), lv_has ls 5 [(0, .ref (raRW 0)), (1, .int x1_76), (2, .int x2_76)] → va_P (dC, dI) vwCl (ww_X6_keepAskPlace cs ad raRW raUO raUF raVO raVF RW_76 UF VF) H → va_D (va_A (ww_X6_keepAskPlace cs ad raRW raUO raUF raVO raVF zD (fun _ _ => 0) (fun _ _ => 0)) s.heap.size) (ww_X6_keepAskPlace cs ad raRW raUO raUF raVO raVF RW_76 UF VF) → va_S (va_A (ww_X6_keepAskPlace cs ad raRW raUO raUF raVO raVF zD (fun _ _ => 0) (fun _ _ => 0)) s.heap.size) s.heap H locs → g_X6_keepAskPlace_76 rc_4 UF VF x1_76 x2_76 RW_76 = some r → W p l e (headSpec wsX6_keepAskPlace rm_X6_keepAskPlace).room s m args below meth c H locs 0 0 (MQ below (cQv dC dI cs (va_A (ww_X6_keepAskPlace cs ad raRW raUO raUF raVO raVF zD (fun _ _ => 0) (fun _ _ => 0)) s.heap.size) (ww_X6_keepAskPlace cs ad raRW raUO raUF raVO raVF r UF VF)) args s 0 0 (va_A (ww_X6_keepAskPlace cs ad raRW raUO raUF raVO raVF zD (fun _ _ => 0) (fun _ _ => 0)) s.heap.size)) (F0 m 76 ls []) := by
          intro x1_76 x2_76 RW_76 ls H locs hl hP hD hS hf
          unfold g_X6_keepAskPlace_76 at hf
          obtain ⟨v1, ev1, hf⟩ := bd1_e hf
          refine lv_iinc (k := 2) (x := x2_76) (v := v1) (nL := 5) (lv' := [(2, .int v1), (0, .ref (raRW 0)), (1, .int x1_76)]) hx hb dX6_keepAskPlace_76 hl rfl (kt_inc (w := 1) (by decide) ev1) (by decide) rfl (fun ls hl => ?_)
          refine lv_goto (tgt := 4) hx hb dX6_keepAskPlace_79 (by decide) ?_
          exact ih_4 x1_76 v1 RW_76 ls _ _ (lv_sub hl [1, 2, 0] rfl) hP hD hS hf
        have h_69 : ∀ (x2_69 : Int32) (x3_69 : Int32) (RW_69 : kD) (ls : Array Slot) (H : Heap) (locs : List Loc), lv_has ls 5 [(0, .ref (raRW 0)), (2, .int x2_69), (3, .int x3_69)] → va_P (dC, dI) vwCl (ww_X6_keepAskPlace cs ad raRW raUO raUF raVO raVF RW_69 UF VF) H → va_D (va_A (ww_X6_keepAskPlace cs ad raRW raUO raUF raVO raVF zD (fun _ _ => 0) (fun _ _ => 0)) s.heap.size) (ww_X6_keepAskPlace cs ad raRW raUO raUF raVO raVF RW_69 UF VF) → va_S (va_A (ww_X6_keepAskPlace cs ad raRW raUO raUF raVO raVF zD (fun _ _ => 0) (fun _ _ => 0)) s.heap.size) s.heap H locs → g_X6_keepAskPlace_69 rc_4 UF VF x2_69 x3_69 RW_69 = some r → W p l e (headSpec wsX6_keepAskPlace rm_X6_keepAskPlace).room s m args below meth c H locs 0 0 (MQ below (cQv dC dI cs (va_A (ww_X6_keepAskPlace cs ad raRW raUO raUF raVO raVF zD (fun _ _ => 0) (fun _ _ => 0)) s.heap.size) (ww_X6_keepAskPlace cs ad raRW raUO raUF raVO raVF r UF VF)) args s 0 0 (va_A (ww_X6_keepAskPlace cs ad raRW raUO raUF raVO raVF zD (fun _ _ => 0) (fun _ _ => 0)) s.heap.size)) (F0 m 69 ls []) := by
          intro x2_69 x3_69 RW_69 ls H locs hl hP hD hS hf
          unfold g_X6_keepAskPlace_69 at hf
          refine lv_iload_n hx hb dX6_keepAskPlace_69 rfl (lv_at hl 2 rfl) ?_
          refine lv_istore_n (nL := 5) (lv' := [(1, .int x3_69), (0, .ref (raRW 0)), (2, .int x2_69), (3, .int x3_69)]) hx hb dX6_keepAskPlace_70 rfl hl (by decide) rfl (fun ls hl => ?_)
          refine lv_aload_n hx hb dX6_keepAskPlace_71 rfl (lv_at hl 1 rfl) ?_
          refine lv_iload_n hx hb dX6_keepAskPlace_72 rfl (lv_at hl 2 rfl) ?_
          obtain ⟨RWv2, eRWv2, hf⟩ := bd1_e hf
          refine g_put (D := (dC, dI)) (ci := 7) (C := RX6) (T := TX6) (N := 5) hx hb hts hinX6 tyX6 tyX6_ok nmX6 hown hK hP hD hS 0 rfl rfl 4 (by decide) k_fieldLink_RX6_23__KeyLetters_Rows___askPlace___I_ (fun _ h9 => h9) rfl (ty := .int) (v := .int x2_69) (by decide +kernel) rfl rfl (Nat.le_of_ble_eq_true rfl) (ws' := (ww_X6_keepAskPlace cs ad raRW raUO raUF raVO raVF RWv2 UF VF)) (by rw [eRWv2]; rfl) dX6_keepAskPlace_73 (fun H locs hP hD hS => ?_)
          exact h_76 x3_69 x2_69 RWv2 ls _ _ (lv_sub hl [1, 0, 2] rfl) hP hD hS hf
        refine lv_iload_n hx hb dX6_keepAskPlace_60 rfl (lv_at hl 2 rfl) ?_
        refine lv_if_eq (tgt := 69) hx hb dX6_keepAskPlace_61 (by decide) (fun hb4 => ?_) (fun hb4 => ?_)
        · have hf := (if_pos hb4).symm.trans hf
          exact h_69 x2_60 x3_60 RW_60 ls _ _ (lv_sub hl [0, 2, 3] rfl) hP hD hS hf
        · have hf := (if_neg hb4).symm.trans hf
          refine lv_iload_n hx hb dX6_keepAskPlace_64 rfl (lv_at hl 3 rfl) ?_
          refine lv_iload_n hx hb dX6_keepAskPlace_65 rfl (lv_at hl 1 rfl) ?_
          refine lv_icmp_ge (tgt := 76) hx hb dX6_keepAskPlace_66 (by decide) (fun hb3 => ?_) (fun hb3 => ?_)
          · have hf := (if_pos hb3).symm.trans hf
            exact h_76 x1_60 x2_60 RW_60 ls _ _ (lv_sub hl [0, 1, 2] rfl) hP hD hS hf
          · have hf := (if_neg hb3).symm.trans hf
            exact h_69 x2_60 x3_60 RW_60 ls _ _ (lv_sub hl [0, 2, 3] rfl) hP hD hS hf
      have h_23 := lp_ind (z := (fun _ _ _ _ _ => none)) (b := (g_X6_keepAskPlace_23 rc_4 UF VF)) (fun (rc_23 : Int32 → Int32 → Int32 → Int32 → kD → Option kD) => ∀ (x1_23 : Int32) (x2_23 : Int32) (x3_23 : Int32) (x4_23 : Int32) (RW_23 : kD) (ls : Array Slot) (H : Heap) (locs : List Loc), lv_has ls 5 [(0, .ref (raRW 0)), (1, .int x1_23), (2, .int x2_23), (3, .int x3_23), (4, .int x4_23)] → va_P (dC, dI) vwCl (ww_X6_keepAskPlace cs ad raRW raUO raUF raVO raVF RW_23 UF VF) H → va_D (va_A (ww_X6_keepAskPlace cs ad raRW raUO raUF raVO raVF zD (fun _ _ => 0) (fun _ _ => 0)) s.heap.size) (ww_X6_keepAskPlace cs ad raRW raUO raUF raVO raVF RW_23 UF VF) → va_S (va_A (ww_X6_keepAskPlace cs ad raRW raUO raUF raVO raVF zD (fun _ _ => 0) (fun _ _ => 0)) s.heap.size) s.heap H locs → rc_23 x1_23 x2_23 x3_23 x4_23 RW_23 = some r → W p l e (headSpec wsX6_keepAskPlace rm_X6_keepAskPlace).room s m args below meth c H locs 0 0 (MQ below (cQv dC dI cs (va_A (ww_X6_keepAskPlace cs ad raRW raUO raUF raVO raVF zD (fun _ _ => 0) (fun _ _ => 0)) s.heap.size) (ww_X6_keepAskPlace cs ad raRW raUO raUF raVO raVF r UF VF)) args s 0 0 (va_A (ww_X6_keepAskPlace cs ad raRW raUO raUF raVO raVF zD (fun _ _ => 0) (fun _ _ => 0)) s.heap.size)) (F0 m 23 ls [])) (by
          intro x1_23 x2_23 x3_23 x4_23 RW_23 ls H locs hl hP hD hS hf
          cases hf) (by
          intro rc_23 ih_23 x1_23 x2_23 x3_23 x4_23 RW_23 ls H locs hl hP hD hS hf
          unfold g_X6_keepAskPlace_23 at hf
          refine lv_iload hx hb dX6_keepAskPlace_23 (lv_at hl 4 rfl) ?_
          refine lv_bipush (v := 6) hx hb dX6_keepAskPlace_25 (by decide) ?_
          refine lv_icmp_ge (tgt := 60) hx hb dX6_keepAskPlace_27 (by decide) (fun hb60 => ?_) (fun hb60 => ?_)
          · have hf := (if_pos hb60).symm.trans hf
            exact h_60 x1_23 x2_23 x3_23 RW_23 ls _ _ (lv_sub hl [0, 1, 2, 3] rfl) hP hD hS hf
          · have hf := (if_neg hb60).symm.trans hf
            refine lv_iload_n hx hb dX6_keepAskPlace_30 rfl (lv_at hl 3 rfl) ?_
            refine lv_aload_n hx hb dX6_keepAskPlace_31 rfl (lv_at hl 0 rfl) ?_
            refine va_get (D := (dC, dI)) (ci := 7) (C := RX6) (T := TX6) (N := 5) hx hb hts hinX6 hown hK hP 0 rfl rfl 0 (by decide) (v := .ref raUO) k_fieldLink_RX6_11__KeyLetters_Rows___upTo_____I_ (fun _ h9 => h9) rfl dX6_keepAskPlace_32 ?_
            refine lv_iload_n hx hb dX6_keepAskPlace_35 rfl (lv_at hl 2 rfl) ?_
            obtain ⟨hc5, hf⟩ := ck_e hf
            refine g_aldqA (f := fun j => some (raUF j)) hx hb hK hP 2 7 rfl rfl hc5 dX6_keepAskPlace_36 ?_
            refine kt_v (show va_rf (some (raUF x2_23.toNatClampNeg)) = Value.ref (raUF x2_23.toNatClampNeg) from rfl) ?_
            refine lv_iload hx hb dX6_keepAskPlace_37 (lv_at hl 4 rfl) ?_
            by_cases hs6 : x2_23 = 0
            · have hf := (if_pos hs6).symm.trans hf
              rw [show raUF x2_23.toNatClampNeg = raUF 0 from congrArg raUF (by rw [hs6]; rfl)]
              obtain ⟨hc7, hf⟩ := ck_e hf
              refine va_iald hx hb hK hP 3 1 rfl rfl hc7 dX6_keepAskPlace_39 ?_
              refine lv_aload_n hx hb dX6_keepAskPlace_40 rfl (lv_at hl 0 rfl) ?_
              refine va_get (D := (dC, dI)) (ci := 7) (C := RX6) (T := TX6) (N := 5) hx hb hts hinX6 hown hK hP 0 rfl rfl 1 (by decide) (v := .ref raVO) k_fieldLink_RX6_16__KeyLetters_Rows___from_____I_ (fun _ h9 => h9) rfl dX6_keepAskPlace_41 ?_
              refine lv_iload_n hx hb dX6_keepAskPlace_44 rfl (lv_at hl 2 rfl) ?_
              obtain ⟨hc8, hf⟩ := ck_e hf
              refine g_aldqA (f := fun j => some (raVF j)) hx hb hK hP 12 7 rfl rfl hc8 dX6_keepAskPlace_45 ?_
              refine kt_v (show va_rf (some (raVF x2_23.toNatClampNeg)) = Value.ref (raVF x2_23.toNatClampNeg) from rfl) ?_
              refine lv_iload hx hb dX6_keepAskPlace_46 (lv_at hl 4 rfl) ?_
              rw [show raVF x2_23.toNatClampNeg = raVF 0 from congrArg raVF (by rw [hs6]; rfl)]
              obtain ⟨hc9, hf⟩ := ck_e hf
              refine va_iald hx hb hK hP 13 1 rfl rfl hc9 dX6_keepAskPlace_48 ?_
              refine lv_imul hx hb dX6_keepAskPlace_49 ?_
              refine va_mmax hx hb (hml.trans hl.1.symm) hown k_methodLink_RX6_50_Lib_Math_max_name k_static_Lib_Math_max_name k_initialized__java_lang_Math_ k_code_Lib_Math_max_name_Lib_Math_max_code_2__some__int_ (Nat.le_of_ble_eq_true rfl) (Nat.le_of_ble_eq_true rfl) (Nat.zero_le _) (Nat.zero_le _) dX6_keepAskPlace_50 ?_
              obtain ⟨v10, ev10, hf⟩ := bd1_e hf
              refine kt_i ev10 ?_
              refine lv_istore_n (nL := 5) (lv' := [(3, .int v10), (0, .ref (raRW 0)), (1, .int x1_23), (2, .int x2_23), (4, .int x4_23)]) hx hb dX6_keepAskPlace_53 rfl hl (by decide) rfl (fun ls hl => ?_)
              obtain ⟨v11, ev11, hf⟩ := bd1_e hf
              refine lv_iinc (k := 4) (x := x4_23) (v := v11) (nL := 5) (lv' := [(4, .int v11), (3, .int v10), (0, .ref (raRW 0)), (1, .int x1_23), (2, .int x2_23)]) hx hb dX6_keepAskPlace_54 hl rfl (kt_inc (w := 1) (by decide) ev11) (by decide) rfl (fun ls hl => ?_)
              refine lv_goto (tgt := 23) hx hb dX6_keepAskPlace_57 (by decide) ?_
              exact ih_23 x1_23 x2_23 v10 v11 RW_23 ls _ _ (lv_sub hl [2, 3, 4, 1, 0] rfl) hP hD hS hf
            have hf := (if_neg hs6).symm.trans hf
            by_cases hs12 : x2_23 = 1
            · have hf := (if_pos hs12).symm.trans hf
              rw [show raUF x2_23.toNatClampNeg = raUF 1 from congrArg raUF (by rw [hs12]; rfl)]
              obtain ⟨hc13, hf⟩ := ck_e hf
              refine va_iald hx hb hK hP 4 1 rfl rfl hc13 dX6_keepAskPlace_39 ?_
              refine lv_aload_n hx hb dX6_keepAskPlace_40 rfl (lv_at hl 0 rfl) ?_
              refine va_get (D := (dC, dI)) (ci := 7) (C := RX6) (T := TX6) (N := 5) hx hb hts hinX6 hown hK hP 0 rfl rfl 1 (by decide) (v := .ref raVO) k_fieldLink_RX6_16__KeyLetters_Rows___from_____I_ (fun _ h9 => h9) rfl dX6_keepAskPlace_41 ?_
              refine lv_iload_n hx hb dX6_keepAskPlace_44 rfl (lv_at hl 2 rfl) ?_
              obtain ⟨hc14, hf⟩ := ck_e hf
              refine g_aldqA (f := fun j => some (raVF j)) hx hb hK hP 12 7 rfl rfl hc14 dX6_keepAskPlace_45 ?_
              refine kt_v (show va_rf (some (raVF x2_23.toNatClampNeg)) = Value.ref (raVF x2_23.toNatClampNeg) from rfl) ?_
              refine lv_iload hx hb dX6_keepAskPlace_46 (lv_at hl 4 rfl) ?_
              rw [show raVF x2_23.toNatClampNeg = raVF 1 from congrArg raVF (by rw [hs12]; rfl)]
              obtain ⟨hc15, hf⟩ := ck_e hf
              refine va_iald hx hb hK hP 14 1 rfl rfl hc15 dX6_keepAskPlace_48 ?_
              refine lv_imul hx hb dX6_keepAskPlace_49 ?_
              refine va_mmax hx hb (hml.trans hl.1.symm) hown k_methodLink_RX6_50_Lib_Math_max_name k_static_Lib_Math_max_name k_initialized__java_lang_Math_ k_code_Lib_Math_max_name_Lib_Math_max_code_2__some__int_ (Nat.le_of_ble_eq_true rfl) (Nat.le_of_ble_eq_true rfl) (Nat.zero_le _) (Nat.zero_le _) dX6_keepAskPlace_50 ?_
              obtain ⟨v16, ev16, hf⟩ := bd1_e hf
              refine kt_i ev16 ?_
              refine lv_istore_n (nL := 5) (lv' := [(3, .int v16), (0, .ref (raRW 0)), (1, .int x1_23), (2, .int x2_23), (4, .int x4_23)]) hx hb dX6_keepAskPlace_53 rfl hl (by decide) rfl (fun ls hl => ?_)
              obtain ⟨v17, ev17, hf⟩ := bd1_e hf
              refine lv_iinc (k := 4) (x := x4_23) (v := v17) (nL := 5) (lv' := [(4, .int v17), (3, .int v16), (0, .ref (raRW 0)), (1, .int x1_23), (2, .int x2_23)]) hx hb dX6_keepAskPlace_54 hl rfl (kt_inc (w := 1) (by decide) ev17) (by decide) rfl (fun ls hl => ?_)
              refine lv_goto (tgt := 23) hx hb dX6_keepAskPlace_57 (by decide) ?_
              exact ih_23 x1_23 x2_23 v16 v17 RW_23 ls _ _ (lv_sub hl [2, 3, 4, 1, 0] rfl) hP hD hS hf
            have hf := (if_neg hs12).symm.trans hf
            by_cases hs18 : x2_23 = 2
            · have hf := (if_pos hs18).symm.trans hf
              rw [show raUF x2_23.toNatClampNeg = raUF 2 from congrArg raUF (by rw [hs18]; rfl)]
              obtain ⟨hc19, hf⟩ := ck_e hf
              refine va_iald hx hb hK hP 5 1 rfl rfl hc19 dX6_keepAskPlace_39 ?_
              refine lv_aload_n hx hb dX6_keepAskPlace_40 rfl (lv_at hl 0 rfl) ?_
              refine va_get (D := (dC, dI)) (ci := 7) (C := RX6) (T := TX6) (N := 5) hx hb hts hinX6 hown hK hP 0 rfl rfl 1 (by decide) (v := .ref raVO) k_fieldLink_RX6_16__KeyLetters_Rows___from_____I_ (fun _ h9 => h9) rfl dX6_keepAskPlace_41 ?_
              refine lv_iload_n hx hb dX6_keepAskPlace_44 rfl (lv_at hl 2 rfl) ?_
              obtain ⟨hc20, hf⟩ := ck_e hf
              refine g_aldqA (f := fun j => some (raVF j)) hx hb hK hP 12 7 rfl rfl hc20 dX6_keepAskPlace_45 ?_
              refine kt_v (show va_rf (some (raVF x2_23.toNatClampNeg)) = Value.ref (raVF x2_23.toNatClampNeg) from rfl) ?_
              refine lv_iload hx hb dX6_keepAskPlace_46 (lv_at hl 4 rfl) ?_
              rw [show raVF x2_23.toNatClampNeg = raVF 2 from congrArg raVF (by rw [hs18]; rfl)]
              obtain ⟨hc21, hf⟩ := ck_e hf
              refine va_iald hx hb hK hP 15 1 rfl rfl hc21 dX6_keepAskPlace_48 ?_
              refine lv_imul hx hb dX6_keepAskPlace_49 ?_
              refine va_mmax hx hb (hml.trans hl.1.symm) hown k_methodLink_RX6_50_Lib_Math_max_name k_static_Lib_Math_max_name k_initialized__java_lang_Math_ k_code_Lib_Math_max_name_Lib_Math_max_code_2__some__int_ (Nat.le_of_ble_eq_true rfl) (Nat.le_of_ble_eq_true rfl) (Nat.zero_le _) (Nat.zero_le _) dX6_keepAskPlace_50 ?_
              obtain ⟨v22, ev22, hf⟩ := bd1_e hf
              refine kt_i ev22 ?_
              refine lv_istore_n (nL := 5) (lv' := [(3, .int v22), (0, .ref (raRW 0)), (1, .int x1_23), (2, .int x2_23), (4, .int x4_23)]) hx hb dX6_keepAskPlace_53 rfl hl (by decide) rfl (fun ls hl => ?_)
              obtain ⟨v23, ev23, hf⟩ := bd1_e hf
              refine lv_iinc (k := 4) (x := x4_23) (v := v23) (nL := 5) (lv' := [(4, .int v23), (3, .int v22), (0, .ref (raRW 0)), (1, .int x1_23), (2, .int x2_23)]) hx hb dX6_keepAskPlace_54 hl rfl (kt_inc (w := 1) (by decide) ev23) (by decide) rfl (fun ls hl => ?_)
              refine lv_goto (tgt := 23) hx hb dX6_keepAskPlace_57 (by decide) ?_
              exact ih_23 x1_23 x2_23 v22 v23 RW_23 ls _ _ (lv_sub hl [2, 3, 4, 1, 0] rfl) hP hD hS hf
            have hf := (if_neg hs18).symm.trans hf
            by_cases hs24 : x2_23 = 3
            · have hf := (if_pos hs24).symm.trans hf
              rw [show raUF x2_23.toNatClampNeg = raUF 3 from congrArg raUF (by rw [hs24]; rfl)]
              obtain ⟨hc25, hf⟩ := ck_e hf
              refine va_iald hx hb hK hP 6 1 rfl rfl hc25 dX6_keepAskPlace_39 ?_
              refine lv_aload_n hx hb dX6_keepAskPlace_40 rfl (lv_at hl 0 rfl) ?_
              refine va_get (D := (dC, dI)) (ci := 7) (C := RX6) (T := TX6) (N := 5) hx hb hts hinX6 hown hK hP 0 rfl rfl 1 (by decide) (v := .ref raVO) k_fieldLink_RX6_16__KeyLetters_Rows___from_____I_ (fun _ h9 => h9) rfl dX6_keepAskPlace_41 ?_
              refine lv_iload_n hx hb dX6_keepAskPlace_44 rfl (lv_at hl 2 rfl) ?_
              obtain ⟨hc26, hf⟩ := ck_e hf
              refine g_aldqA (f := fun j => some (raVF j)) hx hb hK hP 12 7 rfl rfl hc26 dX6_keepAskPlace_45 ?_
              refine kt_v (show va_rf (some (raVF x2_23.toNatClampNeg)) = Value.ref (raVF x2_23.toNatClampNeg) from rfl) ?_
              refine lv_iload hx hb dX6_keepAskPlace_46 (lv_at hl 4 rfl) ?_
              rw [show raVF x2_23.toNatClampNeg = raVF 3 from congrArg raVF (by rw [hs24]; rfl)]
              obtain ⟨hc27, hf⟩ := ck_e hf
              refine va_iald hx hb hK hP 16 1 rfl rfl hc27 dX6_keepAskPlace_48 ?_
              refine lv_imul hx hb dX6_keepAskPlace_49 ?_
              refine va_mmax hx hb (hml.trans hl.1.symm) hown k_methodLink_RX6_50_Lib_Math_max_name k_static_Lib_Math_max_name k_initialized__java_lang_Math_ k_code_Lib_Math_max_name_Lib_Math_max_code_2__some__int_ (Nat.le_of_ble_eq_true rfl) (Nat.le_of_ble_eq_true rfl) (Nat.zero_le _) (Nat.zero_le _) dX6_keepAskPlace_50 ?_
              obtain ⟨v28, ev28, hf⟩ := bd1_e hf
              refine kt_i ev28 ?_
              refine lv_istore_n (nL := 5) (lv' := [(3, .int v28), (0, .ref (raRW 0)), (1, .int x1_23), (2, .int x2_23), (4, .int x4_23)]) hx hb dX6_keepAskPlace_53 rfl hl (by decide) rfl (fun ls hl => ?_)
              obtain ⟨v29, ev29, hf⟩ := bd1_e hf
              refine lv_iinc (k := 4) (x := x4_23) (v := v29) (nL := 5) (lv' := [(4, .int v29), (3, .int v28), (0, .ref (raRW 0)), (1, .int x1_23), (2, .int x2_23)]) hx hb dX6_keepAskPlace_54 hl rfl (kt_inc (w := 1) (by decide) ev29) (by decide) rfl (fun ls hl => ?_)
              refine lv_goto (tgt := 23) hx hb dX6_keepAskPlace_57 (by decide) ?_
              exact ih_23 x1_23 x2_23 v28 v29 RW_23 ls _ _ (lv_sub hl [2, 3, 4, 1, 0] rfl) hP hD hS hf
            have hf := (if_neg hs24).symm.trans hf
            by_cases hs30 : x2_23 = 4
            · have hf := (if_pos hs30).symm.trans hf
              rw [show raUF x2_23.toNatClampNeg = raUF 4 from congrArg raUF (by rw [hs30]; rfl)]
              obtain ⟨hc31, hf⟩ := ck_e hf
              refine va_iald hx hb hK hP 7 1 rfl rfl hc31 dX6_keepAskPlace_39 ?_
              refine lv_aload_n hx hb dX6_keepAskPlace_40 rfl (lv_at hl 0 rfl) ?_
              refine va_get (D := (dC, dI)) (ci := 7) (C := RX6) (T := TX6) (N := 5) hx hb hts hinX6 hown hK hP 0 rfl rfl 1 (by decide) (v := .ref raVO) k_fieldLink_RX6_16__KeyLetters_Rows___from_____I_ (fun _ h9 => h9) rfl dX6_keepAskPlace_41 ?_
              refine lv_iload_n hx hb dX6_keepAskPlace_44 rfl (lv_at hl 2 rfl) ?_
              obtain ⟨hc32, hf⟩ := ck_e hf
              refine g_aldqA (f := fun j => some (raVF j)) hx hb hK hP 12 7 rfl rfl hc32 dX6_keepAskPlace_45 ?_
              refine kt_v (show va_rf (some (raVF x2_23.toNatClampNeg)) = Value.ref (raVF x2_23.toNatClampNeg) from rfl) ?_
              refine lv_iload hx hb dX6_keepAskPlace_46 (lv_at hl 4 rfl) ?_
              rw [show raVF x2_23.toNatClampNeg = raVF 4 from congrArg raVF (by rw [hs30]; rfl)]
              obtain ⟨hc33, hf⟩ := ck_e hf
              refine va_iald hx hb hK hP 17 1 rfl rfl hc33 dX6_keepAskPlace_48 ?_
              refine lv_imul hx hb dX6_keepAskPlace_49 ?_
              refine va_mmax hx hb (hml.trans hl.1.symm) hown k_methodLink_RX6_50_Lib_Math_max_name k_static_Lib_Math_max_name k_initialized__java_lang_Math_ k_code_Lib_Math_max_name_Lib_Math_max_code_2__some__int_ (Nat.le_of_ble_eq_true rfl) (Nat.le_of_ble_eq_true rfl) (Nat.zero_le _) (Nat.zero_le _) dX6_keepAskPlace_50 ?_
              obtain ⟨v34, ev34, hf⟩ := bd1_e hf
              refine kt_i ev34 ?_
              refine lv_istore_n (nL := 5) (lv' := [(3, .int v34), (0, .ref (raRW 0)), (1, .int x1_23), (2, .int x2_23), (4, .int x4_23)]) hx hb dX6_keepAskPlace_53 rfl hl (by decide) rfl (fun ls hl => ?_)
              obtain ⟨v35, ev35, hf⟩ := bd1_e hf
              refine lv_iinc (k := 4) (x := x4_23) (v := v35) (nL := 5) (lv' := [(4, .int v35), (3, .int v34), (0, .ref (raRW 0)), (1, .int x1_23), (2, .int x2_23)]) hx hb dX6_keepAskPlace_54 hl rfl (kt_inc (w := 1) (by decide) ev35) (by decide) rfl (fun ls hl => ?_)
              refine lv_goto (tgt := 23) hx hb dX6_keepAskPlace_57 (by decide) ?_
              exact ih_23 x1_23 x2_23 v34 v35 RW_23 ls _ _ (lv_sub hl [2, 3, 4, 1, 0] rfl) hP hD hS hf
            have hf := (if_neg hs30).symm.trans hf
            by_cases hs36 : x2_23 = 5
            · have hf := (if_pos hs36).symm.trans hf
              rw [show raUF x2_23.toNatClampNeg = raUF 5 from congrArg raUF (by rw [hs36]; rfl)]
              obtain ⟨hc37, hf⟩ := ck_e hf
              refine va_iald hx hb hK hP 8 1 rfl rfl hc37 dX6_keepAskPlace_39 ?_
              refine lv_aload_n hx hb dX6_keepAskPlace_40 rfl (lv_at hl 0 rfl) ?_
              refine va_get (D := (dC, dI)) (ci := 7) (C := RX6) (T := TX6) (N := 5) hx hb hts hinX6 hown hK hP 0 rfl rfl 1 (by decide) (v := .ref raVO) k_fieldLink_RX6_16__KeyLetters_Rows___from_____I_ (fun _ h9 => h9) rfl dX6_keepAskPlace_41 ?_
              refine lv_iload_n hx hb dX6_keepAskPlace_44 rfl (lv_at hl 2 rfl) ?_
              obtain ⟨hc38, hf⟩ := ck_e hf
              refine g_aldqA (f := fun j => some (raVF j)) hx hb hK hP 12 7 rfl rfl hc38 dX6_keepAskPlace_45 ?_
              refine kt_v (show va_rf (some (raVF x2_23.toNatClampNeg)) = Value.ref (raVF x2_23.toNatClampNeg) from rfl) ?_
              refine lv_iload hx hb dX6_keepAskPlace_46 (lv_at hl 4 rfl) ?_
              rw [show raVF x2_23.toNatClampNeg = raVF 5 from congrArg raVF (by rw [hs36]; rfl)]
              obtain ⟨hc39, hf⟩ := ck_e hf
              refine va_iald hx hb hK hP 18 1 rfl rfl hc39 dX6_keepAskPlace_48 ?_
              refine lv_imul hx hb dX6_keepAskPlace_49 ?_
              refine va_mmax hx hb (hml.trans hl.1.symm) hown k_methodLink_RX6_50_Lib_Math_max_name k_static_Lib_Math_max_name k_initialized__java_lang_Math_ k_code_Lib_Math_max_name_Lib_Math_max_code_2__some__int_ (Nat.le_of_ble_eq_true rfl) (Nat.le_of_ble_eq_true rfl) (Nat.zero_le _) (Nat.zero_le _) dX6_keepAskPlace_50 ?_
              obtain ⟨v40, ev40, hf⟩ := bd1_e hf
              refine kt_i ev40 ?_
              refine lv_istore_n (nL := 5) (lv' := [(3, .int v40), (0, .ref (raRW 0)), (1, .int x1_23), (2, .int x2_23), (4, .int x4_23)]) hx hb dX6_keepAskPlace_53 rfl hl (by decide) rfl (fun ls hl => ?_)
              obtain ⟨v41, ev41, hf⟩ := bd1_e hf
              refine lv_iinc (k := 4) (x := x4_23) (v := v41) (nL := 5) (lv' := [(4, .int v41), (3, .int v40), (0, .ref (raRW 0)), (1, .int x1_23), (2, .int x2_23)]) hx hb dX6_keepAskPlace_54 hl rfl (kt_inc (w := 1) (by decide) ev41) (by decide) rfl (fun ls hl => ?_)
              refine lv_goto (tgt := 23) hx hb dX6_keepAskPlace_57 (by decide) ?_
              exact ih_23 x1_23 x2_23 v40 v41 RW_23 ls _ _ (lv_sub hl [2, 3, 4, 1, 0] rfl) hP hD hS hf
            have hf := (if_neg hs36).symm.trans hf
            by_cases hs42 : x2_23 = 6
            · have hf := (if_pos hs42).symm.trans hf
              rw [show raUF x2_23.toNatClampNeg = raUF 6 from congrArg raUF (by rw [hs42]; rfl)]
              obtain ⟨hc43, hf⟩ := ck_e hf
              refine va_iald hx hb hK hP 9 1 rfl rfl hc43 dX6_keepAskPlace_39 ?_
              refine lv_aload_n hx hb dX6_keepAskPlace_40 rfl (lv_at hl 0 rfl) ?_
              refine va_get (D := (dC, dI)) (ci := 7) (C := RX6) (T := TX6) (N := 5) hx hb hts hinX6 hown hK hP 0 rfl rfl 1 (by decide) (v := .ref raVO) k_fieldLink_RX6_16__KeyLetters_Rows___from_____I_ (fun _ h9 => h9) rfl dX6_keepAskPlace_41 ?_
              refine lv_iload_n hx hb dX6_keepAskPlace_44 rfl (lv_at hl 2 rfl) ?_
              obtain ⟨hc44, hf⟩ := ck_e hf
              refine g_aldqA (f := fun j => some (raVF j)) hx hb hK hP 12 7 rfl rfl hc44 dX6_keepAskPlace_45 ?_
              refine kt_v (show va_rf (some (raVF x2_23.toNatClampNeg)) = Value.ref (raVF x2_23.toNatClampNeg) from rfl) ?_
              refine lv_iload hx hb dX6_keepAskPlace_46 (lv_at hl 4 rfl) ?_
              rw [show raVF x2_23.toNatClampNeg = raVF 6 from congrArg raVF (by rw [hs42]; rfl)]
              obtain ⟨hc45, hf⟩ := ck_e hf
              refine va_iald hx hb hK hP 19 1 rfl rfl hc45 dX6_keepAskPlace_48 ?_
              refine lv_imul hx hb dX6_keepAskPlace_49 ?_
              refine va_mmax hx hb (hml.trans hl.1.symm) hown k_methodLink_RX6_50_Lib_Math_max_name k_static_Lib_Math_max_name k_initialized__java_lang_Math_ k_code_Lib_Math_max_name_Lib_Math_max_code_2__some__int_ (Nat.le_of_ble_eq_true rfl) (Nat.le_of_ble_eq_true rfl) (Nat.zero_le _) (Nat.zero_le _) dX6_keepAskPlace_50 ?_
              obtain ⟨v46, ev46, hf⟩ := bd1_e hf
              refine kt_i ev46 ?_
              refine lv_istore_n (nL := 5) (lv' := [(3, .int v46), (0, .ref (raRW 0)), (1, .int x1_23), (2, .int x2_23), (4, .int x4_23)]) hx hb dX6_keepAskPlace_53 rfl hl (by decide) rfl (fun ls hl => ?_)
              obtain ⟨v47, ev47, hf⟩ := bd1_e hf
              refine lv_iinc (k := 4) (x := x4_23) (v := v47) (nL := 5) (lv' := [(4, .int v47), (3, .int v46), (0, .ref (raRW 0)), (1, .int x1_23), (2, .int x2_23)]) hx hb dX6_keepAskPlace_54 hl rfl (kt_inc (w := 1) (by decide) ev47) (by decide) rfl (fun ls hl => ?_)
              refine lv_goto (tgt := 23) hx hb dX6_keepAskPlace_57 (by decide) ?_
              exact ih_23 x1_23 x2_23 v46 v47 RW_23 ls _ _ (lv_sub hl [2, 3, 4, 1, 0] rfl) hP hD hS hf
            have hf := (if_neg hs42).symm.trans hf
            by_cases hs48 : x2_23 = 7
            · have hf := (if_pos hs48).symm.trans hf
              rw [show raUF x2_23.toNatClampNeg = raUF 7 from congrArg raUF (by rw [hs48]; rfl)]
              obtain ⟨hc49, hf⟩ := ck_e hf
              refine va_iald hx hb hK hP 10 1 rfl rfl hc49 dX6_keepAskPlace_39 ?_
              refine lv_aload_n hx hb dX6_keepAskPlace_40 rfl (lv_at hl 0 rfl) ?_
              refine va_get (D := (dC, dI)) (ci := 7) (C := RX6) (T := TX6) (N := 5) hx hb hts hinX6 hown hK hP 0 rfl rfl 1 (by decide) (v := .ref raVO) k_fieldLink_RX6_16__KeyLetters_Rows___from_____I_ (fun _ h9 => h9) rfl dX6_keepAskPlace_41 ?_
              refine lv_iload_n hx hb dX6_keepAskPlace_44 rfl (lv_at hl 2 rfl) ?_
              obtain ⟨hc50, hf⟩ := ck_e hf
              refine g_aldqA (f := fun j => some (raVF j)) hx hb hK hP 12 7 rfl rfl hc50 dX6_keepAskPlace_45 ?_
              refine kt_v (show va_rf (some (raVF x2_23.toNatClampNeg)) = Value.ref (raVF x2_23.toNatClampNeg) from rfl) ?_
              refine lv_iload hx hb dX6_keepAskPlace_46 (lv_at hl 4 rfl) ?_
              rw [show raVF x2_23.toNatClampNeg = raVF 7 from congrArg raVF (by rw [hs48]; rfl)]
              obtain ⟨hc51, hf⟩ := ck_e hf
              refine va_iald hx hb hK hP 20 1 rfl rfl hc51 dX6_keepAskPlace_48 ?_
              refine lv_imul hx hb dX6_keepAskPlace_49 ?_
              refine va_mmax hx hb (hml.trans hl.1.symm) hown k_methodLink_RX6_50_Lib_Math_max_name k_static_Lib_Math_max_name k_initialized__java_lang_Math_ k_code_Lib_Math_max_name_Lib_Math_max_code_2__some__int_ (Nat.le_of_ble_eq_true rfl) (Nat.le_of_ble_eq_true rfl) (Nat.zero_le _) (Nat.zero_le _) dX6_keepAskPlace_50 ?_
              obtain ⟨v52, ev52, hf⟩ := bd1_e hf
              refine kt_i ev52 ?_
              refine lv_istore_n (nL := 5) (lv' := [(3, .int v52), (0, .ref (raRW 0)), (1, .int x1_23), (2, .int x2_23), (4, .int x4_23)]) hx hb dX6_keepAskPlace_53 rfl hl (by decide) rfl (fun ls hl => ?_)
              obtain ⟨v53, ev53, hf⟩ := bd1_e hf
              refine lv_iinc (k := 4) (x := x4_23) (v := v53) (nL := 5) (lv' := [(4, .int v53), (3, .int v52), (0, .ref (raRW 0)), (1, .int x1_23), (2, .int x2_23)]) hx hb dX6_keepAskPlace_54 hl rfl (kt_inc (w := 1) (by decide) ev53) (by decide) rfl (fun ls hl => ?_)
              refine lv_goto (tgt := 23) hx hb dX6_keepAskPlace_57 (by decide) ?_
              exact ih_23 x1_23 x2_23 v52 v53 RW_23 ls _ _ (lv_sub hl [2, 3, 4, 1, 0] rfl) hP hD hS hf
            have hf := (if_neg hs48).symm.trans hf
            by_cases hs54 : x2_23 = 8
            · have hf := (if_pos hs54).symm.trans hf
              rw [show raUF x2_23.toNatClampNeg = raUF 8 from congrArg raUF (by rw [hs54]; rfl)]
              obtain ⟨hc55, hf⟩ := ck_e hf
              refine va_iald hx hb hK hP 11 1 rfl rfl hc55 dX6_keepAskPlace_39 ?_
              refine lv_aload_n hx hb dX6_keepAskPlace_40 rfl (lv_at hl 0 rfl) ?_
              refine va_get (D := (dC, dI)) (ci := 7) (C := RX6) (T := TX6) (N := 5) hx hb hts hinX6 hown hK hP 0 rfl rfl 1 (by decide) (v := .ref raVO) k_fieldLink_RX6_16__KeyLetters_Rows___from_____I_ (fun _ h9 => h9) rfl dX6_keepAskPlace_41 ?_
              refine lv_iload_n hx hb dX6_keepAskPlace_44 rfl (lv_at hl 2 rfl) ?_
              obtain ⟨hc56, hf⟩ := ck_e hf
              refine g_aldqA (f := fun j => some (raVF j)) hx hb hK hP 12 7 rfl rfl hc56 dX6_keepAskPlace_45 ?_
              refine kt_v (show va_rf (some (raVF x2_23.toNatClampNeg)) = Value.ref (raVF x2_23.toNatClampNeg) from rfl) ?_
              refine lv_iload hx hb dX6_keepAskPlace_46 (lv_at hl 4 rfl) ?_
              rw [show raVF x2_23.toNatClampNeg = raVF 8 from congrArg raVF (by rw [hs54]; rfl)]
              obtain ⟨hc57, hf⟩ := ck_e hf
              refine va_iald hx hb hK hP 21 1 rfl rfl hc57 dX6_keepAskPlace_48 ?_
              refine lv_imul hx hb dX6_keepAskPlace_49 ?_
              refine va_mmax hx hb (hml.trans hl.1.symm) hown k_methodLink_RX6_50_Lib_Math_max_name k_static_Lib_Math_max_name k_initialized__java_lang_Math_ k_code_Lib_Math_max_name_Lib_Math_max_code_2__some__int_ (Nat.le_of_ble_eq_true rfl) (Nat.le_of_ble_eq_true rfl) (Nat.zero_le _) (Nat.zero_le _) dX6_keepAskPlace_50 ?_
              obtain ⟨v58, ev58, hf⟩ := bd1_e hf
              refine kt_i ev58 ?_
              refine lv_istore_n (nL := 5) (lv' := [(3, .int v58), (0, .ref (raRW 0)), (1, .int x1_23), (2, .int x2_23), (4, .int x4_23)]) hx hb dX6_keepAskPlace_53 rfl hl (by decide) rfl (fun ls hl => ?_)
              obtain ⟨v59, ev59, hf⟩ := bd1_e hf
              refine lv_iinc (k := 4) (x := x4_23) (v := v59) (nL := 5) (lv' := [(4, .int v59), (3, .int v58), (0, .ref (raRW 0)), (1, .int x1_23), (2, .int x2_23)]) hx hb dX6_keepAskPlace_54 hl rfl (kt_inc (w := 1) (by decide) ev59) (by decide) rfl (fun ls hl => ?_)
              refine lv_goto (tgt := 23) hx hb dX6_keepAskPlace_57 (by decide) ?_
              exact ih_23 x1_23 x2_23 v58 v59 RW_23 ls _ _ (lv_sub hl [2, 3, 4, 1, 0] rfl) hP hD hS hf
            have hf := (if_neg hs54).symm.trans hf
            cases hf) 2000
      refine lv_iload_n hx hb dX6_keepAskPlace_4 rfl (lv_at hl 2 rfl) ?_
      refine lv_aload_n hx hb dX6_keepAskPlace_5 rfl (lv_at hl 0 rfl) ?_
      refine va_get (D := (dC, dI)) (ci := 7) (C := RX6) (T := TX6) (N := 5) hx hb hts hinX6 hown hK hP 0 rfl rfl 3 (by decide) (v := .int (RW_4.1 0 3)) k_fieldLink_RX6_41__KeyLetters_Rows___size___I_ (fun _ h9 => h9) rfl dX6_keepAskPlace_6 ?_
      refine lv_icmp_ge (tgt := 82) hx hb dX6_keepAskPlace_9 (by decide) (fun hb62 => ?_) (fun hb62 => ?_)
      · have hf := (if_pos hb62).symm.trans hf
        have hf := Option.some.inj hf
        subst hf
        exact c_vret hx hb hr hlocks hP hK hD hS dX6_keepAskPlace_82
      · have hf := (if_neg hb62).symm.trans hf
        refine lv_iload_n hx hb dX6_keepAskPlace_12 rfl (lv_at hl 2 rfl) ?_
        refine lv_bipush (v := 9) hx hb dX6_keepAskPlace_13 (by decide) ?_
        refine lv_icmp_ge (tgt := 82) hx hb dX6_keepAskPlace_15 (by decide) (fun hb61 => ?_) (fun hb61 => ?_)
        · have hf := (if_pos hb61).symm.trans hf
          have hf := Option.some.inj hf
          subst hf
          exact c_vret hx hb hr hlocks hP hK hD hS dX6_keepAskPlace_82
        · have hf := (if_neg hb61).symm.trans hf
          refine lv_iconst (v := 0) hx hb dX6_keepAskPlace_18 (by decide) ?_
          refine lv_istore_n (nL := 5) (lv' := [(3, .int (0 : Int32)), (0, .ref (raRW 0)), (1, .int x1_4), (2, .int x2_4)]) hx hb dX6_keepAskPlace_19 rfl hl (by decide) rfl (fun ls hl => ?_)
          refine lv_iconst (v := 0) hx hb dX6_keepAskPlace_20 (by decide) ?_
          refine lv_istore (nL := 5) (lv' := [(4, .int (0 : Int32)), (3, .int (0 : Int32)), (0, .ref (raRW 0)), (1, .int x1_4), (2, .int x2_4)]) hx hb dX6_keepAskPlace_21 hl (by decide) rfl (fun ls hl => ?_)
          exact h_23 x1_4 x2_4 (0 : Int32) (0 : Int32) RW_4 ls _ _ (lv_sub hl [2, 3, 4, 1, 0] rfl) hP hD hS hf) 2000
  refine lv_iconst (v := 0) hx hb dX6_keepAskPlace_0 (by decide) ?_
  refine lv_istore_n (nL := 5) (lv' := [(1, .int (0 : Int32)), (0, .ref (raRW 0))]) hx hb dX6_keepAskPlace_1 rfl hl (by decide) rfl (fun ls hl => ?_)
  refine lv_iconst (v := 0) hx hb dX6_keepAskPlace_2 (by decide) ?_
  refine lv_istore_n (nL := 5) (lv' := [(2, .int (0 : Int32)), (1, .int (0 : Int32)), (0, .ref (raRW 0))]) hx hb dX6_keepAskPlace_3 rfl hl (by decide) rfl (fun ls hl => ?_)
  exact h_4 (0 : Int32) (0 : Int32) RW ls _ _ (lv_sub hl [2, 1, 0] rfl) hP hD hS hf

def ww_X6_measure (cs : Nat → ClassId) (ad : Nat → Nat) (raRW : Nat → Nat) (raUO : Nat) (raUF : Nat → Nat) (raVO : Nat) (raVF : Nat → Nat) (raO : Nat → Nat) (raA : Nat) (nA : Nat) (RW : kD) (UF : Nat → Nat → Int32) (VF : Nat → Nat → Int32) (O : kD) (A : Nat → Int32) : va_W := (wX6 cs ad raRW raUO raVO RW ++ ([(raUO, .inl (cs 7, 9, .inr (.inr (.inr (.inr (fun j => some (raUF j)))))))] ++ (wF1x9 cs raUF UF ++ ([(raVO, .inl (cs 7, 9, .inr (.inr (.inr (.inr (fun j => some (raVF j)))))))] ++ (wF1x9 cs raVF VF ++ (wX3 cs ad raO O ++ ([(raA, .inl (cs 1, nA, .inl A))])))))))
abbrev rm_X6_measure : Room := { frames := 2, cells := 0, slots := 0, locals := 64 }
set_option maxHeartbeats 4000000 in
set_option maxRecDepth 100000 in
theorem c_X6_measure (l : Launch) (dC : Nat → ClassId) (dI : Nat → Nat → Nat) (cs : Nat → ClassId) (ad : Nat → Nat) (raRW : Nat → Nat) (raUO : Nat) (raUF : Nat → Nat) (raVO : Nat) (raVF : Nat → Nat) (raO : Nat → Nat) (raA : Nat) (nA : Nat) (sz : Nat) (RW : kD) (UF : Nat → Nat → Int32) (VF : Nat → Nat → Int32) (O : kD) (A : Nat → Int32) (a2 : Int32) (r : Int32 × kD × (Nat → Nat → Int32) × (Nat → Nat → Int32)) (hf : f_X6_measure a2 nA RW UF VF O A = some r) : Met l yX6_measure wsX6_measure rm_X6_measure (va_Pc [.ref (raRW 0), .ref (raO 0), .ref raA, .int a2] (cPw dC dI cs sz (ww_X6_measure cs ad raRW raUO raUF raVO raVF raO raA nA RW UF VF O A))) (cQi dC dI cs (va_A (ww_X6_measure cs ad raRW raUO raUF raVO raVF raO raA nA zD (fun _ _ => 0) (fun _ _ => 0) zD (fun _ => 0)) sz) r.1 (ww_X6_measure cs ad raRW raUO raUF raVO raVF raO raA nA r.2.1 r.2.2.1 r.2.2.2 O A)) 0 0 (va_A (ww_X6_measure cs ad raRW raUO raUF raVO raVF raO raA nA zD (fun _ _ => 0) (fun _ _ => 0) zD (fun _ => 0)) sz) := by
  refine Met.ofW (cc := cX6_measure) (maxL := 6) (ret := (some .int)) (by decide) rfl ?_
  intro p e s m args below meth c s₁ B hml hv
  obtain ⟨hav, hsz, hP, hK, hD0, hN⟩ := hv
  have hx := B.exec
  have hb := B.bytes
  have hr := B.returns
  have hts := atoms_spec (ws := wsX6_measure) B.pre
  have hown : s.vm.findClass RX6 = some m.cls := findClass_of_methodNamed B.named
  have hlocks := B.notSynchronized
  subst hsz
  have hA : ∀ q, s.heap.size ≤ q → va_A (ww_X6_measure cs ad raRW raUO raUF raVO raVF raO raA nA zD (fun _ _ => 0) (fun _ _ => 0) zD (fun _ => 0)) s.heap.size q := fun q h => Or.inr h
  have hD : va_D (va_A (ww_X6_measure cs ad raRW raUO raUF raVO raVF raO raA nA zD (fun _ _ => 0) (fun _ _ => 0) zD (fun _ => 0)) s.heap.size) (ww_X6_measure cs ad raRW raUO raUF raVO raVF raO raA nA RW UF VF O A) := hD0.weaken (fun k q h _ => cA_in (ws := (ww_X6_measure cs ad raRW raUO raUF raVO raVF raO raA nA RW UF VF O A)) (ws' := (ww_X6_measure cs ad raRW raUO raUF raVO raVF raO raA nA zD (fun _ _ => 0) (fun _ _ => 0) zD (fun _ => 0))) rfl h)
  have hS : va_S (va_A (ww_X6_measure cs ad raRW raUO raUF raVO raVF raO raA nA zD (fun _ _ => 0) (fun _ _ => 0) zD (fun _ => 0)) s.heap.size) s.heap s.heap [] := va_S.rf
  have hinX6 := (show ∀ w ∈ wsX60, w ∈ wsX6_measure from fun w h => List.mem_cons_of_mem _ (List.mem_append_left _ (List.mem_append_right _ h)))
  have k_fieldLink_RX6_11__KeyLetters_Rows___upTo_____I_ := hts (.fieldLink RX6 11 "KeyLetters$Rows" "upTo" "[[I") (List.mem_of_getElem? (i := 1) rfl)
  have k_fieldLink_RX6_16__KeyLetters_Rows___from_____I_ := hts (.fieldLink RX6 16 "KeyLetters$Rows" "from" "[[I") (List.mem_of_getElem? (i := 2) rfl)
  have k_fieldLink_RX6_41__KeyLetters_Rows___size___I_ := hts (.fieldLink RX6 41 "KeyLetters$Rows" "size" "I") (List.mem_of_getElem? (i := 3) rfl)
  have k_initialized_RX11 := hts (.initialized RX11) (List.mem_of_getElem? (i := 20) rfl)
  have k_initialized_RX3 := hts (.initialized RX3) (List.mem_of_getElem? (i := 5) rfl)
  have k_instanceMethod_yX3_knowsOf := hts (.instanceMethod yX3_knowsOf) (List.mem_of_getElem? (i := 4) rfl)
  have k_selects_RX3_yX3_knowsOf_yX3_knowsOf := hts (.selects RX3 yX3_knowsOf yX3_knowsOf) (List.mem_of_getElem? (i := 6) rfl)
  have k_static_yX11_sumOf := hts (.static yX11_sumOf) (List.mem_of_getElem? (i := 26) rfl)
  have hl := lv_entry ([.ref (raRW 0), .ref (raO 0), .ref raA, .int a2]) (n := 6) (Nat.le_of_ble_eq_true rfl)
  rw [show entryFrame m args 6 = entryFrame m ([.ref (raRW 0), .ref (raO 0), .ref raA, .int a2] : List Value).toArray 6 from by rw [hav], lg_entry_eq]
  generalize (lg_sl ([.ref (raRW 0), .ref (raO 0), .ref raA, .int a2]) ++ List.replicate (6 - (lg_sl ([.ref (raRW 0), .ref (raO 0), .ref raA, .int a2])).length) Slot.unset).toArray = ls at hl ⊢
  have hl : lv_has ls 6 [(0, .ref (raRW 0)), (1, .ref (raO 0)), (2, .ref raA), (3, .int a2)] := hl
  unfold f_X6_measure at hf
  have h_100 : ∀ (x3_100 : Int32) (RW_100 : kD) (UF_100 : Nat → Nat → Int32) (VF_100 : Nat → Nat → Int32) (ls : Array Slot) (H : Heap) (locs : List Loc), lv_has ls 6 [(0, .ref (raRW 0)), (1, .ref (raO 0)), (2, .ref raA), (3, .int x3_100)] → va_P (dC, dI) vwCl (ww_X6_measure cs ad raRW raUO raUF raVO raVF raO raA nA RW_100 UF_100 VF_100 O A) H → va_D (va_A (ww_X6_measure cs ad raRW raUO raUF raVO raVF raO raA nA zD (fun _ _ => 0) (fun _ _ => 0) zD (fun _ => 0)) s.heap.size) (ww_X6_measure cs ad raRW raUO raUF raVO raVF raO raA nA RW_100 UF_100 VF_100 O A) → va_S (va_A (ww_X6_measure cs ad raRW raUO raUF raVO raVF raO raA nA zD (fun _ _ => 0) (fun _ _ => 0) zD (fun _ => 0)) s.heap.size) s.heap H locs → g_X6_measure_100 nA O A x3_100 RW_100 UF_100 VF_100 = some r → W p l e (headSpec wsX6_measure rm_X6_measure).room s m args below meth c H locs 0 0 (MQ below (cQi dC dI cs (va_A (ww_X6_measure cs ad raRW raUO raUF raVO raVF raO raA nA zD (fun _ _ => 0) (fun _ _ => 0) zD (fun _ => 0)) s.heap.size) r.1 (ww_X6_measure cs ad raRW raUO raUF raVO raVF raO raA nA r.2.1 r.2.2.1 r.2.2.2 O A)) args s 0 0 (va_A (ww_X6_measure cs ad raRW raUO raUF raVO raVF raO raA nA zD (fun _ _ => 0) (fun _ _ => 0) zD (fun _ => 0)) s.heap.size)) (F0 m 100 ls []) := by
    intro x3_100 RW_100 UF_100 VF_100 ls H locs hl hP hD hS hf
    unfold g_X6_measure_100 at hf
    have h_185 : ∀ (x3_185 : Int32) (RW_185 : kD) (UF_185 : Nat → Nat → Int32) (VF_185 : Nat → Nat → Int32) (ls : Array Slot) (H : Heap) (locs : List Loc), lv_has ls 6 [(0, .ref (raRW 0)), (3, .int x3_185)] → va_P (dC, dI) vwCl (ww_X6_measure cs ad raRW raUO raUF raVO raVF raO raA nA RW_185 UF_185 VF_185 O A) H → va_D (va_A (ww_X6_measure cs ad raRW raUO raUF raVO raVF raO raA nA zD (fun _ _ => 0) (fun _ _ => 0) zD (fun _ => 0)) s.heap.size) (ww_X6_measure cs ad raRW raUO raUF raVO raVF raO raA nA RW_185 UF_185 VF_185 O A) → va_S (va_A (ww_X6_measure cs ad raRW raUO raUF raVO raVF raO raA nA zD (fun _ _ => 0) (fun _ _ => 0) zD (fun _ => 0)) s.heap.size) s.heap H locs → g_X6_measure_185 nA O A x3_185 RW_185 UF_185 VF_185 = some r → W p l e (headSpec wsX6_measure rm_X6_measure).room s m args below meth c H locs 0 0 (MQ below (cQi dC dI cs (va_A (ww_X6_measure cs ad raRW raUO raUF raVO raVF raO raA nA zD (fun _ _ => 0) (fun _ _ => 0) zD (fun _ => 0)) s.heap.size) r.1 (ww_X6_measure cs ad raRW raUO raUF raVO raVF raO raA nA r.2.1 r.2.2.1 r.2.2.2 O A)) args s 0 0 (va_A (ww_X6_measure cs ad raRW raUO raUF raVO raVF raO raA nA zD (fun _ _ => 0) (fun _ _ => 0) zD (fun _ => 0)) s.heap.size)) (F0 m 185 ls []) := by
      intro x3_185 RW_185 UF_185 VF_185 ls H locs hl hP hD hS hf
      unfold g_X6_measure_185 at hf
      refine lv_aload_n hx hb dX6_measure_185 rfl (lv_at hl 0 rfl) ?_
      refine va_get (D := (dC, dI)) (ci := 7) (C := RX6) (T := TX6) (N := 5) hx hb hts hinX6 hown hK hP 0 rfl rfl 1 (by decide) (v := .ref raVO) k_fieldLink_RX6_16__KeyLetters_Rows___from_____I_ (fun _ h9 => h9) rfl dX6_measure_186 ?_
      refine lv_iconst (v := 0) hx hb dX6_measure_189 (by decide) ?_
      refine g_aldqA (f := fun j => some (raVF j)) hx hb hK hP 12 7 rfl rfl (show ¬ ((0 : Int32) < 0 ∨ 9 ≤ (0 : Int32).toNatClampNeg) by decide +kernel) dX6_measure_190 ?_
      refine kt_v (show va_rf (some (raVF (0 : Int32).toNatClampNeg)) = Value.ref (raVF 0) from rfl) ?_
      obtain ⟨v2, hq1, hf⟩ := bo_e hf
      refine ko_call (v := some (.int v2)) (va_runSN (As := [.ref (raVF 0)]) (rest := []) ⟨hx, hb, hml, hown, hts⟩ (c_X11_sumOf l dC dI cs ad (raVF 0) 6 (VF_185 0) v2 hq1) ⟨va_cnB 1 hts gX6_measure_X11_sumOf_n37 rfl rfl rfl (hN _ (List.mem_of_getElem? (i := 115) rfl)) k_initialized_RX11 (by decide +kernel) ⟨Nat.le_of_ble_eq_true rfl, Nat.le_of_ble_eq_true rfl⟩, k_static_yX11_sumOf, trivial⟩ ⟨fun a U g mk q => ⟨q.1, (fun _ _ _ _ => cPr_bl) a U g mk q.2⟩, fun U hU hW => ⟨rfl, ⟨by rw [hU]; exact (hP.sub (ws' := (ww_X11_sumOf cs ad (raVF 0) 6 (VF_185 0))) [13] rfl), va_K.moved hW.alike hK, kN_warm hW hN⟩⟩⟩ rfl rfl hl.1 rfl (lv_room (Nat.le_of_ble_eq_true rfl)) dX6_measure_191 ⟨Nat.le_refl _, Nat.le_refl _⟩) ?_
      refine lv_istore (nL := 6) (lv' := [(4, .int v2), (0, .ref (raRW 0)), (3, .int x3_185)]) hx hb dX6_measure_194 hl (by decide) rfl (fun ls hl => ?_)
      refine lv_iload hx hb dX6_measure_196 (lv_at hl 0 rfl) ?_
      refine lv_if_le (tgt := 214) hx hb dX6_measure_198 (by decide) (fun hb8 => ?_) (fun hb8 => ?_)
      · have hf := (if_pos hb8).symm.trans hf
        refine lv_iload hx hb dX6_measure_214 (lv_at hl 0 rfl) ?_
        have hf := Option.some.inj hf
        subst hf
        exact c_iret (v := v2) hx hb hr hlocks hP hK hD hS dX6_measure_216
      · have hf := (if_neg hb8).symm.trans hf
        refine lv_aload_n hx hb dX6_measure_201 rfl (lv_at hl 1 rfl) ?_
        refine lv_iload_n hx hb dX6_measure_202 rfl (lv_at hl 2 rfl) ?_
        obtain ⟨RWv3, eRWv3, hf⟩ := bd1_e hf
        refine g_put (D := (dC, dI)) (ci := 7) (C := RX6) (T := TX6) (N := 5) hx hb hts hinX6 tyX6 tyX6_ok nmX6 hown hK hP hD hS 0 rfl rfl 3 (by decide) k_fieldLink_RX6_41__KeyLetters_Rows___size___I_ (fun _ h9 => h9) rfl (ty := .int) (v := .int x3_185) (by decide +kernel) rfl rfl (Nat.le_of_ble_eq_true rfl) (ws' := (ww_X6_measure cs ad raRW raUO raUF raVO raVF raO raA nA RWv3 UF_185 VF_185 O A)) (by rw [eRWv3]; rfl) dX6_measure_203 (fun H locs hP hD hS => ?_)
        refine lv_aload_n hx hb dX6_measure_206 rfl (lv_at hl 1 rfl) ?_
        obtain ⟨RWv5, hq4, hf⟩ := bo_e hf
        refine g_callv (isC := [0, 1, 2, 3, 4, 5, 6, 7, 8, 9, 10, 11, 12, 13, 14, 15, 16, 17, 18, 19, 20, 21]) (isR := [22, 23, 24, 25, 26, 27, 28, 29, 30]) (wc := (ww_X6_keepFirst cs ad raRW raUO raUF raVO raVF RWv3 UF_185 VF_185)) (wz := (ww_X6_keepFirst cs ad raRW raUO raUF raVO raVF zD (fun _ _ => 0) (fun _ _ => 0))) (w1 := (ww_X6_keepFirst cs ad raRW raUO raUF raVO raVF RWv5 UF_185 VF_185)) (ws' := (ww_X6_measure cs ad raRW raUO raUF raVO raVF raO raA nA RWv5 UF_185 VF_185 O A)) (va_runV (As := []) (rest := []) ⟨hx, hb, hml, hown, hts⟩ (c_X6_keepFirst l dC dI cs ad raRW raUO raUF raVO raVF _ RWv3 UF_185 VF_185 RWv5 hq4) (cwV 0 hts gX6_measure_X6_keepFirst rfl rfl rfl (by decide +kernel) ⟨Nat.le_of_ble_eq_true rfl, Nat.le_of_ble_eq_true rfl⟩) ⟨fun a U g mk q => ⟨q.1, (fun _ _ _ _ => cPw_bl) a U g mk q.2⟩, va_recv hK hP (ci := 7) (q0 := 0) rfl rfl, fun U hU hW => ⟨rfl, ⟨by rw [hU], by rw [hU]; exact (hP.sub (ws' := (ww_X6_keepFirst cs ad raRW raUO raUF raVO raVF RWv3 UF_185 VF_185)) [0, 1, 2, 3, 4, 5, 6, 7, 8, 9, 10, 11, 12, 13, 14, 15, 16, 17, 18, 19, 20, 21] rfl), va_K.moved hW.alike hK, (hD.sub (ws' := (ww_X6_keepFirst cs ad raRW raUO raUF raVO raVF RWv3 UF_185 VF_185)) [0, 1, 2, 3, 4, 5, 6, 7, 8, 9, 10, 11, 12, 13, 14, 15, 16, 17, 18, 19, 20, 21] (by decide) rfl).weaken (fun _ _ _ _ => trivial), kN_warm hW hN⟩⟩⟩ rfl rfl hl.1 rfl (lv_room (Nat.le_of_ble_eq_true rfl)) dX6_measure_207 ⟨Nat.le_refl _, Nat.le_refl _⟩) hP hD hS hA rfl rfl (wr := ((wX3 cs ad raO O) ++ (([(raA, .inl (cs 1, nA, .inl A))])))) rfl rfl rfl (nw := 31) rfl (by decide +kernel) rfl (fun H locs hP hD hS => ?_)
        refine lv_aload_n hx hb dX6_measure_210 rfl (lv_at hl 1 rfl) ?_
        obtain ⟨RWv7, hq6, hf⟩ := bo_e hf
        refine g_callv (isC := [0, 1, 2, 3, 4, 5, 6, 7, 8, 9, 10, 11, 12, 13, 14, 15, 16, 17, 18, 19, 20, 21]) (isR := [22, 23, 24, 25, 26, 27, 28, 29, 30]) (wc := (ww_X6_keepAskPlace cs ad raRW raUO raUF raVO raVF RWv5 UF_185 VF_185)) (wz := (ww_X6_keepAskPlace cs ad raRW raUO raUF raVO raVF zD (fun _ _ => 0) (fun _ _ => 0))) (w1 := (ww_X6_keepAskPlace cs ad raRW raUO raUF raVO raVF RWv7 UF_185 VF_185)) (ws' := (ww_X6_measure cs ad raRW raUO raUF raVO raVF raO raA nA RWv7 UF_185 VF_185 O A)) (va_runV (As := []) (rest := []) ⟨hx, hb, hml, hown, hts⟩ (c_X6_keepAskPlace l dC dI cs ad raRW raUO raUF raVO raVF _ RWv5 UF_185 VF_185 RWv7 hq6) (cwV 0 hts gX6_measure_X6_keepAskPlace rfl rfl rfl (by decide +kernel) ⟨Nat.le_of_ble_eq_true rfl, Nat.le_of_ble_eq_true rfl⟩) ⟨fun a U g mk q => ⟨q.1, (fun _ _ _ _ => cPw_bl) a U g mk q.2⟩, va_recv hK hP (ci := 7) (q0 := 0) rfl rfl, fun U hU hW => ⟨rfl, ⟨by rw [hU], by rw [hU]; exact (hP.sub (ws' := (ww_X6_keepAskPlace cs ad raRW raUO raUF raVO raVF RWv5 UF_185 VF_185)) [0, 1, 2, 3, 4, 5, 6, 7, 8, 9, 10, 11, 12, 13, 14, 15, 16, 17, 18, 19, 20, 21] rfl), va_K.moved hW.alike hK, (hD.sub (ws' := (ww_X6_keepAskPlace cs ad raRW raUO raUF raVO raVF RWv5 UF_185 VF_185)) [0, 1, 2, 3, 4, 5, 6, 7, 8, 9, 10, 11, 12, 13, 14, 15, 16, 17, 18, 19, 20, 21] (by decide) rfl).weaken (fun _ _ _ _ => trivial), kN_warm hW hN⟩⟩⟩ rfl rfl hl.1 rfl (lv_room (Nat.le_of_ble_eq_true rfl)) dX6_measure_211 ⟨Nat.le_refl _, Nat.le_refl _⟩) hP hD hS hA rfl rfl (wr := ((wX3 cs ad raO O) ++ (([(raA, .inl (cs 1, nA, .inl A))])))) rfl rfl rfl (nw := 31) rfl (by decide +kernel) rfl (fun H locs hP hD hS => ?_)
        refine lv_iload hx hb dX6_measure_214 (lv_at hl 0 rfl) ?_
        have hf := Option.some.inj hf
        subst hf
        exact c_iret (v := v2) hx hb hr hlocks hP hK hD hS dX6_measure_216
    have h_105 := lp_ind (z := (fun _ _ _ _ _ => none)) (b := (g_X6_measure_105 nA O A)) (fun (rc_105 : Int32 → Int32 → kD → (Nat → Nat → Int32) → (Nat → Nat → Int32) → Option (Int32 × kD × (Nat → Nat → Int32) × (Nat → Nat → Int32))) => ∀ (x3_105 : Int32) (x4_105 : Int32) (RW_105 : kD) (UF_105 : Nat → Nat → Int32) (VF_105 : Nat → Nat → Int32) (ls : Array Slot) (H : Heap) (locs : List Loc), lv_has ls 6 [(0, .ref (raRW 0)), (1, .ref (raO 0)), (2, .ref raA), (3, .int x3_105), (4, .int x4_105)] → va_P (dC, dI) vwCl (ww_X6_measure cs ad raRW raUO raUF raVO raVF raO raA nA RW_105 UF_105 VF_105 O A) H → va_D (va_A (ww_X6_measure cs ad raRW raUO raUF raVO raVF raO raA nA zD (fun _ _ => 0) (fun _ _ => 0) zD (fun _ => 0)) s.heap.size) (ww_X6_measure cs ad raRW raUO raUF raVO raVF raO raA nA RW_105 UF_105 VF_105 O A) → va_S (va_A (ww_X6_measure cs ad raRW raUO raUF raVO raVF raO raA nA zD (fun _ _ => 0) (fun _ _ => 0) zD (fun _ => 0)) s.heap.size) s.heap H locs → rc_105 x3_105 x4_105 RW_105 UF_105 VF_105 = some r → W p l e (headSpec wsX6_measure rm_X6_measure).room s m args below meth c H locs 0 0 (MQ below (cQi dC dI cs (va_A (ww_X6_measure cs ad raRW raUO raUF raVO raVF raO raA nA zD (fun _ _ => 0) (fun _ _ => 0) zD (fun _ => 0)) s.heap.size) r.1 (ww_X6_measure cs ad raRW raUO raUF raVO raVF raO raA nA r.2.1 r.2.2.1 r.2.2.2 O A)) args s 0 0 (va_A (ww_X6_measure cs ad raRW raUO raUF raVO raVF raO raA nA zD (fun _ _ => 0) (fun _ _ => 0) zD (fun _ => 0)) s.heap.size)) (F0 m 105 ls [])) (by
        intro x3_105 x4_105 RW_105 UF_105 VF_105 ls H locs hl hP hD hS hf
        cases hf) (by
        intro rc_105 ih_105 x3_105 x4_105 RW_105 UF_105 VF_105 ls H locs hl hP hD hS hf
        unfold g_X6_measure_105 at hf
        have h_179 : ∀ (x3_179 : Int32) (x4_179 : Int32) (RW_179 : kD) (UF_179 : Nat → Nat → Int32) (VF_179 : Nat → Nat → Int32) (ls : Array Slot) (H : Heap) (locs : List Loc), lv_has ls 6 [(0, .ref (raRW 0)), (1, .ref (raO 0)), (2, .ref raA), (3, .int x3_179), (4, .int x4_179)] → va_P (dC, dI) vwCl (ww_X6_measure cs ad raRW raUO raUF raVO raVF raO raA nA RW_179 UF_179 VF_179 O A) H → va_D (va_A (ww_X6_measure cs ad raRW raUO raUF raVO raVF raO raA nA zD (fun _ _ => 0) (fun _ _ => 0) zD (fun _ => 0)) s.heap.size) (ww_X6_measure cs ad raRW raUO raUF raVO raVF raO raA nA RW_179 UF_179 VF_179 O A) → va_S (va_A (ww_X6_measure cs ad raRW raUO raUF raVO raVF raO raA nA zD (fun _ _ => 0) (fun _ _ => 0) zD (fun _ => 0)) s.heap.size) s.heap H locs → g_X6_measure_179 rc_105 nA O A x3_179 x4_179 RW_179 UF_179 VF_179 = some r → W p l e (headSpec wsX6_measure rm_X6_measure).room s m args below meth c H locs 0 0 (MQ below (cQi dC dI cs (va_A (ww_X6_measure cs ad raRW raUO raUF raVO raVF raO raA nA zD (fun _ _ => 0) (fun _ _ => 0) zD (fun _ => 0)) s.heap.size) r.1 (ww_X6_measure cs ad raRW raUO raUF raVO raVF raO raA nA r.2.1 r.2.2.1 r.2.2.2 O A)) args s 0 0 (va_A (ww_X6_measure cs ad raRW raUO raUF raVO raVF raO raA nA zD (fun _ _ => 0) (fun _ _ => 0) zD (fun _ => 0)) s.heap.size)) (F0 m 179 ls []) := by
          intro x3_179 x4_179 RW_179 UF_179 VF_179 ls H locs hl hP hD hS hf
          unfold g_X6_measure_179 at hf
          obtain ⟨v9, ev9, hf⟩ := bd1_e hf
          refine lv_iinc (k := 4) (x := x4_179) (v := v9) (nL := 6) (lv' := [(4, .int v9), (0, .ref (raRW 0)), (1, .ref (raO 0)), (2, .ref raA), (3, .int x3_179)]) hx hb dX6_measure_179 hl rfl (kt_inc (w := (-1)) (by decide) ev9) (by decide) rfl (fun ls hl => ?_)
          refine lv_goto (tgt := 105) hx hb dX6_measure_182 (by decide) ?_
          exact ih_105 x3_179 v9 RW_179 UF_179 VF_179 ls _ _ (lv_sub hl [1, 2, 3, 4, 0] rfl) hP hD hS hf
        have h_113 := lp_ind (z := (fun _ _ _ _ _ _ => none)) (b := (g_X6_measure_113 rc_105 nA O A)) (fun (rc_113 : Int32 → Int32 → Int32 → kD → (Nat → Nat → Int32) → (Nat → Nat → Int32) → Option (Int32 × kD × (Nat → Nat → Int32) × (Nat → Nat → Int32))) => ∀ (x3_113 : Int32) (x4_113 : Int32) (x5_113 : Int32) (RW_113 : kD) (UF_113 : Nat → Nat → Int32) (VF_113 : Nat → Nat → Int32) (ls : Array Slot) (H : Heap) (locs : List Loc), lv_has ls 6 [(0, .ref (raRW 0)), (1, .ref (raO 0)), (2, .ref raA), (3, .int x3_113), (4, .int x4_113), (5, .int x5_113)] → va_P (dC, dI) vwCl (ww_X6_measure cs ad raRW raUO raUF raVO raVF raO raA nA RW_113 UF_113 VF_113 O A) H → va_D (va_A (ww_X6_measure cs ad raRW raUO raUF raVO raVF raO raA nA zD (fun _ _ => 0) (fun _ _ => 0) zD (fun _ => 0)) s.heap.size) (ww_X6_measure cs ad raRW raUO raUF raVO raVF raO raA nA RW_113 UF_113 VF_113 O A) → va_S (va_A (ww_X6_measure cs ad raRW raUO raUF raVO raVF raO raA nA zD (fun _ _ => 0) (fun _ _ => 0) zD (fun _ => 0)) s.heap.size) s.heap H locs → rc_113 x3_113 x4_113 x5_113 RW_113 UF_113 VF_113 = some r → W p l e (headSpec wsX6_measure rm_X6_measure).room s m args below meth c H locs 0 0 (MQ below (cQi dC dI cs (va_A (ww_X6_measure cs ad raRW raUO raUF raVO raVF raO raA nA zD (fun _ _ => 0) (fun _ _ => 0) zD (fun _ => 0)) s.heap.size) r.1 (ww_X6_measure cs ad raRW raUO raUF raVO raVF raO raA nA r.2.1 r.2.2.1 r.2.2.2 O A)) args s 0 0 (va_A (ww_X6_measure cs ad raRW raUO raUF raVO raVF raO raA nA zD (fun _ _ => 0) (fun _ _ => 0) zD (fun _ => 0)) s.heap.size)) (F0 m 113 ls [])) (by
            intro x3_113 x4_113 x5_113 RW_113 UF_113 VF_113 ls H locs hl hP hD hS hf
            cases hf) (by
            intro rc_113 ih_113 x3_113 x4_113 x5_113 RW_113 UF_113 VF_113 ls H locs hl hP hD hS hf
            unfold g_X6_measure_113 at hf
            have h_172 : ∀ (x3_172 : Int32) (x4_172 : Int32) (x5_172 : Int32) (t0_172 : Int32) (t1_172 : Int32) (t2_172 : Int32) (RW_172 : kD) (UF_172 : Nat → Nat → Int32) (VF_172 : Nat → Nat → Int32) (ls : Array Slot) (H : Heap) (locs : List Loc), lv_has ls 6 [(0, .ref (raRW 0)), (1, .ref (raO 0)), (2, .ref raA), (3, .int x3_172), (4, .int x4_172), (5, .int x5_172)] → va_P (dC, dI) vwCl (ww_X6_measure cs ad raRW raUO raUF raVO raVF raO raA nA RW_172 UF_172 VF_172 O A) H → va_D (va_A (ww_X6_measure cs ad raRW raUO raUF raVO raVF raO raA nA zD (fun _ _ => 0) (fun _ _ => 0) zD (fun _ => 0)) s.heap.size) (ww_X6_measure cs ad raRW raUO raUF raVO raVF raO raA nA RW_172 UF_172 VF_172 O A) → va_S (va_A (ww_X6_measure cs ad raRW raUO raUF raVO raVF raO raA nA zD (fun _ _ => 0) (fun _ _ => 0) zD (fun _ => 0)) s.heap.size) s.heap H locs → g_X6_measure_172 rc_105 rc_113 nA O A x3_172 x4_172 x5_172 t0_172 t1_172 t2_172 RW_172 UF_172 VF_172 = some r → W p l e (headSpec wsX6_measure rm_X6_measure).room s m args below meth c H locs 0 0 (MQ below (cQi dC dI cs (va_A (ww_X6_measure cs ad raRW raUO raUF raVO raVF raO raA nA zD (fun _ _ => 0) (fun _ _ => 0) zD (fun _ => 0)) s.heap.size) r.1 (ww_X6_measure cs ad raRW raUO raUF raVO raVF raO raA nA r.2.1 r.2.2.1 r.2.2.2 O A)) args s 0 0 (va_A (ww_X6_measure cs ad raRW raUO raUF raVO raVF raO raA nA zD (fun _ _ => 0) (fun _ _ => 0) zD (fun _ => 0)) s.heap.size)) (F0 m 172 ls [.int t2_172, .int t1_172, .ref (raVF t0_172.toNatClampNeg)]) := by
              intro x3_172 x4_172 x5_172 t0_172 t1_172 t2_172 RW_172 UF_172 VF_172 ls H locs hl hP hD hS hf
              unfold g_X6_measure_172 at hf
              by_cases hs10 : t0_172 = 0
              · have hf := (if_pos hs10).symm.trans hf
                rw [show raVF t0_172.toNatClampNeg = raVF 0 from congrArg raVF (by rw [hs10]; rfl)]
                obtain ⟨hc11, hf⟩ := ck_e hf
                obtain ⟨VFv12, eVFv12, hf⟩ := bd1_e hf
                refine va_iast hx hb hK hP hD hS 13 1 rfl rfl hc11 dX6_measure_172 (fun H locs hP hD hS => ?_)
                have hP : va_P (dC, dI) vwCl (ww_X6_measure cs ad raRW raUO raUF raVO raVF raO raA nA RW_172 UF_172 VFv12 O A) H := g_toP (by rw [eVFv12]; rfl) hP
                have hD : va_D (va_A (ww_X6_measure cs ad raRW raUO raUF raVO raVF raO raA nA zD (fun _ _ => 0) (fun _ _ => 0) zD (fun _ => 0)) s.heap.size) (ww_X6_measure cs ad raRW raUO raUF raVO raVF raO raA nA RW_172 UF_172 VFv12 O A) := g_toD (by rw [eVFv12]; rfl) hD
                obtain ⟨v13, ev13, hf⟩ := bd1_e hf
                refine lv_iinc (k := 5) (x := x5_172) (v := v13) (nL := 6) (lv' := [(5, .int v13), (0, .ref (raRW 0)), (1, .ref (raO 0)), (2, .ref raA), (3, .int x3_172), (4, .int x4_172)]) hx hb dX6_measure_173 hl rfl (kt_inc (w := 1) (by decide) ev13) (by decide) rfl (fun ls hl => ?_)
                refine lv_goto (tgt := 113) hx hb dX6_measure_176 (by decide) ?_
                exact ih_113 x3_172 x4_172 v13 RW_172 UF_172 VFv12 ls _ _ (lv_sub hl [1, 2, 3, 4, 5, 0] rfl) hP hD hS hf
              have hf := (if_neg hs10).symm.trans hf
              by_cases hs14 : t0_172 = 1
              · have hf := (if_pos hs14).symm.trans hf
                rw [show raVF t0_172.toNatClampNeg = raVF 1 from congrArg raVF (by rw [hs14]; rfl)]
                obtain ⟨hc15, hf⟩ := ck_e hf
                obtain ⟨VFv16, eVFv16, hf⟩ := bd1_e hf
                refine va_iast hx hb hK hP hD hS 14 1 rfl rfl hc15 dX6_measure_172 (fun H locs hP hD hS => ?_)
                have hP : va_P (dC, dI) vwCl (ww_X6_measure cs ad raRW raUO raUF raVO raVF raO raA nA RW_172 UF_172 VFv16 O A) H := g_toP (by rw [eVFv16]; rfl) hP
                have hD : va_D (va_A (ww_X6_measure cs ad raRW raUO raUF raVO raVF raO raA nA zD (fun _ _ => 0) (fun _ _ => 0) zD (fun _ => 0)) s.heap.size) (ww_X6_measure cs ad raRW raUO raUF raVO raVF raO raA nA RW_172 UF_172 VFv16 O A) := g_toD (by rw [eVFv16]; rfl) hD
                obtain ⟨v17, ev17, hf⟩ := bd1_e hf
                refine lv_iinc (k := 5) (x := x5_172) (v := v17) (nL := 6) (lv' := [(5, .int v17), (0, .ref (raRW 0)), (1, .ref (raO 0)), (2, .ref raA), (3, .int x3_172), (4, .int x4_172)]) hx hb dX6_measure_173 hl rfl (kt_inc (w := 1) (by decide) ev17) (by decide) rfl (fun ls hl => ?_)
                refine lv_goto (tgt := 113) hx hb dX6_measure_176 (by decide) ?_
                exact ih_113 x3_172 x4_172 v17 RW_172 UF_172 VFv16 ls _ _ (lv_sub hl [1, 2, 3, 4, 5, 0] rfl) hP hD hS hf
              have hf := (if_neg hs14).symm.trans hf
              by_cases hs18 : t0_172 = 2
              · have hf := (if_pos hs18).symm.trans hf
                rw [show raVF t0_172.toNatClampNeg = raVF 2 from congrArg raVF (by rw [hs18]; rfl)]
                obtain ⟨hc19, hf⟩ := ck_e hf
                obtain ⟨VFv20, eVFv20, hf⟩ := bd1_e hf
                refine va_iast hx hb hK hP hD hS 15 1 rfl rfl hc19 dX6_measure_172 (fun H locs hP hD hS => ?_)
                have hP : va_P (dC, dI) vwCl (ww_X6_measure cs ad raRW raUO raUF raVO raVF raO raA nA RW_172 UF_172 VFv20 O A) H := g_toP (by rw [eVFv20]; rfl) hP
                have hD : va_D (va_A (ww_X6_measure cs ad raRW raUO raUF raVO raVF raO raA nA zD (fun _ _ => 0) (fun _ _ => 0) zD (fun _ => 0)) s.heap.size) (ww_X6_measure cs ad raRW raUO raUF raVO raVF raO raA nA RW_172 UF_172 VFv20 O A) := g_toD (by rw [eVFv20]; rfl) hD
                obtain ⟨v21, ev21, hf⟩ := bd1_e hf
                refine lv_iinc (k := 5) (x := x5_172) (v := v21) (nL := 6) (lv' := [(5, .int v21), (0, .ref (raRW 0)), (1, .ref (raO 0)), (2, .ref raA), (3, .int x3_172), (4, .int x4_172)]) hx hb dX6_measure_173 hl rfl (kt_inc (w := 1) (by decide) ev21) (by decide) rfl (fun ls hl => ?_)
                refine lv_goto (tgt := 113) hx hb dX6_measure_176 (by decide) ?_
                exact ih_113 x3_172 x4_172 v21 RW_172 UF_172 VFv20 ls _ _ (lv_sub hl [1, 2, 3, 4, 5, 0] rfl) hP hD hS hf
              have hf := (if_neg hs18).symm.trans hf
              by_cases hs22 : t0_172 = 3
              · have hf := (if_pos hs22).symm.trans hf
                rw [show raVF t0_172.toNatClampNeg = raVF 3 from congrArg raVF (by rw [hs22]; rfl)]
                obtain ⟨hc23, hf⟩ := ck_e hf
                obtain ⟨VFv24, eVFv24, hf⟩ := bd1_e hf
                refine va_iast hx hb hK hP hD hS 16 1 rfl rfl hc23 dX6_measure_172 (fun H locs hP hD hS => ?_)
                have hP : va_P (dC, dI) vwCl (ww_X6_measure cs ad raRW raUO raUF raVO raVF raO raA nA RW_172 UF_172 VFv24 O A) H := g_toP (by rw [eVFv24]; rfl) hP
                have hD : va_D (va_A (ww_X6_measure cs ad raRW raUO raUF raVO raVF raO raA nA zD (fun _ _ => 0) (fun _ _ => 0) zD (fun _ => 0)) s.heap.size) (ww_X6_measure cs ad raRW raUO raUF raVO raVF raO raA nA RW_172 UF_172 VFv24 O A) := g_toD (by rw [eVFv24]; rfl) hD
                obtain ⟨v25, ev25, hf⟩ := bd1_e hf
                refine lv_iinc (k := 5) (x := x5_172) (v := v25) (nL := 6) (lv' := [(5, .int v25), (0, .ref (raRW 0)), (1, .ref (raO 0)), (2, .ref raA), (3, .int x3_172), (4, .int x4_172)]) hx hb dX6_measure_173 hl rfl (kt_inc (w := 1) (by decide) ev25) (by decide) rfl (fun ls hl => ?_)
                refine lv_goto (tgt := 113) hx hb dX6_measure_176 (by decide) ?_
                exact ih_113 x3_172 x4_172 v25 RW_172 UF_172 VFv24 ls _ _ (lv_sub hl [1, 2, 3, 4, 5, 0] rfl) hP hD hS hf
              have hf := (if_neg hs22).symm.trans hf
              by_cases hs26 : t0_172 = 4
              · have hf := (if_pos hs26).symm.trans hf
                rw [show raVF t0_172.toNatClampNeg = raVF 4 from congrArg raVF (by rw [hs26]; rfl)]
                obtain ⟨hc27, hf⟩ := ck_e hf
                obtain ⟨VFv28, eVFv28, hf⟩ := bd1_e hf
                refine va_iast hx hb hK hP hD hS 17 1 rfl rfl hc27 dX6_measure_172 (fun H locs hP hD hS => ?_)
                have hP : va_P (dC, dI) vwCl (ww_X6_measure cs ad raRW raUO raUF raVO raVF raO raA nA RW_172 UF_172 VFv28 O A) H := g_toP (by rw [eVFv28]; rfl) hP
                have hD : va_D (va_A (ww_X6_measure cs ad raRW raUO raUF raVO raVF raO raA nA zD (fun _ _ => 0) (fun _ _ => 0) zD (fun _ => 0)) s.heap.size) (ww_X6_measure cs ad raRW raUO raUF raVO raVF raO raA nA RW_172 UF_172 VFv28 O A) := g_toD (by rw [eVFv28]; rfl) hD
                obtain ⟨v29, ev29, hf⟩ := bd1_e hf
                refine lv_iinc (k := 5) (x := x5_172) (v := v29) (nL := 6) (lv' := [(5, .int v29), (0, .ref (raRW 0)), (1, .ref (raO 0)), (2, .ref raA), (3, .int x3_172), (4, .int x4_172)]) hx hb dX6_measure_173 hl rfl (kt_inc (w := 1) (by decide) ev29) (by decide) rfl (fun ls hl => ?_)
                refine lv_goto (tgt := 113) hx hb dX6_measure_176 (by decide) ?_
                exact ih_113 x3_172 x4_172 v29 RW_172 UF_172 VFv28 ls _ _ (lv_sub hl [1, 2, 3, 4, 5, 0] rfl) hP hD hS hf
              have hf := (if_neg hs26).symm.trans hf
              by_cases hs30 : t0_172 = 5
              · have hf := (if_pos hs30).symm.trans hf
                rw [show raVF t0_172.toNatClampNeg = raVF 5 from congrArg raVF (by rw [hs30]; rfl)]
                obtain ⟨hc31, hf⟩ := ck_e hf
                obtain ⟨VFv32, eVFv32, hf⟩ := bd1_e hf
                refine va_iast hx hb hK hP hD hS 18 1 rfl rfl hc31 dX6_measure_172 (fun H locs hP hD hS => ?_)
                have hP : va_P (dC, dI) vwCl (ww_X6_measure cs ad raRW raUO raUF raVO raVF raO raA nA RW_172 UF_172 VFv32 O A) H := g_toP (by rw [eVFv32]; rfl) hP
                have hD : va_D (va_A (ww_X6_measure cs ad raRW raUO raUF raVO raVF raO raA nA zD (fun _ _ => 0) (fun _ _ => 0) zD (fun _ => 0)) s.heap.size) (ww_X6_measure cs ad raRW raUO raUF raVO raVF raO raA nA RW_172 UF_172 VFv32 O A) := g_toD (by rw [eVFv32]; rfl) hD
                obtain ⟨v33, ev33, hf⟩ := bd1_e hf
                refine lv_iinc (k := 5) (x := x5_172) (v := v33) (nL := 6) (lv' := [(5, .int v33), (0, .ref (raRW 0)), (1, .ref (raO 0)), (2, .ref raA), (3, .int x3_172), (4, .int x4_172)]) hx hb dX6_measure_173 hl rfl (kt_inc (w := 1) (by decide) ev33) (by decide) rfl (fun ls hl => ?_)
                refine lv_goto (tgt := 113) hx hb dX6_measure_176 (by decide) ?_
                exact ih_113 x3_172 x4_172 v33 RW_172 UF_172 VFv32 ls _ _ (lv_sub hl [1, 2, 3, 4, 5, 0] rfl) hP hD hS hf
              have hf := (if_neg hs30).symm.trans hf
              by_cases hs34 : t0_172 = 6
              · have hf := (if_pos hs34).symm.trans hf
                rw [show raVF t0_172.toNatClampNeg = raVF 6 from congrArg raVF (by rw [hs34]; rfl)]
                obtain ⟨hc35, hf⟩ := ck_e hf
                obtain ⟨VFv36, eVFv36, hf⟩ := bd1_e hf
                refine va_iast hx hb hK hP hD hS 19 1 rfl rfl hc35 dX6_measure_172 (fun H locs hP hD hS => ?_)
                have hP : va_P (dC, dI) vwCl (ww_X6_measure cs ad raRW raUO raUF raVO raVF raO raA nA RW_172 UF_172 VFv36 O A) H := g_toP (by rw [eVFv36]; rfl) hP
                have hD : va_D (va_A (ww_X6_measure cs ad raRW raUO raUF raVO raVF raO raA nA zD (fun _ _ => 0) (fun _ _ => 0) zD (fun _ => 0)) s.heap.size) (ww_X6_measure cs ad raRW raUO raUF raVO raVF raO raA nA RW_172 UF_172 VFv36 O A) := g_toD (by rw [eVFv36]; rfl) hD
                obtain ⟨v37, ev37, hf⟩ := bd1_e hf
                refine lv_iinc (k := 5) (x := x5_172) (v := v37) (nL := 6) (lv' := [(5, .int v37), (0, .ref (raRW 0)), (1, .ref (raO 0)), (2, .ref raA), (3, .int x3_172), (4, .int x4_172)]) hx hb dX6_measure_173 hl rfl (kt_inc (w := 1) (by decide) ev37) (by decide) rfl (fun ls hl => ?_)
                refine lv_goto (tgt := 113) hx hb dX6_measure_176 (by decide) ?_
                exact ih_113 x3_172 x4_172 v37 RW_172 UF_172 VFv36 ls _ _ (lv_sub hl [1, 2, 3, 4, 5, 0] rfl) hP hD hS hf
              have hf := (if_neg hs34).symm.trans hf
              by_cases hs38 : t0_172 = 7
              · have hf := (if_pos hs38).symm.trans hf
                rw [show raVF t0_172.toNatClampNeg = raVF 7 from congrArg raVF (by rw [hs38]; rfl)]
                obtain ⟨hc39, hf⟩ := ck_e hf
                obtain ⟨VFv40, eVFv40, hf⟩ := bd1_e hf
                refine va_iast hx hb hK hP hD hS 20 1 rfl rfl hc39 dX6_measure_172 (fun H locs hP hD hS => ?_)
                have hP : va_P (dC, dI) vwCl (ww_X6_measure cs ad raRW raUO raUF raVO raVF raO raA nA RW_172 UF_172 VFv40 O A) H := g_toP (by rw [eVFv40]; rfl) hP
                have hD : va_D (va_A (ww_X6_measure cs ad raRW raUO raUF raVO raVF raO raA nA zD (fun _ _ => 0) (fun _ _ => 0) zD (fun _ => 0)) s.heap.size) (ww_X6_measure cs ad raRW raUO raUF raVO raVF raO raA nA RW_172 UF_172 VFv40 O A) := g_toD (by rw [eVFv40]; rfl) hD
                obtain ⟨v41, ev41, hf⟩ := bd1_e hf
                refine lv_iinc (k := 5) (x := x5_172) (v := v41) (nL := 6) (lv' := [(5, .int v41), (0, .ref (raRW 0)), (1, .ref (raO 0)), (2, .ref raA), (3, .int x3_172), (4, .int x4_172)]) hx hb dX6_measure_173 hl rfl (kt_inc (w := 1) (by decide) ev41) (by decide) rfl (fun ls hl => ?_)
                refine lv_goto (tgt := 113) hx hb dX6_measure_176 (by decide) ?_
                exact ih_113 x3_172 x4_172 v41 RW_172 UF_172 VFv40 ls _ _ (lv_sub hl [1, 2, 3, 4, 5, 0] rfl) hP hD hS hf
              have hf := (if_neg hs38).symm.trans hf
              by_cases hs42 : t0_172 = 8
              · have hf := (if_pos hs42).symm.trans hf
                rw [show raVF t0_172.toNatClampNeg = raVF 8 from congrArg raVF (by rw [hs42]; rfl)]
                obtain ⟨hc43, hf⟩ := ck_e hf
                obtain ⟨VFv44, eVFv44, hf⟩ := bd1_e hf
                refine va_iast hx hb hK hP hD hS 21 1 rfl rfl hc43 dX6_measure_172 (fun H locs hP hD hS => ?_)
                have hP : va_P (dC, dI) vwCl (ww_X6_measure cs ad raRW raUO raUF raVO raVF raO raA nA RW_172 UF_172 VFv44 O A) H := g_toP (by rw [eVFv44]; rfl) hP
                have hD : va_D (va_A (ww_X6_measure cs ad raRW raUO raUF raVO raVF raO raA nA zD (fun _ _ => 0) (fun _ _ => 0) zD (fun _ => 0)) s.heap.size) (ww_X6_measure cs ad raRW raUO raUF raVO raVF raO raA nA RW_172 UF_172 VFv44 O A) := g_toD (by rw [eVFv44]; rfl) hD
                obtain ⟨v45, ev45, hf⟩ := bd1_e hf
                refine lv_iinc (k := 5) (x := x5_172) (v := v45) (nL := 6) (lv' := [(5, .int v45), (0, .ref (raRW 0)), (1, .ref (raO 0)), (2, .ref raA), (3, .int x3_172), (4, .int x4_172)]) hx hb dX6_measure_173 hl rfl (kt_inc (w := 1) (by decide) ev45) (by decide) rfl (fun ls hl => ?_)
                refine lv_goto (tgt := 113) hx hb dX6_measure_176 (by decide) ?_
                exact ih_113 x3_172 x4_172 v45 RW_172 UF_172 VFv44 ls _ _ (lv_sub hl [1, 2, 3, 4, 5, 0] rfl) hP hD hS hf
              have hf := (if_neg hs42).symm.trans hf
              cases hf
            refine lv_iload hx hb dX6_measure_113 (lv_at hl 5 rfl) ?_
            refine lv_bipush (v := 6) hx hb dX6_measure_115 (by decide) ?_
            refine lv_icmp_ge (tgt := 179) hx hb dX6_measure_117 (by decide) (fun hb81 => ?_) (fun hb81 => ?_)
            · have hf := (if_pos hb81).symm.trans hf
              exact h_179 x3_113 x4_113 RW_113 UF_113 VF_113 ls _ _ (lv_sub hl [0, 1, 2, 3, 4] rfl) hP hD hS hf
            · have hf := (if_neg hb81).symm.trans hf
              refine lv_aload_n hx hb dX6_measure_120 rfl (lv_at hl 0 rfl) ?_
              refine va_get (D := (dC, dI)) (ci := 7) (C := RX6) (T := TX6) (N := 5) hx hb hts hinX6 hown hK hP 0 rfl rfl 1 (by decide) (v := .ref raVO) k_fieldLink_RX6_16__KeyLetters_Rows___from_____I_ (fun _ h9 => h9) rfl dX6_measure_121 ?_
              refine lv_iload hx hb dX6_measure_124 (lv_at hl 4 rfl) ?_
              obtain ⟨hc46, hf⟩ := ck_e hf
              refine g_aldqA (f := fun j => some (raVF j)) hx hb hK hP 12 7 rfl rfl hc46 dX6_measure_126 ?_
              refine kt_v (show va_rf (some (raVF x4_113.toNatClampNeg)) = Value.ref (raVF x4_113.toNatClampNeg) from rfl) ?_
              refine lv_iload hx hb dX6_measure_127 (lv_at hl 5 rfl) ?_
              refine lv_aload_n hx hb dX6_measure_129 rfl (lv_at hl 1 rfl) ?_
              refine lv_iload hx hb dX6_measure_130 (lv_at hl 5 rfl) ?_
              refine lv_aload_n hx hb dX6_measure_132 rfl (lv_at hl 2 rfl) ?_
              refine lv_iload hx hb dX6_measure_133 (lv_at hl 4 rfl) ?_
              obtain ⟨hc47, hf⟩ := ck_e hf
              refine va_iald hx hb hK hP 30 1 rfl rfl hc47 dX6_measure_135 ?_
              obtain ⟨v49, hq48, hf⟩ := bo_e hf
              refine ko_call (v := some (.int v49)) (va_runVN (As := [.int x5_113, .int (A x4_113.toNatClampNeg)]) (rest := [.int x5_113, .ref (raVF x4_113.toNatClampNeg)]) ⟨hx, hb, hml, hown, hts⟩ (c_X3_knowsOf l dC dI cs ad raO O x5_113 (A x4_113.toNatClampNeg) v49 hq48) ⟨va_cnB 2 hts gX6_measure_X3_knowsOf_n27 rfl rfl rfl (hN _ (List.mem_of_getElem? (i := 114) rfl)) k_initialized_RX3 (by decide +kernel) ⟨Nat.le_of_ble_eq_true rfl, Nat.le_of_ble_eq_true rfl⟩, k_instanceMethod_yX3_knowsOf, k_selects_RX3_yX3_knowsOf_yX3_knowsOf⟩ ⟨fun a U g mk q => ⟨q.1, (fun _ _ _ _ => cPr_bl) a U g mk q.2⟩, va_recv hK hP (ci := 4) (q0 := 22) rfl rfl, fun U hU hW => ⟨rfl, ⟨by rw [hU]; exact (hP.sub (ws' := (ww_X3_knowsOf cs ad raO O)) [22, 23, 24, 25, 26, 27, 28, 29] rfl), va_K.moved hW.alike hK, kN_warm hW hN⟩⟩⟩ rfl rfl hl.1 rfl (lv_room (Nat.le_of_ble_eq_true rfl)) dX6_measure_136 ⟨Nat.le_refl _, Nat.le_refl _⟩) ?_
              refine lv_if_eq (tgt := 171) hx hb dX6_measure_139 (by decide) (fun hb80 => ?_) (fun hb80 => ?_)
              · have hf := (if_pos hb80).symm.trans hf
                refine lv_iconst (v := 0) hx hb dX6_measure_171 (by decide) ?_
                exact h_172 x3_113 x4_113 x5_113 x4_113 x5_113 (0 : Int32) RW_113 UF_113 VF_113 ls _ _ hl hP hD hS hf
              · have hf := (if_neg hb80).symm.trans hf
                refine lv_iload hx hb dX6_measure_142 (lv_at hl 4 rfl) ?_
                refine lv_iload_n hx hb dX6_measure_144 rfl (lv_at hl 3 rfl) ?_
                refine lv_iconst (v := 1) hx hb dX6_measure_145 (by decide) ?_
                refine lv_isub hx hb dX6_measure_146 ?_
                refine lv_icmp_ne (tgt := 154) hx hb dX6_measure_147 (by decide) (fun hb79 => ?_) (fun hb79 => ?_)
                · have hf := (if_neg hb79).symm.trans hf
                  refine lv_aload_n hx hb dX6_measure_154 rfl (lv_at hl 0 rfl) ?_
                  refine va_get (D := (dC, dI)) (ci := 7) (C := RX6) (T := TX6) (N := 5) hx hb hts hinX6 hown hK hP 0 rfl rfl 1 (by decide) (v := .ref raVO) k_fieldLink_RX6_16__KeyLetters_Rows___from_____I_ (fun _ h9 => h9) rfl dX6_measure_155 ?_
                  refine lv_iload hx hb dX6_measure_158 (lv_at hl 4 rfl) ?_
                  refine lv_iconst (v := 1) hx hb dX6_measure_160 (by decide) ?_
                  refine lv_iadd hx hb dX6_measure_161 ?_
                  obtain ⟨v50, ev50, hf⟩ := bd1_e hf
                  refine kt_i ev50 ?_
                  obtain ⟨hc51, hf⟩ := ck_e hf
                  refine g_aldqA (f := fun j => some (raVF j)) hx hb hK hP 12 7 rfl rfl hc51 dX6_measure_162 ?_
                  refine kt_v (show va_rf (some (raVF v50.toNatClampNeg)) = Value.ref (raVF v50.toNatClampNeg) from rfl) ?_
                  refine lv_iload hx hb dX6_measure_163 (lv_at hl 5 rfl) ?_
                  by_cases hs52 : v50 = 0
                  · have hf := (if_pos hs52).symm.trans hf
                    rw [show raVF v50.toNatClampNeg = raVF 0 from congrArg raVF (by rw [hs52]; rfl)]
                    obtain ⟨v54, hq53, hf⟩ := bo_e hf
                    refine ko_call (v := some (.int v54)) (va_runS (As := [.ref (raVF 0), .int x5_113]) (rest := [.int x5_113, .ref (raVF x4_113.toNatClampNeg)]) ⟨hx, hb, hml, hown, hts⟩ (c_X6_sumWithout l dC dI cs ad (raVF 0) 6 (VF_113 0) x5_113 v54 hq53) (va_cwS 2 hts gX6_measure_X6_sumWithout rfl rfl rfl (by decide +kernel) ⟨Nat.le_of_ble_eq_true rfl, Nat.le_of_ble_eq_true rfl⟩) ⟨fun a U g mk q => ⟨q.1, (fun _ _ _ _ => cPr_bl) a U g mk q.2⟩, fun U hU hW => ⟨rfl, ⟨by rw [hU]; exact (hP.sub (ws' := (ww_X6_sumWithout cs ad (raVF 0) 6 (VF_113 0))) [13] rfl), va_K.moved hW.alike hK, kN_warm hW hN⟩⟩⟩ rfl rfl hl.1 rfl (lv_room (Nat.le_of_ble_eq_true rfl)) dX6_measure_165 ⟨Nat.le_refl _, Nat.le_refl _⟩) ?_
                    refine lv_goto (tgt := 172) hx hb dX6_measure_168 (by decide) ?_
                    exact h_172 x3_113 x4_113 x5_113 x4_113 x5_113 v54 RW_113 UF_113 VF_113 ls _ _ hl hP hD hS hf
                  have hf := (if_neg hs52).symm.trans hf
                  by_cases hs55 : v50 = 1
                  · have hf := (if_pos hs55).symm.trans hf
                    rw [show raVF v50.toNatClampNeg = raVF 1 from congrArg raVF (by rw [hs55]; rfl)]
                    obtain ⟨v57, hq56, hf⟩ := bo_e hf
                    refine ko_call (v := some (.int v57)) (va_runS (As := [.ref (raVF 1), .int x5_113]) (rest := [.int x5_113, .ref (raVF x4_113.toNatClampNeg)]) ⟨hx, hb, hml, hown, hts⟩ (c_X6_sumWithout l dC dI cs ad (raVF 1) 6 (VF_113 1) x5_113 v57 hq56) (va_cwS 2 hts gX6_measure_X6_sumWithout rfl rfl rfl (by decide +kernel) ⟨Nat.le_of_ble_eq_true rfl, Nat.le_of_ble_eq_true rfl⟩) ⟨fun a U g mk q => ⟨q.1, (fun _ _ _ _ => cPr_bl) a U g mk q.2⟩, fun U hU hW => ⟨rfl, ⟨by rw [hU]; exact (hP.sub (ws' := (ww_X6_sumWithout cs ad (raVF 1) 6 (VF_113 1))) [14] rfl), va_K.moved hW.alike hK, kN_warm hW hN⟩⟩⟩ rfl rfl hl.1 rfl (lv_room (Nat.le_of_ble_eq_true rfl)) dX6_measure_165 ⟨Nat.le_refl _, Nat.le_refl _⟩) ?_
                    refine lv_goto (tgt := 172) hx hb dX6_measure_168 (by decide) ?_
                    exact h_172 x3_113 x4_113 x5_113 x4_113 x5_113 v57 RW_113 UF_113 VF_113 ls _ _ hl hP hD hS hf
                  have hf := (if_neg hs55).symm.trans hf
                  by_cases hs58 : v50 = 2
                  · have hf := (if_pos hs58).symm.trans hf
                    rw [show raVF v50.toNatClampNeg = raVF 2 from congrArg raVF (by rw [hs58]; rfl)]
                    obtain ⟨v60, hq59, hf⟩ := bo_e hf
                    refine ko_call (v := some (.int v60)) (va_runS (As := [.ref (raVF 2), .int x5_113]) (rest := [.int x5_113, .ref (raVF x4_113.toNatClampNeg)]) ⟨hx, hb, hml, hown, hts⟩ (c_X6_sumWithout l dC dI cs ad (raVF 2) 6 (VF_113 2) x5_113 v60 hq59) (va_cwS 2 hts gX6_measure_X6_sumWithout rfl rfl rfl (by decide +kernel) ⟨Nat.le_of_ble_eq_true rfl, Nat.le_of_ble_eq_true rfl⟩) ⟨fun a U g mk q => ⟨q.1, (fun _ _ _ _ => cPr_bl) a U g mk q.2⟩, fun U hU hW => ⟨rfl, ⟨by rw [hU]; exact (hP.sub (ws' := (ww_X6_sumWithout cs ad (raVF 2) 6 (VF_113 2))) [15] rfl), va_K.moved hW.alike hK, kN_warm hW hN⟩⟩⟩ rfl rfl hl.1 rfl (lv_room (Nat.le_of_ble_eq_true rfl)) dX6_measure_165 ⟨Nat.le_refl _, Nat.le_refl _⟩) ?_
                    refine lv_goto (tgt := 172) hx hb dX6_measure_168 (by decide) ?_
                    exact h_172 x3_113 x4_113 x5_113 x4_113 x5_113 v60 RW_113 UF_113 VF_113 ls _ _ hl hP hD hS hf
                  have hf := (if_neg hs58).symm.trans hf
                  by_cases hs61 : v50 = 3
                  · have hf := (if_pos hs61).symm.trans hf
                    rw [show raVF v50.toNatClampNeg = raVF 3 from congrArg raVF (by rw [hs61]; rfl)]
                    obtain ⟨v63, hq62, hf⟩ := bo_e hf
                    refine ko_call (v := some (.int v63)) (va_runS (As := [.ref (raVF 3), .int x5_113]) (rest := [.int x5_113, .ref (raVF x4_113.toNatClampNeg)]) ⟨hx, hb, hml, hown, hts⟩ (c_X6_sumWithout l dC dI cs ad (raVF 3) 6 (VF_113 3) x5_113 v63 hq62) (va_cwS 2 hts gX6_measure_X6_sumWithout rfl rfl rfl (by decide +kernel) ⟨Nat.le_of_ble_eq_true rfl, Nat.le_of_ble_eq_true rfl⟩) ⟨fun a U g mk q => ⟨q.1, (fun _ _ _ _ => cPr_bl) a U g mk q.2⟩, fun U hU hW => ⟨rfl, ⟨by rw [hU]; exact (hP.sub (ws' := (ww_X6_sumWithout cs ad (raVF 3) 6 (VF_113 3))) [16] rfl), va_K.moved hW.alike hK, kN_warm hW hN⟩⟩⟩ rfl rfl hl.1 rfl (lv_room (Nat.le_of_ble_eq_true rfl)) dX6_measure_165 ⟨Nat.le_refl _, Nat.le_refl _⟩) ?_
                    refine lv_goto (tgt := 172) hx hb dX6_measure_168 (by decide) ?_
                    exact h_172 x3_113 x4_113 x5_113 x4_113 x5_113 v63 RW_113 UF_113 VF_113 ls _ _ hl hP hD hS hf
                  have hf := (if_neg hs61).symm.trans hf
                  by_cases hs64 : v50 = 4
                  · have hf := (if_pos hs64).symm.trans hf
                    rw [show raVF v50.toNatClampNeg = raVF 4 from congrArg raVF (by rw [hs64]; rfl)]
                    obtain ⟨v66, hq65, hf⟩ := bo_e hf
                    refine ko_call (v := some (.int v66)) (va_runS (As := [.ref (raVF 4), .int x5_113]) (rest := [.int x5_113, .ref (raVF x4_113.toNatClampNeg)]) ⟨hx, hb, hml, hown, hts⟩ (c_X6_sumWithout l dC dI cs ad (raVF 4) 6 (VF_113 4) x5_113 v66 hq65) (va_cwS 2 hts gX6_measure_X6_sumWithout rfl rfl rfl (by decide +kernel) ⟨Nat.le_of_ble_eq_true rfl, Nat.le_of_ble_eq_true rfl⟩) ⟨fun a U g mk q => ⟨q.1, (fun _ _ _ _ => cPr_bl) a U g mk q.2⟩, fun U hU hW => ⟨rfl, ⟨by rw [hU]; exact (hP.sub (ws' := (ww_X6_sumWithout cs ad (raVF 4) 6 (VF_113 4))) [17] rfl), va_K.moved hW.alike hK, kN_warm hW hN⟩⟩⟩ rfl rfl hl.1 rfl (lv_room (Nat.le_of_ble_eq_true rfl)) dX6_measure_165 ⟨Nat.le_refl _, Nat.le_refl _⟩) ?_
                    refine lv_goto (tgt := 172) hx hb dX6_measure_168 (by decide) ?_
                    exact h_172 x3_113 x4_113 x5_113 x4_113 x5_113 v66 RW_113 UF_113 VF_113 ls _ _ hl hP hD hS hf
                  have hf := (if_neg hs64).symm.trans hf
                  by_cases hs67 : v50 = 5
                  · have hf := (if_pos hs67).symm.trans hf
                    rw [show raVF v50.toNatClampNeg = raVF 5 from congrArg raVF (by rw [hs67]; rfl)]
                    obtain ⟨v69, hq68, hf⟩ := bo_e hf
                    refine ko_call (v := some (.int v69)) (va_runS (As := [.ref (raVF 5), .int x5_113]) (rest := [.int x5_113, .ref (raVF x4_113.toNatClampNeg)]) ⟨hx, hb, hml, hown, hts⟩ (c_X6_sumWithout l dC dI cs ad (raVF 5) 6 (VF_113 5) x5_113 v69 hq68) (va_cwS 2 hts gX6_measure_X6_sumWithout rfl rfl rfl (by decide +kernel) ⟨Nat.le_of_ble_eq_true rfl, Nat.le_of_ble_eq_true rfl⟩) ⟨fun a U g mk q => ⟨q.1, (fun _ _ _ _ => cPr_bl) a U g mk q.2⟩, fun U hU hW => ⟨rfl, ⟨by rw [hU]; exact (hP.sub (ws' := (ww_X6_sumWithout cs ad (raVF 5) 6 (VF_113 5))) [18] rfl), va_K.moved hW.alike hK, kN_warm hW hN⟩⟩⟩ rfl rfl hl.1 rfl (lv_room (Nat.le_of_ble_eq_true rfl)) dX6_measure_165 ⟨Nat.le_refl _, Nat.le_refl _⟩) ?_
                    refine lv_goto (tgt := 172) hx hb dX6_measure_168 (by decide) ?_
                    exact h_172 x3_113 x4_113 x5_113 x4_113 x5_113 v69 RW_113 UF_113 VF_113 ls _ _ hl hP hD hS hf
                  have hf := (if_neg hs67).symm.trans hf
                  by_cases hs70 : v50 = 6
                  · have hf := (if_pos hs70).symm.trans hf
                    rw [show raVF v50.toNatClampNeg = raVF 6 from congrArg raVF (by rw [hs70]; rfl)]
                    obtain ⟨v72, hq71, hf⟩ := bo_e hf
                    refine ko_call (v := some (.int v72)) (va_runS (As := [.ref (raVF 6), .int x5_113]) (rest := [.int x5_113, .ref (raVF x4_113.toNatClampNeg)]) ⟨hx, hb, hml, hown, hts⟩ (c_X6_sumWithout l dC dI cs ad (raVF 6) 6 (VF_113 6) x5_113 v72 hq71) (va_cwS 2 hts gX6_measure_X6_sumWithout rfl rfl rfl (by decide +kernel) ⟨Nat.le_of_ble_eq_true rfl, Nat.le_of_ble_eq_true rfl⟩) ⟨fun a U g mk q => ⟨q.1, (fun _ _ _ _ => cPr_bl) a U g mk q.2⟩, fun U hU hW => ⟨rfl, ⟨by rw [hU]; exact (hP.sub (ws' := (ww_X6_sumWithout cs ad (raVF 6) 6 (VF_113 6))) [19] rfl), va_K.moved hW.alike hK, kN_warm hW hN⟩⟩⟩ rfl rfl hl.1 rfl (lv_room (Nat.le_of_ble_eq_true rfl)) dX6_measure_165 ⟨Nat.le_refl _, Nat.le_refl _⟩) ?_
                    refine lv_goto (tgt := 172) hx hb dX6_measure_168 (by decide) ?_
                    exact h_172 x3_113 x4_113 x5_113 x4_113 x5_113 v72 RW_113 UF_113 VF_113 ls _ _ hl hP hD hS hf
                  have hf := (if_neg hs70).symm.trans hf
                  by_cases hs73 : v50 = 7
                  · have hf := (if_pos hs73).symm.trans hf
                    rw [show raVF v50.toNatClampNeg = raVF 7 from congrArg raVF (by rw [hs73]; rfl)]
                    obtain ⟨v75, hq74, hf⟩ := bo_e hf
                    refine ko_call (v := some (.int v75)) (va_runS (As := [.ref (raVF 7), .int x5_113]) (rest := [.int x5_113, .ref (raVF x4_113.toNatClampNeg)]) ⟨hx, hb, hml, hown, hts⟩ (c_X6_sumWithout l dC dI cs ad (raVF 7) 6 (VF_113 7) x5_113 v75 hq74) (va_cwS 2 hts gX6_measure_X6_sumWithout rfl rfl rfl (by decide +kernel) ⟨Nat.le_of_ble_eq_true rfl, Nat.le_of_ble_eq_true rfl⟩) ⟨fun a U g mk q => ⟨q.1, (fun _ _ _ _ => cPr_bl) a U g mk q.2⟩, fun U hU hW => ⟨rfl, ⟨by rw [hU]; exact (hP.sub (ws' := (ww_X6_sumWithout cs ad (raVF 7) 6 (VF_113 7))) [20] rfl), va_K.moved hW.alike hK, kN_warm hW hN⟩⟩⟩ rfl rfl hl.1 rfl (lv_room (Nat.le_of_ble_eq_true rfl)) dX6_measure_165 ⟨Nat.le_refl _, Nat.le_refl _⟩) ?_
                    refine lv_goto (tgt := 172) hx hb dX6_measure_168 (by decide) ?_
                    exact h_172 x3_113 x4_113 x5_113 x4_113 x5_113 v75 RW_113 UF_113 VF_113 ls _ _ hl hP hD hS hf
                  have hf := (if_neg hs73).symm.trans hf
                  by_cases hs76 : v50 = 8
                  · have hf := (if_pos hs76).symm.trans hf
                    rw [show raVF v50.toNatClampNeg = raVF 8 from congrArg raVF (by rw [hs76]; rfl)]
                    obtain ⟨v78, hq77, hf⟩ := bo_e hf
                    refine ko_call (v := some (.int v78)) (va_runS (As := [.ref (raVF 8), .int x5_113]) (rest := [.int x5_113, .ref (raVF x4_113.toNatClampNeg)]) ⟨hx, hb, hml, hown, hts⟩ (c_X6_sumWithout l dC dI cs ad (raVF 8) 6 (VF_113 8) x5_113 v78 hq77) (va_cwS 2 hts gX6_measure_X6_sumWithout rfl rfl rfl (by decide +kernel) ⟨Nat.le_of_ble_eq_true rfl, Nat.le_of_ble_eq_true rfl⟩) ⟨fun a U g mk q => ⟨q.1, (fun _ _ _ _ => cPr_bl) a U g mk q.2⟩, fun U hU hW => ⟨rfl, ⟨by rw [hU]; exact (hP.sub (ws' := (ww_X6_sumWithout cs ad (raVF 8) 6 (VF_113 8))) [21] rfl), va_K.moved hW.alike hK, kN_warm hW hN⟩⟩⟩ rfl rfl hl.1 rfl (lv_room (Nat.le_of_ble_eq_true rfl)) dX6_measure_165 ⟨Nat.le_refl _, Nat.le_refl _⟩) ?_
                    refine lv_goto (tgt := 172) hx hb dX6_measure_168 (by decide) ?_
                    exact h_172 x3_113 x4_113 x5_113 x4_113 x5_113 v78 RW_113 UF_113 VF_113 ls _ _ hl hP hD hS hf
                  have hf := (if_neg hs76).symm.trans hf
                  cases hf
                · have hf := (if_pos hb79).symm.trans hf
                  refine lv_iconst (v := 1) hx hb dX6_measure_150 (by decide) ?_
                  refine lv_goto (tgt := 172) hx hb dX6_measure_151 (by decide) ?_
                  exact h_172 x3_113 x4_113 x5_113 x4_113 x5_113 (1 : Int32) RW_113 UF_113 VF_113 ls _ _ hl hP hD hS hf) 2000
        refine lv_iload hx hb dX6_measure_105 (lv_at hl 4 rfl) ?_
        refine lv_if_lt (tgt := 185) hx hb dX6_measure_107 (by decide) (fun hb82 => ?_) (fun hb82 => ?_)
        · have hf := (if_pos hb82).symm.trans hf
          exact h_185 x3_105 RW_105 UF_105 VF_105 ls _ _ (lv_sub hl [0, 3] rfl) hP hD hS hf
        · have hf := (if_neg hb82).symm.trans hf
          refine lv_iconst (v := 0) hx hb dX6_measure_110 (by decide) ?_
          refine lv_istore (nL := 6) (lv' := [(5, .int (0 : Int32)), (0, .ref (raRW 0)), (1, .ref (raO 0)), (2, .ref raA), (3, .int x3_105), (4, .int x4_105)]) hx hb dX6_measure_111 hl (by decide) rfl (fun ls hl => ?_)
          exact h_113 x3_105 x4_105 (0 : Int32) RW_105 UF_105 VF_105 ls _ _ (lv_sub hl [1, 2, 3, 4, 5, 0] rfl) hP hD hS hf) 2000
    refine lv_iload_n hx hb dX6_measure_100 rfl (lv_at hl 3 rfl) ?_
    refine lv_iconst (v := 1) hx hb dX6_measure_101 (by decide) ?_
    refine lv_isub hx hb dX6_measure_102 ?_
    obtain ⟨v83, ev83, hf⟩ := bd1_e hf
    refine kt_i ev83 ?_
    refine lv_istore (nL := 6) (lv' := [(4, .int v83), (0, .ref (raRW 0)), (1, .ref (raO 0)), (2, .ref raA), (3, .int x3_100)]) hx hb dX6_measure_103 hl (by decide) rfl (fun ls hl => ?_)
    exact h_105 x3_100 v83 RW_100 UF_100 VF_100 ls _ _ (lv_sub hl [1, 2, 3, 4, 0] rfl) hP hD hS hf
  have h_22 := lp_ind (z := (fun _ _ _ _ _ => none)) (b := (g_X6_measure_22 nA O A)) (fun (rc_22 : Int32 → Int32 → kD → (Nat → Nat → Int32) → (Nat → Nat → Int32) → Option (Int32 × kD × (Nat → Nat → Int32) × (Nat → Nat → Int32))) => ∀ (x3_22 : Int32) (x4_22 : Int32) (RW_22 : kD) (UF_22 : Nat → Nat → Int32) (VF_22 : Nat → Nat → Int32) (ls : Array Slot) (H : Heap) (locs : List Loc), lv_has ls 6 [(0, .ref (raRW 0)), (1, .ref (raO 0)), (2, .ref raA), (3, .int x3_22), (4, .int x4_22)] → va_P (dC, dI) vwCl (ww_X6_measure cs ad raRW raUO raUF raVO raVF raO raA nA RW_22 UF_22 VF_22 O A) H → va_D (va_A (ww_X6_measure cs ad raRW raUO raUF raVO raVF raO raA nA zD (fun _ _ => 0) (fun _ _ => 0) zD (fun _ => 0)) s.heap.size) (ww_X6_measure cs ad raRW raUO raUF raVO raVF raO raA nA RW_22 UF_22 VF_22 O A) → va_S (va_A (ww_X6_measure cs ad raRW raUO raUF raVO raVF raO raA nA zD (fun _ _ => 0) (fun _ _ => 0) zD (fun _ => 0)) s.heap.size) s.heap H locs → rc_22 x3_22 x4_22 RW_22 UF_22 VF_22 = some r → W p l e (headSpec wsX6_measure rm_X6_measure).room s m args below meth c H locs 0 0 (MQ below (cQi dC dI cs (va_A (ww_X6_measure cs ad raRW raUO raUF raVO raVF raO raA nA zD (fun _ _ => 0) (fun _ _ => 0) zD (fun _ => 0)) s.heap.size) r.1 (ww_X6_measure cs ad raRW raUO raUF raVO raVF raO raA nA r.2.1 r.2.2.1 r.2.2.2 O A)) args s 0 0 (va_A (ww_X6_measure cs ad raRW raUO raUF raVO raVF raO raA nA zD (fun _ _ => 0) (fun _ _ => 0) zD (fun _ => 0)) s.heap.size)) (F0 m 22 ls [])) (by
      intro x3_22 x4_22 RW_22 UF_22 VF_22 ls H locs hl hP hD hS hf
      cases hf) (by
      intro rc_22 ih_22 x3_22 x4_22 RW_22 UF_22 VF_22 ls H locs hl hP hD hS hf
      unfold g_X6_measure_22 at hf
      have h_94 : ∀ (x3_94 : Int32) (x4_94 : Int32) (RW_94 : kD) (UF_94 : Nat → Nat → Int32) (VF_94 : Nat → Nat → Int32) (ls : Array Slot) (H : Heap) (locs : List Loc), lv_has ls 6 [(0, .ref (raRW 0)), (1, .ref (raO 0)), (2, .ref raA), (3, .int x3_94), (4, .int x4_94)] → va_P (dC, dI) vwCl (ww_X6_measure cs ad raRW raUO raUF raVO raVF raO raA nA RW_94 UF_94 VF_94 O A) H → va_D (va_A (ww_X6_measure cs ad raRW raUO raUF raVO raVF raO raA nA zD (fun _ _ => 0) (fun _ _ => 0) zD (fun _ => 0)) s.heap.size) (ww_X6_measure cs ad raRW raUO raUF raVO raVF raO raA nA RW_94 UF_94 VF_94 O A) → va_S (va_A (ww_X6_measure cs ad raRW raUO raUF raVO raVF raO raA nA zD (fun _ _ => 0) (fun _ _ => 0) zD (fun _ => 0)) s.heap.size) s.heap H locs → g_X6_measure_94 rc_22 nA O A x3_94 x4_94 RW_94 UF_94 VF_94 = some r → W p l e (headSpec wsX6_measure rm_X6_measure).room s m args below meth c H locs 0 0 (MQ below (cQi dC dI cs (va_A (ww_X6_measure cs ad raRW raUO raUF raVO raVF raO raA nA zD (fun _ _ => 0) (fun _ _ => 0) zD (fun _ => 0)) s.heap.size) r.1 (ww_X6_measure cs ad raRW raUO raUF raVO raVF raO raA nA r.2.1 r.2.2.1 r.2.2.2 O A)) args s 0 0 (va_A (ww_X6_measure cs ad raRW raUO raUF raVO raVF raO raA nA zD (fun _ _ => 0) (fun _ _ => 0) zD (fun _ => 0)) s.heap.size)) (F0 m 94 ls []) := by
        intro x3_94 x4_94 RW_94 UF_94 VF_94 ls H locs hl hP hD hS hf
        unfold g_X6_measure_94 at hf
        obtain ⟨v84, ev84, hf⟩ := bd1_e hf
        refine lv_iinc (k := 4) (x := x4_94) (v := v84) (nL := 6) (lv' := [(4, .int v84), (0, .ref (raRW 0)), (1, .ref (raO 0)), (2, .ref raA), (3, .int x3_94)]) hx hb dX6_measure_94 hl rfl (kt_inc (w := 1) (by decide) ev84) (by decide) rfl (fun ls hl => ?_)
        refine lv_goto (tgt := 22) hx hb dX6_measure_97 (by decide) ?_
        exact ih_22 x3_94 v84 RW_94 UF_94 VF_94 ls _ _ (lv_sub hl [1, 2, 3, 4, 0] rfl) hP hD hS hf
      have h_31 := lp_ind (z := (fun _ _ _ _ _ _ => none)) (b := (g_X6_measure_31 rc_22 nA O A)) (fun (rc_31 : Int32 → Int32 → Int32 → kD → (Nat → Nat → Int32) → (Nat → Nat → Int32) → Option (Int32 × kD × (Nat → Nat → Int32) × (Nat → Nat → Int32))) => ∀ (x3_31 : Int32) (x4_31 : Int32) (x5_31 : Int32) (RW_31 : kD) (UF_31 : Nat → Nat → Int32) (VF_31 : Nat → Nat → Int32) (ls : Array Slot) (H : Heap) (locs : List Loc), lv_has ls 6 [(0, .ref (raRW 0)), (1, .ref (raO 0)), (2, .ref raA), (3, .int x3_31), (4, .int x4_31), (5, .int x5_31)] → va_P (dC, dI) vwCl (ww_X6_measure cs ad raRW raUO raUF raVO raVF raO raA nA RW_31 UF_31 VF_31 O A) H → va_D (va_A (ww_X6_measure cs ad raRW raUO raUF raVO raVF raO raA nA zD (fun _ _ => 0) (fun _ _ => 0) zD (fun _ => 0)) s.heap.size) (ww_X6_measure cs ad raRW raUO raUF raVO raVF raO raA nA RW_31 UF_31 VF_31 O A) → va_S (va_A (ww_X6_measure cs ad raRW raUO raUF raVO raVF raO raA nA zD (fun _ _ => 0) (fun _ _ => 0) zD (fun _ => 0)) s.heap.size) s.heap H locs → rc_31 x3_31 x4_31 x5_31 RW_31 UF_31 VF_31 = some r → W p l e (headSpec wsX6_measure rm_X6_measure).room s m args below meth c H locs 0 0 (MQ below (cQi dC dI cs (va_A (ww_X6_measure cs ad raRW raUO raUF raVO raVF raO raA nA zD (fun _ _ => 0) (fun _ _ => 0) zD (fun _ => 0)) s.heap.size) r.1 (ww_X6_measure cs ad raRW raUO raUF raVO raVF raO raA nA r.2.1 r.2.2.1 r.2.2.2 O A)) args s 0 0 (va_A (ww_X6_measure cs ad raRW raUO raUF raVO raVF raO raA nA zD (fun _ _ => 0) (fun _ _ => 0) zD (fun _ => 0)) s.heap.size)) (F0 m 31 ls [])) (by
          intro x3_31 x4_31 x5_31 RW_31 UF_31 VF_31 ls H locs hl hP hD hS hf
          cases hf) (by
          intro rc_31 ih_31 x3_31 x4_31 x5_31 RW_31 UF_31 VF_31 ls H locs hl hP hD hS hf
          unfold g_X6_measure_31 at hf
          have h_87 : ∀ (x3_87 : Int32) (x4_87 : Int32) (x5_87 : Int32) (t0_87 : Int32) (t1_87 : Int32) (t2_87 : Int32) (RW_87 : kD) (UF_87 : Nat → Nat → Int32) (VF_87 : Nat → Nat → Int32) (ls : Array Slot) (H : Heap) (locs : List Loc), lv_has ls 6 [(0, .ref (raRW 0)), (1, .ref (raO 0)), (2, .ref raA), (3, .int x3_87), (4, .int x4_87), (5, .int x5_87)] → va_P (dC, dI) vwCl (ww_X6_measure cs ad raRW raUO raUF raVO raVF raO raA nA RW_87 UF_87 VF_87 O A) H → va_D (va_A (ww_X6_measure cs ad raRW raUO raUF raVO raVF raO raA nA zD (fun _ _ => 0) (fun _ _ => 0) zD (fun _ => 0)) s.heap.size) (ww_X6_measure cs ad raRW raUO raUF raVO raVF raO raA nA RW_87 UF_87 VF_87 O A) → va_S (va_A (ww_X6_measure cs ad raRW raUO raUF raVO raVF raO raA nA zD (fun _ _ => 0) (fun _ _ => 0) zD (fun _ => 0)) s.heap.size) s.heap H locs → g_X6_measure_87 rc_22 rc_31 nA O A x3_87 x4_87 x5_87 t0_87 t1_87 t2_87 RW_87 UF_87 VF_87 = some r → W p l e (headSpec wsX6_measure rm_X6_measure).room s m args below meth c H locs 0 0 (MQ below (cQi dC dI cs (va_A (ww_X6_measure cs ad raRW raUO raUF raVO raVF raO raA nA zD (fun _ _ => 0) (fun _ _ => 0) zD (fun _ => 0)) s.heap.size) r.1 (ww_X6_measure cs ad raRW raUO raUF raVO raVF raO raA nA r.2.1 r.2.2.1 r.2.2.2 O A)) args s 0 0 (va_A (ww_X6_measure cs ad raRW raUO raUF raVO raVF raO raA nA zD (fun _ _ => 0) (fun _ _ => 0) zD (fun _ => 0)) s.heap.size)) (F0 m 87 ls [.int t2_87, .int t1_87, .ref (raUF t0_87.toNatClampNeg)]) := by
            intro x3_87 x4_87 x5_87 t0_87 t1_87 t2_87 RW_87 UF_87 VF_87 ls H locs hl hP hD hS hf
            unfold g_X6_measure_87 at hf
            by_cases hs85 : t0_87 = 0
            · have hf := (if_pos hs85).symm.trans hf
              rw [show raUF t0_87.toNatClampNeg = raUF 0 from congrArg raUF (by rw [hs85]; rfl)]
              obtain ⟨hc86, hf⟩ := ck_e hf
              obtain ⟨UFv87, eUFv87, hf⟩ := bd1_e hf
              refine va_iast hx hb hK hP hD hS 3 1 rfl rfl hc86 dX6_measure_87 (fun H locs hP hD hS => ?_)
              have hP : va_P (dC, dI) vwCl (ww_X6_measure cs ad raRW raUO raUF raVO raVF raO raA nA RW_87 UFv87 VF_87 O A) H := g_toP (by rw [eUFv87]; rfl) hP
              have hD : va_D (va_A (ww_X6_measure cs ad raRW raUO raUF raVO raVF raO raA nA zD (fun _ _ => 0) (fun _ _ => 0) zD (fun _ => 0)) s.heap.size) (ww_X6_measure cs ad raRW raUO raUF raVO raVF raO raA nA RW_87 UFv87 VF_87 O A) := g_toD (by rw [eUFv87]; rfl) hD
              obtain ⟨v88, ev88, hf⟩ := bd1_e hf
              refine lv_iinc (k := 5) (x := x5_87) (v := v88) (nL := 6) (lv' := [(5, .int v88), (0, .ref (raRW 0)), (1, .ref (raO 0)), (2, .ref raA), (3, .int x3_87), (4, .int x4_87)]) hx hb dX6_measure_88 hl rfl (kt_inc (w := 1) (by decide) ev88) (by decide) rfl (fun ls hl => ?_)
              refine lv_goto (tgt := 31) hx hb dX6_measure_91 (by decide) ?_
              exact ih_31 x3_87 x4_87 v88 RW_87 UFv87 VF_87 ls _ _ (lv_sub hl [1, 2, 3, 4, 5, 0] rfl) hP hD hS hf
            have hf := (if_neg hs85).symm.trans hf
            by_cases hs89 : t0_87 = 1
            · have hf := (if_pos hs89).symm.trans hf
              rw [show raUF t0_87.toNatClampNeg = raUF 1 from congrArg raUF (by rw [hs89]; rfl)]
              obtain ⟨hc90, hf⟩ := ck_e hf
              obtain ⟨UFv91, eUFv91, hf⟩ := bd1_e hf
              refine va_iast hx hb hK hP hD hS 4 1 rfl rfl hc90 dX6_measure_87 (fun H locs hP hD hS => ?_)
              have hP : va_P (dC, dI) vwCl (ww_X6_measure cs ad raRW raUO raUF raVO raVF raO raA nA RW_87 UFv91 VF_87 O A) H := g_toP (by rw [eUFv91]; rfl) hP
              have hD : va_D (va_A (ww_X6_measure cs ad raRW raUO raUF raVO raVF raO raA nA zD (fun _ _ => 0) (fun _ _ => 0) zD (fun _ => 0)) s.heap.size) (ww_X6_measure cs ad raRW raUO raUF raVO raVF raO raA nA RW_87 UFv91 VF_87 O A) := g_toD (by rw [eUFv91]; rfl) hD
              obtain ⟨v92, ev92, hf⟩ := bd1_e hf
              refine lv_iinc (k := 5) (x := x5_87) (v := v92) (nL := 6) (lv' := [(5, .int v92), (0, .ref (raRW 0)), (1, .ref (raO 0)), (2, .ref raA), (3, .int x3_87), (4, .int x4_87)]) hx hb dX6_measure_88 hl rfl (kt_inc (w := 1) (by decide) ev92) (by decide) rfl (fun ls hl => ?_)
              refine lv_goto (tgt := 31) hx hb dX6_measure_91 (by decide) ?_
              exact ih_31 x3_87 x4_87 v92 RW_87 UFv91 VF_87 ls _ _ (lv_sub hl [1, 2, 3, 4, 5, 0] rfl) hP hD hS hf
            have hf := (if_neg hs89).symm.trans hf
            by_cases hs93 : t0_87 = 2
            · have hf := (if_pos hs93).symm.trans hf
              rw [show raUF t0_87.toNatClampNeg = raUF 2 from congrArg raUF (by rw [hs93]; rfl)]
              obtain ⟨hc94, hf⟩ := ck_e hf
              obtain ⟨UFv95, eUFv95, hf⟩ := bd1_e hf
              refine va_iast hx hb hK hP hD hS 5 1 rfl rfl hc94 dX6_measure_87 (fun H locs hP hD hS => ?_)
              have hP : va_P (dC, dI) vwCl (ww_X6_measure cs ad raRW raUO raUF raVO raVF raO raA nA RW_87 UFv95 VF_87 O A) H := g_toP (by rw [eUFv95]; rfl) hP
              have hD : va_D (va_A (ww_X6_measure cs ad raRW raUO raUF raVO raVF raO raA nA zD (fun _ _ => 0) (fun _ _ => 0) zD (fun _ => 0)) s.heap.size) (ww_X6_measure cs ad raRW raUO raUF raVO raVF raO raA nA RW_87 UFv95 VF_87 O A) := g_toD (by rw [eUFv95]; rfl) hD
              obtain ⟨v96, ev96, hf⟩ := bd1_e hf
              refine lv_iinc (k := 5) (x := x5_87) (v := v96) (nL := 6) (lv' := [(5, .int v96), (0, .ref (raRW 0)), (1, .ref (raO 0)), (2, .ref raA), (3, .int x3_87), (4, .int x4_87)]) hx hb dX6_measure_88 hl rfl (kt_inc (w := 1) (by decide) ev96) (by decide) rfl (fun ls hl => ?_)
              refine lv_goto (tgt := 31) hx hb dX6_measure_91 (by decide) ?_
              exact ih_31 x3_87 x4_87 v96 RW_87 UFv95 VF_87 ls _ _ (lv_sub hl [1, 2, 3, 4, 5, 0] rfl) hP hD hS hf
            have hf := (if_neg hs93).symm.trans hf
            by_cases hs97 : t0_87 = 3
            · have hf := (if_pos hs97).symm.trans hf
              rw [show raUF t0_87.toNatClampNeg = raUF 3 from congrArg raUF (by rw [hs97]; rfl)]
              obtain ⟨hc98, hf⟩ := ck_e hf
              obtain ⟨UFv99, eUFv99, hf⟩ := bd1_e hf
              refine va_iast hx hb hK hP hD hS 6 1 rfl rfl hc98 dX6_measure_87 (fun H locs hP hD hS => ?_)
              have hP : va_P (dC, dI) vwCl (ww_X6_measure cs ad raRW raUO raUF raVO raVF raO raA nA RW_87 UFv99 VF_87 O A) H := g_toP (by rw [eUFv99]; rfl) hP
              have hD : va_D (va_A (ww_X6_measure cs ad raRW raUO raUF raVO raVF raO raA nA zD (fun _ _ => 0) (fun _ _ => 0) zD (fun _ => 0)) s.heap.size) (ww_X6_measure cs ad raRW raUO raUF raVO raVF raO raA nA RW_87 UFv99 VF_87 O A) := g_toD (by rw [eUFv99]; rfl) hD
              obtain ⟨v100, ev100, hf⟩ := bd1_e hf
              refine lv_iinc (k := 5) (x := x5_87) (v := v100) (nL := 6) (lv' := [(5, .int v100), (0, .ref (raRW 0)), (1, .ref (raO 0)), (2, .ref raA), (3, .int x3_87), (4, .int x4_87)]) hx hb dX6_measure_88 hl rfl (kt_inc (w := 1) (by decide) ev100) (by decide) rfl (fun ls hl => ?_)
              refine lv_goto (tgt := 31) hx hb dX6_measure_91 (by decide) ?_
              exact ih_31 x3_87 x4_87 v100 RW_87 UFv99 VF_87 ls _ _ (lv_sub hl [1, 2, 3, 4, 5, 0] rfl) hP hD hS hf
            have hf := (if_neg hs97).symm.trans hf
            by_cases hs101 : t0_87 = 4
            · have hf := (if_pos hs101).symm.trans hf
              rw [show raUF t0_87.toNatClampNeg = raUF 4 from congrArg raUF (by rw [hs101]; rfl)]
              obtain ⟨hc102, hf⟩ := ck_e hf
              obtain ⟨UFv103, eUFv103, hf⟩ := bd1_e hf
              refine va_iast hx hb hK hP hD hS 7 1 rfl rfl hc102 dX6_measure_87 (fun H locs hP hD hS => ?_)
              have hP : va_P (dC, dI) vwCl (ww_X6_measure cs ad raRW raUO raUF raVO raVF raO raA nA RW_87 UFv103 VF_87 O A) H := g_toP (by rw [eUFv103]; rfl) hP
              have hD : va_D (va_A (ww_X6_measure cs ad raRW raUO raUF raVO raVF raO raA nA zD (fun _ _ => 0) (fun _ _ => 0) zD (fun _ => 0)) s.heap.size) (ww_X6_measure cs ad raRW raUO raUF raVO raVF raO raA nA RW_87 UFv103 VF_87 O A) := g_toD (by rw [eUFv103]; rfl) hD
              obtain ⟨v104, ev104, hf⟩ := bd1_e hf
              refine lv_iinc (k := 5) (x := x5_87) (v := v104) (nL := 6) (lv' := [(5, .int v104), (0, .ref (raRW 0)), (1, .ref (raO 0)), (2, .ref raA), (3, .int x3_87), (4, .int x4_87)]) hx hb dX6_measure_88 hl rfl (kt_inc (w := 1) (by decide) ev104) (by decide) rfl (fun ls hl => ?_)
              refine lv_goto (tgt := 31) hx hb dX6_measure_91 (by decide) ?_
              exact ih_31 x3_87 x4_87 v104 RW_87 UFv103 VF_87 ls _ _ (lv_sub hl [1, 2, 3, 4, 5, 0] rfl) hP hD hS hf
            have hf := (if_neg hs101).symm.trans hf
            by_cases hs105 : t0_87 = 5
            · have hf := (if_pos hs105).symm.trans hf
              rw [show raUF t0_87.toNatClampNeg = raUF 5 from congrArg raUF (by rw [hs105]; rfl)]
              obtain ⟨hc106, hf⟩ := ck_e hf
              obtain ⟨UFv107, eUFv107, hf⟩ := bd1_e hf
              refine va_iast hx hb hK hP hD hS 8 1 rfl rfl hc106 dX6_measure_87 (fun H locs hP hD hS => ?_)
              have hP : va_P (dC, dI) vwCl (ww_X6_measure cs ad raRW raUO raUF raVO raVF raO raA nA RW_87 UFv107 VF_87 O A) H := g_toP (by rw [eUFv107]; rfl) hP
              have hD : va_D (va_A (ww_X6_measure cs ad raRW raUO raUF raVO raVF raO raA nA zD (fun _ _ => 0) (fun _ _ => 0) zD (fun _ => 0)) s.heap.size) (ww_X6_measure cs ad raRW raUO raUF raVO raVF raO raA nA RW_87 UFv107 VF_87 O A) := g_toD (by rw [eUFv107]; rfl) hD
              obtain ⟨v108, ev108, hf⟩ := bd1_e hf
              refine lv_iinc (k := 5) (x := x5_87) (v := v108) (nL := 6) (lv' := [(5, .int v108), (0, .ref (raRW 0)), (1, .ref (raO 0)), (2, .ref raA), (3, .int x3_87), (4, .int x4_87)]) hx hb dX6_measure_88 hl rfl (kt_inc (w := 1) (by decide) ev108) (by decide) rfl (fun ls hl => ?_)
              refine lv_goto (tgt := 31) hx hb dX6_measure_91 (by decide) ?_
              exact ih_31 x3_87 x4_87 v108 RW_87 UFv107 VF_87 ls _ _ (lv_sub hl [1, 2, 3, 4, 5, 0] rfl) hP hD hS hf
            have hf := (if_neg hs105).symm.trans hf
            by_cases hs109 : t0_87 = 6
            · have hf := (if_pos hs109).symm.trans hf
              rw [show raUF t0_87.toNatClampNeg = raUF 6 from congrArg raUF (by rw [hs109]; rfl)]
              obtain ⟨hc110, hf⟩ := ck_e hf
              obtain ⟨UFv111, eUFv111, hf⟩ := bd1_e hf
              refine va_iast hx hb hK hP hD hS 9 1 rfl rfl hc110 dX6_measure_87 (fun H locs hP hD hS => ?_)
              have hP : va_P (dC, dI) vwCl (ww_X6_measure cs ad raRW raUO raUF raVO raVF raO raA nA RW_87 UFv111 VF_87 O A) H := g_toP (by rw [eUFv111]; rfl) hP
              have hD : va_D (va_A (ww_X6_measure cs ad raRW raUO raUF raVO raVF raO raA nA zD (fun _ _ => 0) (fun _ _ => 0) zD (fun _ => 0)) s.heap.size) (ww_X6_measure cs ad raRW raUO raUF raVO raVF raO raA nA RW_87 UFv111 VF_87 O A) := g_toD (by rw [eUFv111]; rfl) hD
              obtain ⟨v112, ev112, hf⟩ := bd1_e hf
              refine lv_iinc (k := 5) (x := x5_87) (v := v112) (nL := 6) (lv' := [(5, .int v112), (0, .ref (raRW 0)), (1, .ref (raO 0)), (2, .ref raA), (3, .int x3_87), (4, .int x4_87)]) hx hb dX6_measure_88 hl rfl (kt_inc (w := 1) (by decide) ev112) (by decide) rfl (fun ls hl => ?_)
              refine lv_goto (tgt := 31) hx hb dX6_measure_91 (by decide) ?_
              exact ih_31 x3_87 x4_87 v112 RW_87 UFv111 VF_87 ls _ _ (lv_sub hl [1, 2, 3, 4, 5, 0] rfl) hP hD hS hf
            have hf := (if_neg hs109).symm.trans hf
            by_cases hs113 : t0_87 = 7
            · have hf := (if_pos hs113).symm.trans hf
              rw [show raUF t0_87.toNatClampNeg = raUF 7 from congrArg raUF (by rw [hs113]; rfl)]
              obtain ⟨hc114, hf⟩ := ck_e hf
              obtain ⟨UFv115, eUFv115, hf⟩ := bd1_e hf
              refine va_iast hx hb hK hP hD hS 10 1 rfl rfl hc114 dX6_measure_87 (fun H locs hP hD hS => ?_)
              have hP : va_P (dC, dI) vwCl (ww_X6_measure cs ad raRW raUO raUF raVO raVF raO raA nA RW_87 UFv115 VF_87 O A) H := g_toP (by rw [eUFv115]; rfl) hP
              have hD : va_D (va_A (ww_X6_measure cs ad raRW raUO raUF raVO raVF raO raA nA zD (fun _ _ => 0) (fun _ _ => 0) zD (fun _ => 0)) s.heap.size) (ww_X6_measure cs ad raRW raUO raUF raVO raVF raO raA nA RW_87 UFv115 VF_87 O A) := g_toD (by rw [eUFv115]; rfl) hD
              obtain ⟨v116, ev116, hf⟩ := bd1_e hf
              refine lv_iinc (k := 5) (x := x5_87) (v := v116) (nL := 6) (lv' := [(5, .int v116), (0, .ref (raRW 0)), (1, .ref (raO 0)), (2, .ref raA), (3, .int x3_87), (4, .int x4_87)]) hx hb dX6_measure_88 hl rfl (kt_inc (w := 1) (by decide) ev116) (by decide) rfl (fun ls hl => ?_)
              refine lv_goto (tgt := 31) hx hb dX6_measure_91 (by decide) ?_
              exact ih_31 x3_87 x4_87 v116 RW_87 UFv115 VF_87 ls _ _ (lv_sub hl [1, 2, 3, 4, 5, 0] rfl) hP hD hS hf
            have hf := (if_neg hs113).symm.trans hf
            by_cases hs117 : t0_87 = 8
            · have hf := (if_pos hs117).symm.trans hf
              rw [show raUF t0_87.toNatClampNeg = raUF 8 from congrArg raUF (by rw [hs117]; rfl)]
              obtain ⟨hc118, hf⟩ := ck_e hf
              obtain ⟨UFv119, eUFv119, hf⟩ := bd1_e hf
              refine va_iast hx hb hK hP hD hS 11 1 rfl rfl hc118 dX6_measure_87 (fun H locs hP hD hS => ?_)
              have hP : va_P (dC, dI) vwCl (ww_X6_measure cs ad raRW raUO raUF raVO raVF raO raA nA RW_87 UFv119 VF_87 O A) H := g_toP (by rw [eUFv119]; rfl) hP
              have hD : va_D (va_A (ww_X6_measure cs ad raRW raUO raUF raVO raVF raO raA nA zD (fun _ _ => 0) (fun _ _ => 0) zD (fun _ => 0)) s.heap.size) (ww_X6_measure cs ad raRW raUO raUF raVO raVF raO raA nA RW_87 UFv119 VF_87 O A) := g_toD (by rw [eUFv119]; rfl) hD
              obtain ⟨v120, ev120, hf⟩ := bd1_e hf
              refine lv_iinc (k := 5) (x := x5_87) (v := v120) (nL := 6) (lv' := [(5, .int v120), (0, .ref (raRW 0)), (1, .ref (raO 0)), (2, .ref raA), (3, .int x3_87), (4, .int x4_87)]) hx hb dX6_measure_88 hl rfl (kt_inc (w := 1) (by decide) ev120) (by decide) rfl (fun ls hl => ?_)
              refine lv_goto (tgt := 31) hx hb dX6_measure_91 (by decide) ?_
              exact ih_31 x3_87 x4_87 v120 RW_87 UFv119 VF_87 ls _ _ (lv_sub hl [1, 2, 3, 4, 5, 0] rfl) hP hD hS hf
            have hf := (if_neg hs117).symm.trans hf
            cases hf
          refine lv_iload hx hb dX6_measure_31 (lv_at hl 5 rfl) ?_
          refine lv_bipush (v := 6) hx hb dX6_measure_33 (by decide) ?_
          refine lv_icmp_ge (tgt := 94) hx hb dX6_measure_35 (by decide) (fun hb156 => ?_) (fun hb156 => ?_)
          · have hf := (if_pos hb156).symm.trans hf
            exact h_94 x3_31 x4_31 RW_31 UF_31 VF_31 ls _ _ (lv_sub hl [0, 1, 2, 3, 4] rfl) hP hD hS hf
          · have hf := (if_neg hb156).symm.trans hf
            refine lv_aload_n hx hb dX6_measure_38 rfl (lv_at hl 0 rfl) ?_
            refine va_get (D := (dC, dI)) (ci := 7) (C := RX6) (T := TX6) (N := 5) hx hb hts hinX6 hown hK hP 0 rfl rfl 0 (by decide) (v := .ref raUO) k_fieldLink_RX6_11__KeyLetters_Rows___upTo_____I_ (fun _ h9 => h9) rfl dX6_measure_39 ?_
            refine lv_iload hx hb dX6_measure_42 (lv_at hl 4 rfl) ?_
            obtain ⟨hc121, hf⟩ := ck_e hf
            refine g_aldqA (f := fun j => some (raUF j)) hx hb hK hP 2 7 rfl rfl hc121 dX6_measure_44 ?_
            refine kt_v (show va_rf (some (raUF x4_31.toNatClampNeg)) = Value.ref (raUF x4_31.toNatClampNeg) from rfl) ?_
            refine lv_iload hx hb dX6_measure_45 (lv_at hl 5 rfl) ?_
            refine lv_aload_n hx hb dX6_measure_47 rfl (lv_at hl 1 rfl) ?_
            refine lv_iload hx hb dX6_measure_48 (lv_at hl 5 rfl) ?_
            refine lv_aload_n hx hb dX6_measure_50 rfl (lv_at hl 2 rfl) ?_
            refine lv_iload hx hb dX6_measure_51 (lv_at hl 4 rfl) ?_
            obtain ⟨hc122, hf⟩ := ck_e hf
            refine va_iald hx hb hK hP 30 1 rfl rfl hc122 dX6_measure_53 ?_
            obtain ⟨v124, hq123, hf⟩ := bo_e hf
            refine ko_call (v := some (.int v124)) (va_runVN (As := [.int x5_31, .int (A x4_31.toNatClampNeg)]) (rest := [.int x5_31, .ref (raUF x4_31.toNatClampNeg)]) ⟨hx, hb, hml, hown, hts⟩ (c_X3_knowsOf l dC dI cs ad raO O x5_31 (A x4_31.toNatClampNeg) v124 hq123) ⟨va_cnB 2 hts gX6_measure_X3_knowsOf_n27 rfl rfl rfl (hN _ (List.mem_of_getElem? (i := 114) rfl)) k_initialized_RX3 (by decide +kernel) ⟨Nat.le_of_ble_eq_true rfl, Nat.le_of_ble_eq_true rfl⟩, k_instanceMethod_yX3_knowsOf, k_selects_RX3_yX3_knowsOf_yX3_knowsOf⟩ ⟨fun a U g mk q => ⟨q.1, (fun _ _ _ _ => cPr_bl) a U g mk q.2⟩, va_recv hK hP (ci := 4) (q0 := 22) rfl rfl, fun U hU hW => ⟨rfl, ⟨by rw [hU]; exact (hP.sub (ws' := (ww_X3_knowsOf cs ad raO O)) [22, 23, 24, 25, 26, 27, 28, 29] rfl), va_K.moved hW.alike hK, kN_warm hW hN⟩⟩⟩ rfl rfl hl.1 rfl (lv_room (Nat.le_of_ble_eq_true rfl)) dX6_measure_54 ⟨Nat.le_refl _, Nat.le_refl _⟩) ?_
            refine lv_if_eq (tgt := 86) hx hb dX6_measure_57 (by decide) (fun hb155 => ?_) (fun hb155 => ?_)
            · have hf := (if_pos hb155).symm.trans hf
              refine lv_iconst (v := 0) hx hb dX6_measure_86 (by decide) ?_
              exact h_87 x3_31 x4_31 x5_31 x4_31 x5_31 (0 : Int32) RW_31 UF_31 VF_31 ls _ _ hl hP hD hS hf
            · have hf := (if_neg hb155).symm.trans hf
              refine lv_iload hx hb dX6_measure_60 (lv_at hl 4 rfl) ?_
              refine lv_if_ne (tgt := 69) hx hb dX6_measure_62 (by decide) (fun hb154 => ?_) (fun hb154 => ?_)
              · have hf := (if_neg hb154).symm.trans hf
                refine lv_aload_n hx hb dX6_measure_69 rfl (lv_at hl 0 rfl) ?_
                refine va_get (D := (dC, dI)) (ci := 7) (C := RX6) (T := TX6) (N := 5) hx hb hts hinX6 hown hK hP 0 rfl rfl 0 (by decide) (v := .ref raUO) k_fieldLink_RX6_11__KeyLetters_Rows___upTo_____I_ (fun _ h9 => h9) rfl dX6_measure_70 ?_
                refine lv_iload hx hb dX6_measure_73 (lv_at hl 4 rfl) ?_
                refine lv_iconst (v := 1) hx hb dX6_measure_75 (by decide) ?_
                refine lv_isub hx hb dX6_measure_76 ?_
                obtain ⟨v125, ev125, hf⟩ := bd1_e hf
                refine kt_i ev125 ?_
                obtain ⟨hc126, hf⟩ := ck_e hf
                refine g_aldqA (f := fun j => some (raUF j)) hx hb hK hP 2 7 rfl rfl hc126 dX6_measure_77 ?_
                refine kt_v (show va_rf (some (raUF v125.toNatClampNeg)) = Value.ref (raUF v125.toNatClampNeg) from rfl) ?_
                refine lv_iload hx hb dX6_measure_78 (lv_at hl 5 rfl) ?_
                by_cases hs127 : v125 = 0
                · have hf := (if_pos hs127).symm.trans hf
                  rw [show raUF v125.toNatClampNeg = raUF 0 from congrArg raUF (by rw [hs127]; rfl)]
                  obtain ⟨v129, hq128, hf⟩ := bo_e hf
                  refine ko_call (v := some (.int v129)) (va_runS (As := [.ref (raUF 0), .int x5_31]) (rest := [.int x5_31, .ref (raUF x4_31.toNatClampNeg)]) ⟨hx, hb, hml, hown, hts⟩ (c_X6_sumWithout l dC dI cs ad (raUF 0) 6 (UF_31 0) x5_31 v129 hq128) (va_cwS 2 hts gX6_measure_X6_sumWithout rfl rfl rfl (by decide +kernel) ⟨Nat.le_of_ble_eq_true rfl, Nat.le_of_ble_eq_true rfl⟩) ⟨fun a U g mk q => ⟨q.1, (fun _ _ _ _ => cPr_bl) a U g mk q.2⟩, fun U hU hW => ⟨rfl, ⟨by rw [hU]; exact (hP.sub (ws' := (ww_X6_sumWithout cs ad (raUF 0) 6 (UF_31 0))) [3] rfl), va_K.moved hW.alike hK, kN_warm hW hN⟩⟩⟩ rfl rfl hl.1 rfl (lv_room (Nat.le_of_ble_eq_true rfl)) dX6_measure_80 ⟨Nat.le_refl _, Nat.le_refl _⟩) ?_
                  refine lv_goto (tgt := 87) hx hb dX6_measure_83 (by decide) ?_
                  exact h_87 x3_31 x4_31 x5_31 x4_31 x5_31 v129 RW_31 UF_31 VF_31 ls _ _ hl hP hD hS hf
                have hf := (if_neg hs127).symm.trans hf
                by_cases hs130 : v125 = 1
                · have hf := (if_pos hs130).symm.trans hf
                  rw [show raUF v125.toNatClampNeg = raUF 1 from congrArg raUF (by rw [hs130]; rfl)]
                  obtain ⟨v132, hq131, hf⟩ := bo_e hf
                  refine ko_call (v := some (.int v132)) (va_runS (As := [.ref (raUF 1), .int x5_31]) (rest := [.int x5_31, .ref (raUF x4_31.toNatClampNeg)]) ⟨hx, hb, hml, hown, hts⟩ (c_X6_sumWithout l dC dI cs ad (raUF 1) 6 (UF_31 1) x5_31 v132 hq131) (va_cwS 2 hts gX6_measure_X6_sumWithout rfl rfl rfl (by decide +kernel) ⟨Nat.le_of_ble_eq_true rfl, Nat.le_of_ble_eq_true rfl⟩) ⟨fun a U g mk q => ⟨q.1, (fun _ _ _ _ => cPr_bl) a U g mk q.2⟩, fun U hU hW => ⟨rfl, ⟨by rw [hU]; exact (hP.sub (ws' := (ww_X6_sumWithout cs ad (raUF 1) 6 (UF_31 1))) [4] rfl), va_K.moved hW.alike hK, kN_warm hW hN⟩⟩⟩ rfl rfl hl.1 rfl (lv_room (Nat.le_of_ble_eq_true rfl)) dX6_measure_80 ⟨Nat.le_refl _, Nat.le_refl _⟩) ?_
                  refine lv_goto (tgt := 87) hx hb dX6_measure_83 (by decide) ?_
                  exact h_87 x3_31 x4_31 x5_31 x4_31 x5_31 v132 RW_31 UF_31 VF_31 ls _ _ hl hP hD hS hf
                have hf := (if_neg hs130).symm.trans hf
                by_cases hs133 : v125 = 2
                · have hf := (if_pos hs133).symm.trans hf
                  rw [show raUF v125.toNatClampNeg = raUF 2 from congrArg raUF (by rw [hs133]; rfl)]
                  obtain ⟨v135, hq134, hf⟩ := bo_e hf
                  refine ko_call (v := some (.int v135)) (va_runS (As := [.ref (raUF 2), .int x5_31]) (rest := [.int x5_31, .ref (raUF x4_31.toNatClampNeg)]) ⟨hx, hb, hml, hown, hts⟩ (c_X6_sumWithout l dC dI cs ad (raUF 2) 6 (UF_31 2) x5_31 v135 hq134) (va_cwS 2 hts gX6_measure_X6_sumWithout rfl rfl rfl (by decide +kernel) ⟨Nat.le_of_ble_eq_true rfl, Nat.le_of_ble_eq_true rfl⟩) ⟨fun a U g mk q => ⟨q.1, (fun _ _ _ _ => cPr_bl) a U g mk q.2⟩, fun U hU hW => ⟨rfl, ⟨by rw [hU]; exact (hP.sub (ws' := (ww_X6_sumWithout cs ad (raUF 2) 6 (UF_31 2))) [5] rfl), va_K.moved hW.alike hK, kN_warm hW hN⟩⟩⟩ rfl rfl hl.1 rfl (lv_room (Nat.le_of_ble_eq_true rfl)) dX6_measure_80 ⟨Nat.le_refl _, Nat.le_refl _⟩) ?_
                  refine lv_goto (tgt := 87) hx hb dX6_measure_83 (by decide) ?_
                  exact h_87 x3_31 x4_31 x5_31 x4_31 x5_31 v135 RW_31 UF_31 VF_31 ls _ _ hl hP hD hS hf
                have hf := (if_neg hs133).symm.trans hf
                by_cases hs136 : v125 = 3
                · have hf := (if_pos hs136).symm.trans hf
                  rw [show raUF v125.toNatClampNeg = raUF 3 from congrArg raUF (by rw [hs136]; rfl)]
                  obtain ⟨v138, hq137, hf⟩ := bo_e hf
                  refine ko_call (v := some (.int v138)) (va_runS (As := [.ref (raUF 3), .int x5_31]) (rest := [.int x5_31, .ref (raUF x4_31.toNatClampNeg)]) ⟨hx, hb, hml, hown, hts⟩ (c_X6_sumWithout l dC dI cs ad (raUF 3) 6 (UF_31 3) x5_31 v138 hq137) (va_cwS 2 hts gX6_measure_X6_sumWithout rfl rfl rfl (by decide +kernel) ⟨Nat.le_of_ble_eq_true rfl, Nat.le_of_ble_eq_true rfl⟩) ⟨fun a U g mk q => ⟨q.1, (fun _ _ _ _ => cPr_bl) a U g mk q.2⟩, fun U hU hW => ⟨rfl, ⟨by rw [hU]; exact (hP.sub (ws' := (ww_X6_sumWithout cs ad (raUF 3) 6 (UF_31 3))) [6] rfl), va_K.moved hW.alike hK, kN_warm hW hN⟩⟩⟩ rfl rfl hl.1 rfl (lv_room (Nat.le_of_ble_eq_true rfl)) dX6_measure_80 ⟨Nat.le_refl _, Nat.le_refl _⟩) ?_
                  refine lv_goto (tgt := 87) hx hb dX6_measure_83 (by decide) ?_
                  exact h_87 x3_31 x4_31 x5_31 x4_31 x5_31 v138 RW_31 UF_31 VF_31 ls _ _ hl hP hD hS hf
                have hf := (if_neg hs136).symm.trans hf
                by_cases hs139 : v125 = 4
                · have hf := (if_pos hs139).symm.trans hf
                  rw [show raUF v125.toNatClampNeg = raUF 4 from congrArg raUF (by rw [hs139]; rfl)]
                  obtain ⟨v141, hq140, hf⟩ := bo_e hf
                  refine ko_call (v := some (.int v141)) (va_runS (As := [.ref (raUF 4), .int x5_31]) (rest := [.int x5_31, .ref (raUF x4_31.toNatClampNeg)]) ⟨hx, hb, hml, hown, hts⟩ (c_X6_sumWithout l dC dI cs ad (raUF 4) 6 (UF_31 4) x5_31 v141 hq140) (va_cwS 2 hts gX6_measure_X6_sumWithout rfl rfl rfl (by decide +kernel) ⟨Nat.le_of_ble_eq_true rfl, Nat.le_of_ble_eq_true rfl⟩) ⟨fun a U g mk q => ⟨q.1, (fun _ _ _ _ => cPr_bl) a U g mk q.2⟩, fun U hU hW => ⟨rfl, ⟨by rw [hU]; exact (hP.sub (ws' := (ww_X6_sumWithout cs ad (raUF 4) 6 (UF_31 4))) [7] rfl), va_K.moved hW.alike hK, kN_warm hW hN⟩⟩⟩ rfl rfl hl.1 rfl (lv_room (Nat.le_of_ble_eq_true rfl)) dX6_measure_80 ⟨Nat.le_refl _, Nat.le_refl _⟩) ?_
                  refine lv_goto (tgt := 87) hx hb dX6_measure_83 (by decide) ?_
                  exact h_87 x3_31 x4_31 x5_31 x4_31 x5_31 v141 RW_31 UF_31 VF_31 ls _ _ hl hP hD hS hf
                have hf := (if_neg hs139).symm.trans hf
                by_cases hs142 : v125 = 5
                · have hf := (if_pos hs142).symm.trans hf
                  rw [show raUF v125.toNatClampNeg = raUF 5 from congrArg raUF (by rw [hs142]; rfl)]
                  obtain ⟨v144, hq143, hf⟩ := bo_e hf
                  refine ko_call (v := some (.int v144)) (va_runS (As := [.ref (raUF 5), .int x5_31]) (rest := [.int x5_31, .ref (raUF x4_31.toNatClampNeg)]) ⟨hx, hb, hml, hown, hts⟩ (c_X6_sumWithout l dC dI cs ad (raUF 5) 6 (UF_31 5) x5_31 v144 hq143) (va_cwS 2 hts gX6_measure_X6_sumWithout rfl rfl rfl (by decide +kernel) ⟨Nat.le_of_ble_eq_true rfl, Nat.le_of_ble_eq_true rfl⟩) ⟨fun a U g mk q => ⟨q.1, (fun _ _ _ _ => cPr_bl) a U g mk q.2⟩, fun U hU hW => ⟨rfl, ⟨by rw [hU]; exact (hP.sub (ws' := (ww_X6_sumWithout cs ad (raUF 5) 6 (UF_31 5))) [8] rfl), va_K.moved hW.alike hK, kN_warm hW hN⟩⟩⟩ rfl rfl hl.1 rfl (lv_room (Nat.le_of_ble_eq_true rfl)) dX6_measure_80 ⟨Nat.le_refl _, Nat.le_refl _⟩) ?_
                  refine lv_goto (tgt := 87) hx hb dX6_measure_83 (by decide) ?_
                  exact h_87 x3_31 x4_31 x5_31 x4_31 x5_31 v144 RW_31 UF_31 VF_31 ls _ _ hl hP hD hS hf
                have hf := (if_neg hs142).symm.trans hf
                by_cases hs145 : v125 = 6
                · have hf := (if_pos hs145).symm.trans hf
                  rw [show raUF v125.toNatClampNeg = raUF 6 from congrArg raUF (by rw [hs145]; rfl)]
                  obtain ⟨v147, hq146, hf⟩ := bo_e hf
                  refine ko_call (v := some (.int v147)) (va_runS (As := [.ref (raUF 6), .int x5_31]) (rest := [.int x5_31, .ref (raUF x4_31.toNatClampNeg)]) ⟨hx, hb, hml, hown, hts⟩ (c_X6_sumWithout l dC dI cs ad (raUF 6) 6 (UF_31 6) x5_31 v147 hq146) (va_cwS 2 hts gX6_measure_X6_sumWithout rfl rfl rfl (by decide +kernel) ⟨Nat.le_of_ble_eq_true rfl, Nat.le_of_ble_eq_true rfl⟩) ⟨fun a U g mk q => ⟨q.1, (fun _ _ _ _ => cPr_bl) a U g mk q.2⟩, fun U hU hW => ⟨rfl, ⟨by rw [hU]; exact (hP.sub (ws' := (ww_X6_sumWithout cs ad (raUF 6) 6 (UF_31 6))) [9] rfl), va_K.moved hW.alike hK, kN_warm hW hN⟩⟩⟩ rfl rfl hl.1 rfl (lv_room (Nat.le_of_ble_eq_true rfl)) dX6_measure_80 ⟨Nat.le_refl _, Nat.le_refl _⟩) ?_
                  refine lv_goto (tgt := 87) hx hb dX6_measure_83 (by decide) ?_
                  exact h_87 x3_31 x4_31 x5_31 x4_31 x5_31 v147 RW_31 UF_31 VF_31 ls _ _ hl hP hD hS hf
                have hf := (if_neg hs145).symm.trans hf
                by_cases hs148 : v125 = 7
                · have hf := (if_pos hs148).symm.trans hf
                  rw [show raUF v125.toNatClampNeg = raUF 7 from congrArg raUF (by rw [hs148]; rfl)]
                  obtain ⟨v150, hq149, hf⟩ := bo_e hf
                  refine ko_call (v := some (.int v150)) (va_runS (As := [.ref (raUF 7), .int x5_31]) (rest := [.int x5_31, .ref (raUF x4_31.toNatClampNeg)]) ⟨hx, hb, hml, hown, hts⟩ (c_X6_sumWithout l dC dI cs ad (raUF 7) 6 (UF_31 7) x5_31 v150 hq149) (va_cwS 2 hts gX6_measure_X6_sumWithout rfl rfl rfl (by decide +kernel) ⟨Nat.le_of_ble_eq_true rfl, Nat.le_of_ble_eq_true rfl⟩) ⟨fun a U g mk q => ⟨q.1, (fun _ _ _ _ => cPr_bl) a U g mk q.2⟩, fun U hU hW => ⟨rfl, ⟨by rw [hU]; exact (hP.sub (ws' := (ww_X6_sumWithout cs ad (raUF 7) 6 (UF_31 7))) [10] rfl), va_K.moved hW.alike hK, kN_warm hW hN⟩⟩⟩ rfl rfl hl.1 rfl (lv_room (Nat.le_of_ble_eq_true rfl)) dX6_measure_80 ⟨Nat.le_refl _, Nat.le_refl _⟩) ?_
                  refine lv_goto (tgt := 87) hx hb dX6_measure_83 (by decide) ?_
                  exact h_87 x3_31 x4_31 x5_31 x4_31 x5_31 v150 RW_31 UF_31 VF_31 ls _ _ hl hP hD hS hf
                have hf := (if_neg hs148).symm.trans hf
                by_cases hs151 : v125 = 8
                · have hf := (if_pos hs151).symm.trans hf
                  rw [show raUF v125.toNatClampNeg = raUF 8 from congrArg raUF (by rw [hs151]; rfl)]
                  obtain ⟨v153, hq152, hf⟩ := bo_e hf
                  refine ko_call (v := some (.int v153)) (va_runS (As := [.ref (raUF 8), .int x5_31]) (rest := [.int x5_31, .ref (raUF x4_31.toNatClampNeg)]) ⟨hx, hb, hml, hown, hts⟩ (c_X6_sumWithout l dC dI cs ad (raUF 8) 6 (UF_31 8) x5_31 v153 hq152) (va_cwS 2 hts gX6_measure_X6_sumWithout rfl rfl rfl (by decide +kernel) ⟨Nat.le_of_ble_eq_true rfl, Nat.le_of_ble_eq_true rfl⟩) ⟨fun a U g mk q => ⟨q.1, (fun _ _ _ _ => cPr_bl) a U g mk q.2⟩, fun U hU hW => ⟨rfl, ⟨by rw [hU]; exact (hP.sub (ws' := (ww_X6_sumWithout cs ad (raUF 8) 6 (UF_31 8))) [11] rfl), va_K.moved hW.alike hK, kN_warm hW hN⟩⟩⟩ rfl rfl hl.1 rfl (lv_room (Nat.le_of_ble_eq_true rfl)) dX6_measure_80 ⟨Nat.le_refl _, Nat.le_refl _⟩) ?_
                  refine lv_goto (tgt := 87) hx hb dX6_measure_83 (by decide) ?_
                  exact h_87 x3_31 x4_31 x5_31 x4_31 x5_31 v153 RW_31 UF_31 VF_31 ls _ _ hl hP hD hS hf
                have hf := (if_neg hs151).symm.trans hf
                cases hf
              · have hf := (if_pos hb154).symm.trans hf
                refine lv_iconst (v := 1) hx hb dX6_measure_65 (by decide) ?_
                refine lv_goto (tgt := 87) hx hb dX6_measure_66 (by decide) ?_
                exact h_87 x3_31 x4_31 x5_31 x4_31 x5_31 (1 : Int32) RW_31 UF_31 VF_31 ls _ _ hl hP hD hS hf) 2000
      refine lv_iload hx hb dX6_measure_22 (lv_at hl 4 rfl) ?_
      refine lv_iload_n hx hb dX6_measure_24 rfl (lv_at hl 3 rfl) ?_
      refine lv_icmp_ge (tgt := 100) hx hb dX6_measure_25 (by decide) (fun hb157 => ?_) (fun hb157 => ?_)
      · have hf := (if_pos hb157).symm.trans hf
        exact h_100 x3_22 RW_22 UF_22 VF_22 ls _ _ (lv_sub hl [0, 1, 2, 3] rfl) hP hD hS hf
      · have hf := (if_neg hb157).symm.trans hf
        refine lv_iconst (v := 0) hx hb dX6_measure_28 (by decide) ?_
        refine lv_istore (nL := 6) (lv' := [(5, .int (0 : Int32)), (0, .ref (raRW 0)), (1, .ref (raO 0)), (2, .ref raA), (3, .int x3_22), (4, .int x4_22)]) hx hb dX6_measure_29 hl (by decide) rfl (fun ls hl => ?_)
        exact h_31 x3_22 x4_22 (0 : Int32) RW_22 UF_22 VF_22 ls _ _ (lv_sub hl [1, 2, 3, 4, 5, 0] rfl) hP hD hS hf) 2000
  refine lv_iload_n hx hb dX6_measure_0 rfl (lv_at hl 3 rfl) ?_
  refine lv_iconst (v := 1) hx hb dX6_measure_1 (by decide) ?_
  refine lv_icmp_lt (tgt := 17) hx hb dX6_measure_2 (by decide) (fun hb160 => ?_) (fun hb160 => ?_)
  · have hf := (if_pos hb160).symm.trans hf
    refine lv_iconst (v := 0) hx hb dX6_measure_17 (by decide) ?_
    have hf := Option.some.inj hf
    subst hf
    exact c_iret (v := (0 : Int32)) hx hb hr hlocks hP hK hD hS dX6_measure_18
  · have hf := (if_neg hb160).symm.trans hf
    refine lv_iload_n hx hb dX6_measure_5 rfl (lv_at hl 3 rfl) ?_
    refine lv_bipush (v := 9) hx hb dX6_measure_6 (by decide) ?_
    refine lv_icmp_gt (tgt := 17) hx hb dX6_measure_8 (by decide) (fun hb159 => ?_) (fun hb159 => ?_)
    · have hf := (if_pos hb159).symm.trans hf
      refine lv_iconst (v := 0) hx hb dX6_measure_17 (by decide) ?_
      have hf := Option.some.inj hf
      subst hf
      exact c_iret (v := (0 : Int32)) hx hb hr hlocks hP hK hD hS dX6_measure_18
    · have hf := (if_neg hb159).symm.trans hf
      refine lv_iload_n hx hb dX6_measure_11 rfl (lv_at hl 3 rfl) ?_
      refine lv_aload_n hx hb dX6_measure_12 rfl (lv_at hl 2 rfl) ?_
      refine va_alen hx hb hK hP 30 1 rfl rfl (v := (Int32.ofNat nA)) rfl dX6_measure_13 ?_
      refine lv_icmp_le (tgt := 19) hx hb dX6_measure_14 (by decide) (fun hb158 => ?_) (fun hb158 => ?_)
      · have hf := (if_pos hb158).symm.trans hf
        refine lv_iconst (v := 0) hx hb dX6_measure_19 (by decide) ?_
        refine lv_istore (nL := 6) (lv' := [(4, .int (0 : Int32)), (0, .ref (raRW 0)), (1, .ref (raO 0)), (2, .ref raA), (3, .int a2)]) hx hb dX6_measure_20 hl (by decide) rfl (fun ls hl => ?_)
        exact h_22 a2 (0 : Int32) RW UF VF ls _ _ (lv_sub hl [1, 2, 3, 4, 0] rfl) hP hD hS hf
      · have hf := (if_neg hb158).symm.trans hf
        refine lv_iconst (v := 0) hx hb dX6_measure_17 (by decide) ?_
        have hf := Option.some.inj hf
        subst hf
        exact c_iret (v := (0 : Int32)) hx hb hr hlocks hP hK hD hS dX6_measure_18

def ww_X11_ways (cs : Nat → ClassId) (ad : Nat → Nat) (raK : Nat → Nat) (raT : Nat) (raC : Nat → Nat) (raO : Nat → Nat) (raS : Nat → Nat) (raN : Nat → Nat) (raRW : Nat → Nat) (raUO : Nat) (raUF : Nat → Nat) (raVO : Nat) (raVF : Nat → Nat) (xK2 : Nat) (xK4 : Nat) (xK5 : Nat) (xK6 : Nat) (xK7 : Nat) (xK8 : Nat) (xK9 : Nat) (xK10 : Nat) (xK11 : Nat) (xK12 : Nat) (xK14 : Nat) (xK18 : Nat) (K : kD) (T : Nat → Int32) (C : kD) (O : kD) (S : kD) (N : kD) (RW : kD) (UF : Nat → Nat → Int32) (VF : Nat → Nat → Int32) : va_W := (wX11 cs ad raK raT xK2 (raC 0) xK4 xK5 xK6 xK7 xK8 xK9 xK10 xK11 xK12 (raRW 0) xK14 xK18 K ++ ([(raT, .inl (cs 1, 940, .inl T))] ++ (wX7 cs ad raC (raO 0) (raS 0) (raN 0) C ++ (wX3 cs ad raO O ++ (wX9 cs ad raS S ++ (wX8 cs ad raN N ++ (wX6 cs ad raRW raUO raVO RW ++ ([(raUO, .inl (cs 7, 9, .inr (.inr (.inr (.inr (fun j => some (raUF j)))))))] ++ (wF1x9 cs raUF UF ++ ([(raVO, .inl (cs 7, 9, .inr (.inr (.inr (.inr (fun j => some (raVF j)))))))] ++ (wF1x9 cs raVF VF)))))))))))
abbrev rm_X11_ways : Room := { frames := 3, cells := 0, slots := 0, locals := 89 }
set_option maxHeartbeats 4000000 in
set_option maxRecDepth 100000 in
theorem c_X11_ways (l : Launch) (dC : Nat → ClassId) (dI : Nat → Nat → Nat) (cs : Nat → ClassId) (ad : Nat → Nat) (raK : Nat → Nat) (raT : Nat) (raC : Nat → Nat) (raO : Nat → Nat) (raS : Nat → Nat) (raN : Nat → Nat) (raRW : Nat → Nat) (raUO : Nat) (raUF : Nat → Nat) (raVO : Nat) (raVF : Nat → Nat) (xK2 : Nat) (xK4 : Nat) (xK5 : Nat) (xK6 : Nat) (xK7 : Nat) (xK8 : Nat) (xK9 : Nat) (xK10 : Nat) (xK11 : Nat) (xK12 : Nat) (xK14 : Nat) (xK18 : Nat) (sz : Nat) (K : kD) (T : Nat → Int32) (C : kD) (O : kD) (S : kD) (N : kD) (RW : kD) (UF : Nat → Nat → Int32) (VF : Nat → Nat → Int32) (r : Int32 × kD × kD × (Nat → Nat → Int32) × (Nat → Nat → Int32)) (hf : f_X11_ways K T C O S N RW UF VF = some r) : Met l yX11_ways wsX11_ways rm_X11_ways (va_Pc [.ref (raK 0)] (cPw dC dI cs sz (ww_X11_ways cs ad raK raT raC raO raS raN raRW raUO raUF raVO raVF xK2 xK4 xK5 xK6 xK7 xK8 xK9 xK10 xK11 xK12 xK14 xK18 K T C O S N RW UF VF))) (cQi dC dI cs (va_A (ww_X11_ways cs ad raK raT raC raO raS raN raRW raUO raUF raVO raVF xK2 xK4 xK5 xK6 xK7 xK8 xK9 xK10 xK11 xK12 xK14 xK18 zD (fun _ => 0) zD zD zD zD zD (fun _ _ => 0) (fun _ _ => 0)) sz) r.1 (ww_X11_ways cs ad raK raT raC raO raS raN raRW raUO raUF raVO raVF xK2 xK4 xK5 xK6 xK7 xK8 xK9 xK10 xK11 xK12 xK14 xK18 r.2.1 T C O S N r.2.2.1 r.2.2.2.1 r.2.2.2.2)) 0 0 (va_A (ww_X11_ways cs ad raK raT raC raO raS raN raRW raUO raUF raVO raVF xK2 xK4 xK5 xK6 xK7 xK8 xK9 xK10 xK11 xK12 xK14 xK18 zD (fun _ => 0) zD zD zD zD zD (fun _ _ => 0) (fun _ _ => 0)) sz) := by
  refine Met.ofW (cc := cX11_ways) (maxL := 2) (ret := (some .int)) (by decide) rfl ?_
  intro p e s m args below meth c s₁ B hml hv
  obtain ⟨hav, hsz, hP, hK, hD0, hN⟩ := hv
  have hx := B.exec
  have hb := B.bytes
  have hr := B.returns
  have hts := atoms_spec (ws := wsX11_ways) B.pre
  have hown : s.vm.findClass RX11 = some m.cls := findClass_of_methodNamed B.named
  have hlocks := B.notSynchronized
  subst hsz
  have hA : ∀ q, s.heap.size ≤ q → va_A (ww_X11_ways cs ad raK raT raC raO raS raN raRW raUO raUF raVO raVF xK2 xK4 xK5 xK6 xK7 xK8 xK9 xK10 xK11 xK12 xK14 xK18 zD (fun _ => 0) zD zD zD zD zD (fun _ _ => 0) (fun _ _ => 0)) s.heap.size q := fun q h => Or.inr h
  have hD : va_D (va_A (ww_X11_ways cs ad raK raT raC raO raS raN raRW raUO raUF raVO raVF xK2 xK4 xK5 xK6 xK7 xK8 xK9 xK10 xK11 xK12 xK14 xK18 zD (fun _ => 0) zD zD zD zD zD (fun _ _ => 0) (fun _ _ => 0)) s.heap.size) (ww_X11_ways cs ad raK raT raC raO raS raN raRW raUO raUF raVO raVF xK2 xK4 xK5 xK6 xK7 xK8 xK9 xK10 xK11 xK12 xK14 xK18 K T C O S N RW UF VF) := hD0.weaken (fun k q h _ => cA_in (ws := (ww_X11_ways cs ad raK raT raC raO raS raN raRW raUO raUF raVO raVF xK2 xK4 xK5 xK6 xK7 xK8 xK9 xK10 xK11 xK12 xK14 xK18 K T C O S N RW UF VF)) (ws' := (ww_X11_ways cs ad raK raT raC raO raS raN raRW raUO raUF raVO raVF xK2 xK4 xK5 xK6 xK7 xK8 xK9 xK10 xK11 xK12 xK14 xK18 zD (fun _ => 0) zD zD zD zD zD (fun _ _ => 0) (fun _ _ => 0))) rfl h)
  have hS : va_S (va_A (ww_X11_ways cs ad raK raT raC raO raS raN raRW raUO raUF raVO raVF xK2 xK4 xK5 xK6 xK7 xK8 xK9 xK10 xK11 xK12 xK14 xK18 zD (fun _ => 0) zD zD zD zD zD (fun _ _ => 0) (fun _ _ => 0)) s.heap.size) s.heap s.heap [] := va_S.rf
  have hinX11 := (show ∀ w ∈ wsX110, w ∈ wsX11_ways from fun w h => List.mem_cons_of_mem _ (List.mem_append_left _ (List.mem_append_left _ (List.mem_append_left _ (List.mem_append_right _ h)))))
  have hinX7 := (show ∀ w ∈ wsX70, w ∈ wsX11_ways from fun w h => List.mem_cons_of_mem _ (List.mem_append_left _ (List.mem_append_left _ (List.mem_append_right _ h))))
  have k_fieldLink_RX11_23__KeyLetters___scene___LKeyLetters_Scene__ := hts (.fieldLink RX11 23 "KeyLetters" "scene" "LKeyLetters$Scene;") (List.mem_of_getElem? (i := 2) rfl)
  have k_fieldLink_RX11_87__KeyLetters___rows___LKeyLetters_Rows__ := hts (.fieldLink RX11 87 "KeyLetters" "rows" "LKeyLetters$Rows;") (List.mem_of_getElem? (i := 1) rfl)
  have k_fieldLink_RX11_9__KeyLetters___tape____I_ := hts (.fieldLink RX11 9 "KeyLetters" "tape" "[I") (List.mem_of_getElem? (i := 3) rfl)
  have k_initialized_RX6 := hts (.initialized RX6) (List.mem_of_getElem? (i := 20) rfl)
  have k_instanceMethod_yX6_measure := hts (.instanceMethod yX6_measure) (List.mem_of_getElem? (i := 19) rfl)
  have k_selects_RX6_yX6_measure_yX6_measure := hts (.selects RX6 yX6_measure yX6_measure) (List.mem_of_getElem? (i := 21) rfl)
  have hl := lv_entry ([.ref (raK 0)]) (n := 2) (Nat.le_of_ble_eq_true rfl)
  rw [show entryFrame m args 2 = entryFrame m ([.ref (raK 0)] : List Value).toArray 2 from by rw [hav], lg_entry_eq]
  generalize (lg_sl ([.ref (raK 0)]) ++ List.replicate (2 - (lg_sl ([.ref (raK 0)])).length) Slot.unset).toArray = ls at hl ⊢
  have hl : lv_has ls 2 [(0, .ref (raK 0))] := hl
  unfold f_X11_ways at hf
  refine lv_aload_n hx hb dX11_ways_0 rfl (lv_at hl 0 rfl) ?_
  obtain ⟨v2, Kv3, hq1, hf⟩ := bo2_e hf
  refine g_callw (isC := [0]) (isR := [1, 2, 3, 4, 5, 6, 7, 8, 9, 10, 11, 12, 13, 14, 15, 16, 17, 18, 19, 20, 21, 22, 23, 24, 25, 26, 27, 28, 29, 30, 31, 32, 33, 34, 35, 36, 37, 38, 39, 40, 41, 42]) (wc := (ww_X11_takeTape cs ad raK raT xK2 (raC 0) xK4 xK5 xK6 xK7 xK8 xK9 xK10 xK11 xK12 (raRW 0) xK14 xK18 K)) (wz := (ww_X11_takeTape cs ad raK raT xK2 (raC 0) xK4 xK5 xK6 xK7 xK8 xK9 xK10 xK11 xK12 (raRW 0) xK14 xK18 zD)) (w1 := (ww_X11_takeTape cs ad raK raT xK2 (raC 0) xK4 xK5 xK6 xK7 xK8 xK9 xK10 xK11 xK12 (raRW 0) xK14 xK18 Kv3)) (ws' := (ww_X11_ways cs ad raK raT raC raO raS raN raRW raUO raUF raVO raVF xK2 xK4 xK5 xK6 xK7 xK8 xK9 xK10 xK11 xK12 xK14 xK18 Kv3 T C O S N RW UF VF)) (v := v2) (va_runV (As := []) (rest := []) ⟨hx, hb, hml, hown, hts⟩ (c_X11_takeTape l dC dI cs ad raK raT xK2 (raC 0) xK4 xK5 xK6 xK7 xK8 xK9 xK10 xK11 xK12 (raRW 0) xK14 xK18 _ K (v2, Kv3) hq1) (cwV 0 hts gX11_ways_X11_takeTape rfl rfl rfl (by decide +kernel) ⟨Nat.le_of_ble_eq_true rfl, Nat.le_of_ble_eq_true rfl⟩) ⟨fun a U g mk q => ⟨q.1, (fun _ _ _ _ => cPw_bl) a U g mk q.2⟩, va_recv hK hP (ci := 11) (q0 := 0) rfl rfl, fun U hU hW => ⟨rfl, ⟨by rw [hU], by rw [hU]; exact (hP.sub (ws' := (ww_X11_takeTape cs ad raK raT xK2 (raC 0) xK4 xK5 xK6 xK7 xK8 xK9 xK10 xK11 xK12 (raRW 0) xK14 xK18 K)) [0] rfl), va_K.moved hW.alike hK, (hD.sub (ws' := (ww_X11_takeTape cs ad raK raT xK2 (raC 0) xK4 xK5 xK6 xK7 xK8 xK9 xK10 xK11 xK12 (raRW 0) xK14 xK18 K)) [0] (by decide) rfl).weaken (fun _ _ _ _ => trivial), kN_warm hW hN⟩⟩⟩ rfl rfl hl.1 rfl (lv_room (Nat.le_of_ble_eq_true rfl)) dX11_ways_1 ⟨Nat.le_refl _, Nat.le_refl _⟩) hP hD hS hA rfl rfl (wr := (([(raT, .inl (cs 1, 940, .inl T))]) ++ ((wX7 cs ad raC (raO 0) (raS 0) (raN 0) C) ++ ((wX3 cs ad raO O) ++ ((wX9 cs ad raS S) ++ ((wX8 cs ad raN N) ++ ((wX6 cs ad raRW raUO raVO RW) ++ (([(raUO, .inl (cs 7, 9, .inr (.inr (.inr (.inr (fun j => some (raUF j)))))))]) ++ ((wF1x9 cs raUF UF) ++ (([(raVO, .inl (cs 7, 9, .inr (.inr (.inr (.inr (fun j => some (raVF j)))))))]) ++ ((wF1x9 cs raVF VF)))))))))))) rfl rfl rfl (nw := 43) rfl (by decide +kernel) rfl (fun H locs hP hD hS => ?_)
  refine lv_istore_n (nL := 2) (lv' := [(1, .int v2), (0, .ref (raK 0))]) hx hb dX11_ways_4 rfl hl (by decide) rfl (fun ls hl => ?_)
  refine lv_aload_n hx hb dX11_ways_5 rfl (lv_at hl 1 rfl) ?_
  refine lv_iload_n hx hb dX11_ways_6 rfl (lv_at hl 0 rfl) ?_
  obtain ⟨v5, hq4, hf⟩ := bo_e hf
  refine ko_call (v := some (.int v5)) (va_runV (As := [.int v2]) (rest := []) ⟨hx, hb, hml, hown, hts⟩ (c_X11_tellsPhrases l dC dI cs ad raK raT raC raO raS raN xK2 xK4 xK5 xK6 xK7 xK8 xK9 xK10 xK11 xK12 (raRW 0) xK14 xK18 Kv3 T C O S N v2 v5 hq4) (cwV 1 hts gX11_ways_X11_tellsPhrases rfl rfl rfl (by decide +kernel) ⟨Nat.le_of_ble_eq_true rfl, Nat.le_of_ble_eq_true rfl⟩) ⟨fun a U g mk q => ⟨q.1, (fun _ _ _ _ => cPr_bl) a U g mk q.2⟩, va_recv hK hP (ci := 11) (q0 := 0) rfl rfl, fun U hU hW => ⟨rfl, ⟨by rw [hU]; exact (hP.sub (ws' := (ww_X11_tellsPhrases cs ad raK raT raC raO raS raN xK2 xK4 xK5 xK6 xK7 xK8 xK9 xK10 xK11 xK12 (raRW 0) xK14 xK18 Kv3 T C O S N)) [0, 1, 2, 3, 4, 5, 6, 7, 8, 9, 10, 11, 12, 13, 14, 15, 16, 17, 18, 19, 20] rfl), va_K.moved hW.alike hK, kN_warm hW hN⟩⟩⟩ rfl rfl hl.1 rfl (lv_room (Nat.le_of_ble_eq_true rfl)) dX11_ways_7 ⟨Nat.le_refl _, Nat.le_refl _⟩) ?_
  refine lv_if_eq (tgt := 35) hx hb dX11_ways_10 (by decide) (fun hb11 => ?_) (fun hb11 => ?_)
  · have hf := (if_pos hb11).symm.trans hf
    refine lv_iconst (v := -1) hx hb dX11_ways_35 (by decide) ?_
    have hf := Option.some.inj hf
    subst hf
    exact c_iret (v := (-1 : Int32)) hx hb hr hlocks hP hK hD hS dX11_ways_36
  · have hf := (if_neg hb11).symm.trans hf
    refine lv_aload_n hx hb dX11_ways_13 rfl (lv_at hl 1 rfl) ?_
    refine va_get (D := (dC, dI)) (ci := 11) (C := RX11) (T := TX11) (N := 19) hx hb hts hinX11 hown hK hP 0 rfl rfl 13 (by decide) (v := .ref (raRW 0)) k_fieldLink_RX11_87__KeyLetters___rows___LKeyLetters_Rows__ (fun _ h9 => h9) rfl dX11_ways_14 ?_
    refine lv_aload_n hx hb dX11_ways_17 rfl (lv_at hl 1 rfl) ?_
    refine va_get (D := (dC, dI)) (ci := 11) (C := RX11) (T := TX11) (N := 19) hx hb hts hinX11 hown hK hP 0 rfl rfl 3 (by decide) (v := .ref (raC 0)) k_fieldLink_RX11_23__KeyLetters___scene___LKeyLetters_Scene__ (fun _ h9 => h9) rfl dX11_ways_18 ?_
    refine va_getN (D := (dC, dI)) (ci := 8) (C := RX7) (T := TX7) (N := 3) hx hb hts hinX7 hown hK hP 2 rfl rfl 0 (by decide) (v := .ref (raO 0)) (va_Nw.use rfl (hN _ (List.mem_of_getElem? (i := 50) rfl))) (fun _ h9 => h9) rfl dX11_ways_21 ?_
    refine lv_aload_n hx hb dX11_ways_24 rfl (lv_at hl 1 rfl) ?_
    refine va_get (D := (dC, dI)) (ci := 11) (C := RX11) (T := TX11) (N := 19) hx hb hts hinX11 hown hK hP 0 rfl rfl 0 (by decide) (v := .ref raT) k_fieldLink_RX11_9__KeyLetters___tape____I_ (fun _ h9 => h9) rfl dX11_ways_25 ?_
    refine lv_iload_n hx hb dX11_ways_28 rfl (lv_at hl 0 rfl) ?_
    obtain ⟨v7, RWv8, UFv9, VFv10, hq6, hf⟩ := bo4_e hf
    refine g_callw (isC := [21, 22, 23, 24, 25, 26, 27, 28, 29, 30, 31, 32, 33, 34, 35, 36, 37, 38, 39, 40, 41, 42, 3, 4, 5, 6, 7, 8, 9, 10, 1]) (isR := [0, 2, 11, 12, 13, 14, 15, 16, 17, 18, 19, 20]) (wc := (ww_X6_measure cs ad raRW raUO raUF raVO raVF raO raT 940 RW UF VF O T)) (wz := (ww_X6_measure cs ad raRW raUO raUF raVO raVF raO raT 940 zD (fun _ _ => 0) (fun _ _ => 0) zD (fun _ => 0))) (w1 := (ww_X6_measure cs ad raRW raUO raUF raVO raVF raO raT 940 RWv8 UFv9 VFv10 O T)) (ws' := (ww_X11_ways cs ad raK raT raC raO raS raN raRW raUO raUF raVO raVF xK2 xK4 xK5 xK6 xK7 xK8 xK9 xK10 xK11 xK12 xK14 xK18 Kv3 T C O S N RWv8 UFv9 VFv10)) (v := v7) (va_runVN (As := [.ref (raO 0), .ref raT, .int v2]) (rest := []) ⟨hx, hb, hml, hown, hts⟩ (c_X6_measure l dC dI cs ad raRW raUO raUF raVO raVF raO raT 940 _ RW UF VF O T v2 (v7, RWv8, UFv9, VFv10) hq6) ⟨va_cnB 3 hts gX11_ways_X6_measure_n274 rfl rfl rfl (hN _ (List.mem_of_getElem? (i := 113) rfl)) k_initialized_RX6 (by decide +kernel) ⟨Nat.le_of_ble_eq_true rfl, Nat.le_of_ble_eq_true rfl⟩, k_instanceMethod_yX6_measure, k_selects_RX6_yX6_measure_yX6_measure⟩ ⟨fun a U g mk q => ⟨q.1, (fun _ _ _ _ => cPw_bl) a U g mk q.2⟩, va_recv hK hP (ci := 7) (q0 := 21) rfl rfl, fun U hU hW => ⟨rfl, ⟨by rw [hU], by rw [hU]; exact (hP.sub (ws' := (ww_X6_measure cs ad raRW raUO raUF raVO raVF raO raT 940 RW UF VF O T)) [21, 22, 23, 24, 25, 26, 27, 28, 29, 30, 31, 32, 33, 34, 35, 36, 37, 38, 39, 40, 41, 42, 3, 4, 5, 6, 7, 8, 9, 10, 1] rfl), va_K.moved hW.alike hK, (hD.sub (ws' := (ww_X6_measure cs ad raRW raUO raUF raVO raVF raO raT 940 RW UF VF O T)) [21, 22, 23, 24, 25, 26, 27, 28, 29, 30, 31, 32, 33, 34, 35, 36, 37, 38, 39, 40, 41, 42, 3, 4, 5, 6, 7, 8, 9, 10, 1] (by decide) rfl).weaken (fun _ _ _ _ => trivial), kN_warm hW hN⟩⟩⟩ rfl rfl hl.1 rfl (lv_room (Nat.le_of_ble_eq_true rfl)) dX11_ways_29 ⟨Nat.le_refl _, Nat.le_refl _⟩) hP hD hS hA rfl rfl (wr := ((wX11 cs ad raK raT xK2 (raC 0) xK4 xK5 xK6 xK7 xK8 xK9 xK10 xK11 xK12 (raRW 0) xK14 xK18 Kv3) ++ ((wX7 cs ad raC (raO 0) (raS 0) (raN 0) C) ++ ((wX9 cs ad raS S) ++ ((wX8 cs ad raN N)))))) rfl rfl rfl (nw := 43) rfl (by decide +kernel) rfl (fun H locs hP hD hS => ?_)
    refine lv_goto (tgt := 36) hx hb dX11_ways_32 (by decide) ?_
    have hf := Option.some.inj hf
    subst hf
    exact c_iret (v := v7) hx hb hr hlocks hP hK hD hS dX11_ways_36

