/-! a line told by the class: String constants by wide index, a part of the world that may move -/
section LNB
variable {p : Program} {l : Launch} {e : Env} {R : Room} {s : State} {m : MethodId} {args : Array Value} {below : List Frame} {meth : Method} {c : Code} {H : Heap} {locs : List Loc} {cells slots : Nat} {Q : State → Prop}
variable {cc : ByteArray} {pc : Nat} {ls : Array Slot} {rest : List Value} {A : Nat → Prop} {ws W0 w1 : va_W}
theorem va_ldcSW (hexec : p.tables.exec = Jvm.exec) (hb : c.code = cc) {own tx : String} {index q : Nat} (hown : s.vm.findClass own = some m.cls) (hZ : vk_R own index tx q s) (hdg : decode cc pc = .ok (.ldc_w index, 3))
    (k : W p l e R s m args below meth c H locs cells slots Q (F0 m (pc + 3) ls (.ref q :: rest))) : W p l e R s m args below meth c H locs cells slots Q (F0 m pc ls rest) := by
  intro T hT X
  obtain ⟨t, a1, b1⟩ := k T hT X
  exact ⟨t, X.ldcStringW hexec hown (text := tx) (a := q) hZ.1 hZ.2 (g := F0 m pc ls rest) rfl (by rw [hb]; exact hdg) t a1, b1⟩
theorem g_cjl {D : va_G} {cl : List vw_C} {H1 : Heap} (hP : va_P D cl (ws ++ W0) H) (hD : va_D A (ws ++ W0)) (hk : ∀ x : Nat, x < H.size → ¬ va_A W0 H.size x → H1[x]? = H[x]?) (hF : ∀ x : Nat, va_A W0 H.size x → A x) (hP1 : va_P D cl w1 H1) (hD1 : va_D (va_A W0 H.size) w1) : va_P D cl (ws ++ w1) H1 ∧ va_D A (ws ++ w1) := by
  have hlt : ∀ (k : Nat) (z : Nat × va_E), ws[k]? = some z → k < ws.length := fun k z hk => (List.getElem?_eq_some_iff.mp hk).1
  have hin : ∀ (k : Nat) (z : Nat × va_E), ws[k]? = some z → (ws ++ W0)[k]? = some z := fun k z hk => by
    rw [List.getElem?_append_left (hlt k z hk)]; exact hk
  have hne : ∀ (k : Nat) (z : Nat × va_E), ws[k]? = some z → ¬ va_A W0 H.size z.1 := by
    intro k z hz h
    rcases h with ⟨j, e1, hj⟩ | h
    · have h5 := hD.1 k (ws.length + j) z (z.1, e1) (hin k z hz) (by rw [List.getElem?_append_right (Nat.le_add_right _ _), Nat.add_sub_cancel_left]; exact hj) rfl
      have := hlt k z hz
      omega
    · have := (hP k z (hin k z hz)).lt
      omega
  have hP0 : va_P D cl ws H := fun k z hz => hP k z (hin k z hz)
  have hD0 : va_D A ws := ⟨fun i j x y hx hy => hD.1 i j x y (hin i x hx) (hin j y hy), fun k z hz => hD.2 k z (hin k z hz)⟩
  refine ⟨va_P.app (hP0.kept fun k z hz => hk z.1 ((hP k z (hin k z hz)).lt) (hne k z hz)) hP1, va_D.app hD0 (hD1.weaken fun k z _ h => hF z.1 h) (fun i j x y hx hy he => ?_)⟩
  exact hne i x hx (he ▸ hD1.2 j y hy)
end LNB
def kLn1 (k : Nat) (tx : String) (t : List Nat) (a v : Nat) (A : Nat → Prop) (U : State) (H : Heap) : Prop := vk_R "KeyLetters" k tx a U ∧ kSq a v t A U H
/-- the three texts of a line -/
def kLn (A : Nat → Prop) (U : State) (H : Heap) : Prop := ∃ aw vw ai vi ah vh : Nat, kLn1 327 " wrote " [32, 119, 114, 111, 116, 101, 32] aw vw A U H ∧ kLn1 336 " ink " [32, 105, 110, 107, 32] ai vi A U H ∧ kLn1 338 " held" [32, 104, 101, 108, 100] ah vh A U H
theorem kLn.bl {A : Nat → Prop} {as : Array Value} {U : State} {g : JFrame} {mk : MethodId} (h : kLn A U U.heap) : kLn A (U.calling g mk as) (U.calling g mk as).heap := by
  obtain ⟨aw, vw, ai, vi, ah, vh, h1, h2, h3⟩ := h
  exact ⟨aw, vw, ai, vi, ah, vh, ⟨vk_R.same rfl h1.1, kSq.bl h1.2⟩, ⟨vk_R.same rfl h2.1, kSq.bl h2.2⟩, ⟨vk_R.same rfl h3.1, kSq.bl h3.2⟩⟩
theorem kLn.at {A B : Nat → Prop} {s : State} {H : Heap} {locs : List Loc} (h : kLn A s s.heap) (hS : va_S A s.heap H locs) (hAB : ∀ q, B q → A q) : ∀ U : State, U.heap = H → s.WarmedH U.vm → kLn B U U.heap := fun U hU hW => by
  obtain ⟨aw, vw, ai, vi, ah, vh, h1, h2, h3⟩ := h
  exact ⟨aw, vw, ai, vi, ah, vh, ⟨vk_R.warm hW h1.1, kSq.at h1.2 hS hAB U hU hW⟩, ⟨vk_R.warm hW h2.1, kSq.at h2.2 hS hAB U hU hW⟩, ⟨vk_R.warm hW h3.1, kSq.at h3.2 hS hAB U hU hW⟩⟩
theorem getD_take {t : List Nat} {i : Nat} (h : i < t.length) : t.take i ++ [t.getD i 0] = t.take (i + 1) := by
  rw [List.take_succ, List.getD_eq_getElem?_getD, List.getElem?_eq_getElem h]
  rfl

set_option maxHeartbeats 4000000 in
set_option maxRecDepth 100000 in
theorem c_X11_appendName (l : Launch) (dC : Nat → ClassId) (dI : Nat → Nat → Nat) (cs : Nat → ClassId) (ad : Nat → Nat) (Z : Nat → Nat → Nat → Nat) (q0 z0 : Nat) (b0 : Int32) (a0 : Nat → Int32) (L lt : List Nat) (K : kD) (nm nm2 : Int64) (sz : Nat) (hI : sI L z0 a0) (hL : L.length ≤ 40) (hn : NM lt nm nm2) : Met l yX11_appendName wsX11_appendName (rm_s 6 7 1400) (va_Pc [.ref (Z 0 0 0), .long nm] (fun U => cPw dC dI cs sz (wX11 cs ad (Z 0 0) (Z 1 0 0) (Z 2 0 0) (Z 3 0 0) (Z 4 0 0) (Z 5 0 0) (Z 6 0 0) (Z 7 0 0) (Z 8 0 0) (Z 9 0 0) (Z 10 0 0) (Z 11 0 0) (Z 12 0 0) (Z 13 0 0) (Z 14 0 0) (Z 18 0 0) K ++ sW cs (Z 18 0 0) q0 z0 (nI L.length) b0 a0) U ∧ kC (va_A (wX11 cs ad (Z 0 0) (Z 1 0 0) (Z 2 0 0) (Z 3 0 0) (Z 4 0 0) (Z 5 0 0) (Z 6 0 0) (Z 7 0 0) (Z 8 0 0) (Z 9 0 0) (Z 10 0 0) (Z 11 0 0) (Z 12 0 0) (Z 13 0 0) (Z 14 0 0) (Z 18 0 0) K ++ sW cs (Z 18 0 0) q0 z0 (nI L.length) b0 a0) sz) U U.heap)) (va_Qv (fun u : Nat × Nat × Int32 × (Nat → Int32) => sI (L ++ lt) u.2.1 u.2.2.2) (fun u t => cB dC dI cs (va_A (wX11 cs ad (Z 0 0) (Z 1 0 0) (Z 2 0 0) (Z 3 0 0) (Z 4 0 0) (Z 5 0 0) (Z 6 0 0) (Z 7 0 0) (Z 8 0 0) (Z 9 0 0) (Z 10 0 0) (Z 11 0 0) (Z 12 0 0) (Z 13 0 0) (Z 14 0 0) (Z 18 0 0) K ++ sW cs (Z 18 0 0) q0 z0 (nI L.length) b0 a0) sz) (wX11 cs ad (Z 0 0) (Z 1 0 0) (Z 2 0 0) (Z 3 0 0) (Z 4 0 0) (Z 5 0 0) (Z 6 0 0) (Z 7 0 0) (Z 8 0 0) (Z 9 0 0) (Z 10 0 0) (Z 11 0 0) (Z 12 0 0) (Z 13 0 0) (Z 14 0 0) (Z 18 0 0) K ++ sW cs (Z 18 0 0) u.1 u.2.1 (nI (L ++ lt).length) u.2.2.1 u.2.2.2) t) (va_A (wX11 cs ad (Z 0 0) (Z 1 0 0) (Z 2 0 0) (Z 3 0 0) (Z 4 0 0) (Z 5 0 0) (Z 6 0 0) (Z 7 0 0) (Z 8 0 0) (Z 9 0 0) (Z 10 0 0) (Z 11 0 0) (Z 12 0 0) (Z 13 0 0) (Z 14 0 0) (Z 18 0 0) K ++ sW cs (Z 18 0 0) q0 z0 (nI L.length) b0 a0) sz)) 7 1400 (va_A (wX11 cs ad (Z 0 0) (Z 1 0 0) (Z 2 0 0) (Z 3 0 0) (Z 4 0 0) (Z 5 0 0) (Z 6 0 0) (Z 7 0 0) (Z 8 0 0) (Z 9 0 0) (Z 10 0 0) (Z 11 0 0) (Z 12 0 0) (Z 13 0 0) (Z 14 0 0) (Z 18 0 0) K ++ sW cs (Z 18 0 0) q0 z0 (nI L.length) b0 a0) sz) := by
  refine Met.ofW (cc := cX11_appendName) (maxL := 4) (ret := none) (by decide) rfl ?_
  intro p e s m args below meth c s₁ B hml hv
  obtain ⟨hav, ⟨hsz, hP, hK, hD0, hN⟩, hC⟩ := hv
  subst hsz
  have hinX11 : ∀ w ∈ wsX110, w ∈ wsX11_appendName := fun w h => List.mem_cons_of_mem _ (List.mem_append_left _ (List.mem_append_right _ h))
  have hin : ∀ w ∈ wsJ40, w ∈ wsX11_appendName := fun w h => List.mem_cons_of_mem _ (List.mem_append_right _ h)
  have hA : ∀ q9, s.heap.size ≤ q9 → va_A (wX11 cs ad (Z 0 0) (Z 1 0 0) (Z 2 0 0) (Z 3 0 0) (Z 4 0 0) (Z 5 0 0) (Z 6 0 0) (Z 7 0 0) (Z 8 0 0) (Z 9 0 0) (Z 10 0 0) (Z 11 0 0) (Z 12 0 0) (Z 13 0 0) (Z 14 0 0) (Z 18 0 0) K ++ sW cs (Z 18 0 0) q0 z0 (nI L.length) b0 a0) s.heap.size q9 := fun q9 h => Or.inr h
  have hS : va_S (va_A (wX11 cs ad (Z 0 0) (Z 1 0 0) (Z 2 0 0) (Z 3 0 0) (Z 4 0 0) (Z 5 0 0) (Z 6 0 0) (Z 7 0 0) (Z 8 0 0) (Z 9 0 0) (Z 10 0 0) (Z 11 0 0) (Z 12 0 0) (Z 13 0 0) (Z 14 0 0) (Z 18 0 0) K ++ sW cs (Z 18 0 0) q0 z0 (nI L.length) b0 a0) s.heap.size) s.heap s.heap [] := va_S.rf
  have hD : va_D (va_A (wX11 cs ad (Z 0 0) (Z 1 0 0) (Z 2 0 0) (Z 3 0 0) (Z 4 0 0) (Z 5 0 0) (Z 6 0 0) (Z 7 0 0) (Z 8 0 0) (Z 9 0 0) (Z 10 0 0) (Z 11 0 0) (Z 12 0 0) (Z 13 0 0) (Z 14 0 0) (Z 18 0 0) K ++ sW cs (Z 18 0 0) q0 z0 (nI L.length) b0 a0) s.heap.size) (wX11 cs ad (Z 0 0) (Z 1 0 0) (Z 2 0 0) (Z 3 0 0) (Z 4 0 0) (Z 5 0 0) (Z 6 0 0) (Z 7 0 0) (Z 8 0 0) (Z 9 0 0) (Z 10 0 0) (Z 11 0 0) (Z 12 0 0) (Z 13 0 0) (Z 14 0 0) (Z 18 0 0) K ++ sW cs (Z 18 0 0) q0 z0 (nI L.length) b0 a0) := hD0.self
  have hlt := hn.1
  have hx := B.exec
  have hb := B.bytes
  have hr := B.returns
  have hts := atoms_spec (ws := wsX11_appendName) B.pre
  have hown : s.vm.findClass RX11 = some m.cls := findClass_of_methodNamed B.named
  have hlocks := B.notSynchronized
  have k1 := hts (.fieldLink RX11 101 "KeyLetters" "latestLine" "Ljava/lang/StringBuilder;") (by decide +kernel)
  have hl := lv_entry ([.ref (Z 0 0 0), .long nm]) (n := 4) (Nat.le_of_ble_eq_true rfl)
  rw [show entryFrame m args 4 = entryFrame m ([.ref (Z 0 0 0), .long nm] : List Value).toArray 4 from by rw [hav], lg_entry_eq]
  generalize (lg_sl ([.ref (Z 0 0 0), .long nm]) ++ List.replicate (4 - (lg_sl ([.ref (Z 0 0 0), .long nm])).length) Slot.unset).toArray = ls at hl ⊢
  have hl : lv_has ls 4 [(0, .ref (Z 0 0 0)), (1, .long nm)] := hl
  have loop : ∀ (n i q z : Nat) (b : Int32) (a : Nat → Int32) (H : Heap) (locs : List Loc) (ls : Array Slot), n + i = lt.length → sI (L ++ lt.take i) z a → va_P (dC, dI) vwCl (wX11 cs ad (Z 0 0) (Z 1 0 0) (Z 2 0 0) (Z 3 0 0) (Z 4 0 0) (Z 5 0 0) (Z 6 0 0) (Z 7 0 0) (Z 8 0 0) (Z 9 0 0) (Z 10 0 0) (Z 11 0 0) (Z 12 0 0) (Z 13 0 0) (Z 14 0 0) (Z 18 0 0) K ++ sW cs (Z 18 0 0) q z (nI (L ++ lt.take i).length) b a) H → va_D (va_A (wX11 cs ad (Z 0 0) (Z 1 0 0) (Z 2 0 0) (Z 3 0 0) (Z 4 0 0) (Z 5 0 0) (Z 6 0 0) (Z 7 0 0) (Z 8 0 0) (Z 9 0 0) (Z 10 0 0) (Z 11 0 0) (Z 12 0 0) (Z 13 0 0) (Z 14 0 0) (Z 18 0 0) K ++ sW cs (Z 18 0 0) q0 z0 (nI L.length) b0 a0) s.heap.size) (wX11 cs ad (Z 0 0) (Z 1 0 0) (Z 2 0 0) (Z 3 0 0) (Z 4 0 0) (Z 5 0 0) (Z 6 0 0) (Z 7 0 0) (Z 8 0 0) (Z 9 0 0) (Z 10 0 0) (Z 11 0 0) (Z 12 0 0) (Z 13 0 0) (Z 14 0 0) (Z 18 0 0) K ++ sW cs (Z 18 0 0) q z (nI (L ++ lt.take i).length) b a) → va_S (va_A (wX11 cs ad (Z 0 0) (Z 1 0 0) (Z 2 0 0) (Z 3 0 0) (Z 4 0 0) (Z 5 0 0) (Z 6 0 0) (Z 7 0 0) (Z 8 0 0) (Z 9 0 0) (Z 10 0 0) (Z 11 0 0) (Z 12 0 0) (Z 13 0 0) (Z 14 0 0) (Z 18 0 0) K ++ sW cs (Z 18 0 0) q0 z0 (nI L.length) b0 a0) s.heap.size) s.heap H locs → lv_has ls 4 [(3, .int (nI i)), (0, .ref (Z 0 0 0)), (1, .long nm)] → W p l e (headSpec wsX11_appendName (rm_s 6 7 1400)).room s m args below meth c H locs i (200 * i) (MQ below (va_Qv (fun u : Nat × Nat × Int32 × (Nat → Int32) => sI (L ++ lt) u.2.1 u.2.2.2) (fun u t => cB dC dI cs (va_A (wX11 cs ad (Z 0 0) (Z 1 0 0) (Z 2 0 0) (Z 3 0 0) (Z 4 0 0) (Z 5 0 0) (Z 6 0 0) (Z 7 0 0) (Z 8 0 0) (Z 9 0 0) (Z 10 0 0) (Z 11 0 0) (Z 12 0 0) (Z 13 0 0) (Z 14 0 0) (Z 18 0 0) K ++ sW cs (Z 18 0 0) q0 z0 (nI L.length) b0 a0) s.heap.size) (wX11 cs ad (Z 0 0) (Z 1 0 0) (Z 2 0 0) (Z 3 0 0) (Z 4 0 0) (Z 5 0 0) (Z 6 0 0) (Z 7 0 0) (Z 8 0 0) (Z 9 0 0) (Z 10 0 0) (Z 11 0 0) (Z 12 0 0) (Z 13 0 0) (Z 14 0 0) (Z 18 0 0) K ++ sW cs (Z 18 0 0) u.1 u.2.1 (nI (L ++ lt).length) u.2.2.1 u.2.2.2) t) (va_A (wX11 cs ad (Z 0 0) (Z 1 0 0) (Z 2 0 0) (Z 3 0 0) (Z 4 0 0) (Z 5 0 0) (Z 6 0 0) (Z 7 0 0) (Z 8 0 0) (Z 9 0 0) (Z 10 0 0) (Z 11 0 0) (Z 12 0 0) (Z 13 0 0) (Z 14 0 0) (Z 18 0 0) K ++ sW cs (Z 18 0 0) q0 z0 (nI L.length) b0 a0) s.heap.size)) args s 7 1400 (va_A (wX11 cs ad (Z 0 0) (Z 1 0 0) (Z 2 0 0) (Z 3 0 0) (Z 4 0 0) (Z 5 0 0) (Z 6 0 0) (Z 7 0 0) (Z 8 0 0) (Z 9 0 0) (Z 10 0 0) (Z 11 0 0) (Z 12 0 0) (Z 13 0 0) (Z 14 0 0) (Z 18 0 0) K ++ sW cs (Z 18 0 0) q0 z0 (nI L.length) b0 a0) s.heap.size)) (F0 m 2 ls []) := by
      intro n
      induction n with
      | zero =>
        intro i q z b a H locs ls hi hI hP hD hS hl
        have hi7 : i ≤ 7 := by have := hlt.2.1; omega
        refine lv_iload_n hx hb dX11_appendName_2 rfl (lv_at hl 0 rfl) ?_
        refine lv_bipush (v := 7) hx hb dX11_appendName_3 (by decide) ?_
        by_cases h7 : 7 ≤ i
        · refine lv_icmp_ge (tgt := 36) hx hb dX11_appendName_5 (by decide) (fun _ => ?_) (fun h => absurd (nI_le (a := 7) h7 (by omega)) h)
          have ei : i = lt.length := by omega
          subst ei
          rw [List.take_length] at hI hP hD
          refine W.widen (k := 7) (n := 1400) (by omega) (by omega) ?_
          exact W.vret hx hb hr (fun t ht hW => ⟨⟨(q, z, b, a), rfl, hI, by rw [ht]; exact hP, va_K.moved hW.alike hK, hD⟩, hS.F ht⟩) hS.2.2 dX11_appendName_36
        · refine lv_icmp_ge (tgt := 36) hx hb dX11_appendName_5 (by decide) (fun h => absurd h (fun z => h7 (by have := (nI_leI (a := 7) (b := i) (by decide) (by omega)).mp z; omega))) (fun _ => ?_)
          refine lv_lload_n hx hb dX11_appendName_8 rfl (lv_at hl 2 rfl) ?_
          refine lv_iload_n hx hb dX11_appendName_9 rfl (lv_at hl 0 rfl) ?_
          refine ko_call (v := some (.int (f_X11_letterAt nm (nI i)))) (va_runS (As := [.long nm, .int (nI i)]) (rest := []) ⟨hx, hb, hml, hown, hts⟩ (c_X11_letterAt l dC dI cs ad nm (nI i) _ rfl) (va_cwS 2 hts gX11_appendName_X11_letterAt rfl rfl rfl (by decide +kernel) ⟨Nat.le_of_ble_eq_true rfl, Nat.le_of_ble_eq_true rfl⟩) ⟨fun a U g mk q => ⟨q.1, (fun _ _ _ _ => cPr_bl) a U g mk q.2⟩, fun U hU hW => ⟨rfl, ⟨by rw [hU]; exact (hP.sub (ws' := ([] : va_W)) [] rfl), va_K.moved hW.alike hK, kN_warm hW hN⟩⟩⟩ rfl rfl hl.1 rfl (lv_room (Nat.le_of_ble_eq_true rfl)) dX11_appendName_10 ⟨(show i + 0 ≤ 7 by omega), (show 200 * i + 0 ≤ 1400 by omega)⟩) ?_
          refine kt_v (show (.int (f_X11_letterAt nm (nI i)) : Value) = .int (nI 0) from congrArg Value.int (by rw [q_letC hn (by omega), show i = lt.length by omega, List.getD_eq_getElem?_getD, List.getElem?_eq_none (Nat.le_refl _)]; rfl)) ?_
          refine lv_if_eq (tgt := 36) hx hb dX11_appendName_13 (by decide) (fun _ => ?_) (fun h => absurd (rfl) h)
          have ei : i = lt.length := by omega
          subst ei
          rw [List.take_length] at hI hP hD
          refine W.widen (k := 7) (n := 1400) (by omega) (by omega) ?_
          exact W.vret hx hb hr (fun t ht hW => ⟨⟨(q, z, b, a), rfl, hI, by rw [ht]; exact hP, va_K.moved hW.alike hK, hD⟩, hS.F ht⟩) hS.2.2 dX11_appendName_36
      | succ n ih =>
        intro i q z b a H locs ls hi hI hP hD hS hl
        have hi7 : i < 7 := by have := hlt.2.1; omega
        have hil : i < lt.length := by omega
        have hch : 97 ≤ lt.getD i 0 ∧ lt.getD i 0 ≤ 122 := by rw [List.getD_eq_getElem?_getD, List.getElem?_eq_getElem hil]; exact hlt.2.2 _ (List.getElem_mem hil)
        have hle : (L ++ lt.take i).length ≤ 60 := by rw [List.length_append, List.length_take]; omega
        refine lv_iload_n hx hb dX11_appendName_2 rfl (lv_at hl 0 rfl) ?_
        refine lv_bipush (v := 7) hx hb dX11_appendName_3 (by decide) ?_
        refine lv_icmp_ge (tgt := 36) hx hb dX11_appendName_5 (by decide) (fun h => absurd h (fun z => by have := (nI_leI (a := 7) (b := i) (by decide) (by omega)).mp z; omega)) (fun _ => ?_)
        refine lv_lload_n hx hb dX11_appendName_8 rfl (lv_at hl 2 rfl) ?_
        refine lv_iload_n hx hb dX11_appendName_9 rfl (lv_at hl 0 rfl) ?_
        refine ko_call (v := some (.int (f_X11_letterAt nm (nI i)))) (va_runS (As := [.long nm, .int (nI i)]) (rest := []) ⟨hx, hb, hml, hown, hts⟩ (c_X11_letterAt l dC dI cs ad nm (nI i) _ rfl) (va_cwS 2 hts gX11_appendName_X11_letterAt rfl rfl rfl (by decide +kernel) ⟨Nat.le_of_ble_eq_true rfl, Nat.le_of_ble_eq_true rfl⟩) ⟨fun a U g mk q => ⟨q.1, (fun _ _ _ _ => cPr_bl) a U g mk q.2⟩, fun U hU hW => ⟨rfl, ⟨by rw [hU]; exact (hP.sub (ws' := ([] : va_W)) [] rfl), va_K.moved hW.alike hK, kN_warm hW hN⟩⟩⟩ rfl rfl hl.1 rfl (lv_room (Nat.le_of_ble_eq_true rfl)) dX11_appendName_10 ⟨(show i + 0 ≤ 7 by omega), (show 200 * i + 0 ≤ 1400 by omega)⟩) ?_
        refine kt_v (show (.int (f_X11_letterAt nm (nI i)) : Value) = .int (nI (lt.getD i 0)) from congrArg Value.int (q_letC hn (by omega))) ?_
        refine lv_if_eq (tgt := 36) hx hb dX11_appendName_13 (by decide) (fun h => absurd h (fun e => by have := (nI_eq (a := lt.getD i 0) (b := 0) (by omega) (by decide)).mp e; omega)) (fun _ => ?_)
        refine lv_aload_n hx hb dX11_appendName_16 rfl (lv_at hl 1 rfl) ?_
        refine va_get (D := (dC, dI)) (ci := 11) (C := RX11) (T := TX11) (N := 19) hx hb hts hinX11 hown hK hP 0 rfl rfl 18 (by decide) (v := .ref (Z 18 0 0)) k1 (fun _ h9 => h9) rfl dX11_appendName_17 ?_
        refine lv_lload_n hx hb dX11_appendName_20 rfl (lv_at hl 2 rfl) ?_
        refine lv_iload_n hx hb dX11_appendName_21 rfl (lv_at hl 0 rfl) ?_
        refine ko_call (v := some (.int (f_X11_letterAt nm (nI i)))) (va_runS (As := [.long nm, .int (nI i)]) (rest := [.ref (Z 18 0 0)]) ⟨hx, hb, hml, hown, hts⟩ (c_X11_letterAt l dC dI cs ad nm (nI i) _ rfl) (va_cwS 2 hts gX11_appendName_X11_letterAt rfl rfl rfl (by decide +kernel) ⟨Nat.le_of_ble_eq_true rfl, Nat.le_of_ble_eq_true rfl⟩) ⟨fun a U g mk q => ⟨q.1, (fun _ _ _ _ => cPr_bl) a U g mk q.2⟩, fun U hU hW => ⟨rfl, ⟨by rw [hU]; exact (hP.sub (ws' := ([] : va_W)) [] rfl), va_K.moved hW.alike hK, kN_warm hW hN⟩⟩⟩ rfl rfl hl.1 rfl (lv_room (Nat.le_of_ble_eq_true rfl)) dX11_appendName_22 ⟨(show i + 0 ≤ 7 by omega), (show 200 * i + 0 ≤ 1400 by omega)⟩) ?_
        refine kt_v (show (.int (f_X11_letterAt nm (nI i)) : Value) = .int (nI (lt.getD i 0)) from congrArg Value.int (q_letC hn (by omega))) ?_
        refine lv_i2c (v := (nI (lt.getD i 0))) hx hb dX11_appendName_25 ((sb_byte _ (by omega)).2.1) ?_
        have hF := va_free (wc := (sW cs (Z 18 0 0) q z (nI (L ++ lt.take i).length) b a)) hD hS hA [1, 2] rfl
        refine va_callr (va_runV (As := [.int (nI (lt.getD i 0))]) (rest := []) ⟨hx, hb, hml, hown, hts⟩ (c_J4_appendC l dC dI cs (Z 18 0 0) q z (L ++ lt.take i) b a (lt.getD i 0) H.size hI hle (by omega)) (cwV 1 hts gX11_appendName_J4_append_cf468 rfl rfl rfl (by decide +kernel) ⟨Nat.le_of_ble_eq_true rfl, Nat.le_of_ble_eq_true rfl⟩) ⟨fun a U g mk q => ⟨q.1, sPw_bl q.2⟩, va_recv hK hP (ci := 0) (q0 := 1) rfl rfl, fun U hU hW => ⟨rfl, by rw [hU], by rw [hU]; exact hP.sub (ws' := (sW cs (Z 18 0 0) q z (nI (L ++ lt.take i).length) b a)) [1, 2] rfl, va_K.moved hW.alike hK, (hD.sub (ws' := (sW cs (Z 18 0 0) q z (nI (L ++ lt.take i).length) b a)) [1, 2] (by decide) rfl).weaken (fun _ _ _ _ => trivial), kC.at hC hS hF U hU hW⟩⟩ rfl rfl hl.1 rfl (lv_room (Nat.le_of_ble_eq_true rfl)) dX11_appendName_26 ⟨(show i + 1 ≤ 7 by omega), (show 200 * i + 200 ≤ 1400 by omega)⟩) hS (fun q _ h => hF q h) hF (fun u ra t9 H1 locs1 ht hvm hu hB hz hk hS => ?_)
        obtain ⟨q1, z1, b1, a1⟩ := u
        obtain ⟨era, hP1, hK1, hD1⟩ := hB
        rw [ht] at hP1
        have hj := g_cjl hP hD hk hF hP1 hD1
        rw [List.append_assoc, getD_take hil] at hu hj
        refine lv_pop hx hb dX11_appendName_29 rfl ?_
        refine lv_iinc (k := 0) (x := nI i) (v := nI (i + 1)) (nL := 4) (lv' := [(3, .int (nI (i + 1))), (0, .ref (Z 0 0 0)), (1, .long nm)]) hx hb dX11_appendName_30 hl rfl (nI_1 i) (by decide) rfl (fun ls hl => ?_)
        refine lv_goto (tgt := 2) hx hb dX11_appendName_33 (by decide) ?_
        refine W.widen (k := i + 1) (n := 200 * (i + 1)) (by omega) (by omega) ?_
        exact ih (i + 1) q1 z1 b1 a1 H1 locs1 ls (by omega) hu hj.1 hj.2 hS hl
  refine lv_iconst (v := 0) hx hb dX11_appendName_0 (by decide) ?_
  refine lv_istore_n (nL := 4) (lv' := [(3, .int 0), (0, .ref (Z 0 0 0)), (1, .long nm)]) hx hb dX11_appendName_1 rfl hl (by decide) rfl (fun ls hl => ?_)
  exact loop lt.length 0 q0 z0 b0 a0 s.heap [] ls rfl (by rw [List.take_zero, List.append_nil]; exact hI) (by rw [List.take_zero, List.append_nil]; exact hP) (by rw [List.take_zero, List.append_nil]; exact hD) hS hl

theorem emL_map (d v : Nat) : emL d v = (List.range (d + 1)).map (fun i => 48 + v / 10 ^ (d - i) % 10) := by
  induction d with
  | zero => simp [emL, List.range_succ]
  | succ d ih =>
    rw [List.range_succ_eq_map, List.map_cons, List.map_map]
    show (48 + v / 10 ^ (d + 1) % 10) :: emL d v = _
    rw [ih]
    congr 1
    apply List.map_congr_left
    intro i hi
    show 48 + v / 10 ^ (d - i) % 10 = 48 + v / 10 ^ (d + 1 - (i + 1)) % 10
    rw [Nat.add_sub_add_right]
theorem dgs_dg {v : Nat} (hv : v < 2 ^ 31) : dgs 9 v 0 + 1 = sb_dg v := by
  obtain ⟨-, g2, g3, g4⟩ := dgs_le (v := v) (by omega) 9 0 (by omega) (by omega)
  generalize dgs 9 v 0 = d at g2 g3 g4
  have hd : d = 0 ∨ d = 1 ∨ d = 2 ∨ d = 3 ∨ d = 4 ∨ d = 5 ∨ d = 6 ∨ d = 7 ∨ d = 8 ∨ d = 9 := by omega
  rcases hd with rfl | rfl | rfl | rfl | rfl | rfl | rfl | rfl | rfl | rfl
  · simp only [Nat.pow_zero, Nat.div_one] at g3
    unfold sb_dg; (repeat' split) <;> omega
  · have g5 := g4 0 (by omega) (by omega)
    simp only [show (10 : Nat) ^ 1 = 10 by decide, show (10 : Nat) ^ 0 = 1 by decide] at g3 g5
    unfold sb_dg; (repeat' split) <;> omega
  · have g5 := g4 1 (by omega) (by omega)
    simp only [show (10 : Nat) ^ 2 = 100 by decide, show (10 : Nat) ^ 1 = 10 by decide] at g3 g5
    unfold sb_dg; (repeat' split) <;> omega
  · have g5 := g4 2 (by omega) (by omega)
    simp only [show (10 : Nat) ^ 3 = 1000 by decide, show (10 : Nat) ^ 2 = 100 by decide] at g3 g5
    unfold sb_dg; (repeat' split) <;> omega
  · have g5 := g4 3 (by omega) (by omega)
    simp only [show (10 : Nat) ^ 4 = 10000 by decide, show (10 : Nat) ^ 3 = 1000 by decide] at g3 g5
    unfold sb_dg; (repeat' split) <;> omega
  · have g5 := g4 4 (by omega) (by omega)
    simp only [show (10 : Nat) ^ 5 = 100000 by decide, show (10 : Nat) ^ 4 = 10000 by decide] at g3 g5
    unfold sb_dg; (repeat' split) <;> omega
  · have g5 := g4 5 (by omega) (by omega)
    simp only [show (10 : Nat) ^ 6 = 1000000 by decide, show (10 : Nat) ^ 5 = 100000 by decide] at g3 g5
    unfold sb_dg; (repeat' split) <;> omega
  · have g5 := g4 6 (by omega) (by omega)
    simp only [show (10 : Nat) ^ 7 = 10000000 by decide, show (10 : Nat) ^ 6 = 1000000 by decide] at g3 g5
    unfold sb_dg; (repeat' split) <;> omega
  · have g5 := g4 7 (by omega) (by omega)
    simp only [show (10 : Nat) ^ 8 = 100000000 by decide, show (10 : Nat) ^ 7 = 10000000 by decide] at g3 g5
    unfold sb_dg; (repeat' split) <;> omega
  · have g5 := g4 8 (by omega) (by omega)
    simp only [show (10 : Nat) ^ 9 = 1000000000 by decide, show (10 : Nat) ^ 8 = 100000000 by decide] at g3 g5
    unfold sb_dg; (repeat' split) <;> omega
theorem emL_dec {v : Nat} (hv : v < 2 ^ 31) : emL (dgs 9 v 0) v = (List.range (sb_dg v)).map (sb_dec v) := by
  have h := dgs_dg hv
  rw [emL_map, h]
  apply List.map_congr_left
  intro i hi
  show 48 + v / 10 ^ (dgs 9 v 0 - i) % 10 = 48 + v / 10 ^ (sb_dg v - 1 - i) % 10
  rw [show sb_dg v - 1 = dgs 9 v 0 by omega]
theorem dec_len (v : Nat) : ((List.range (sb_dg v)).map (sb_dec v)).length ≤ 10 := by
  rw [List.length_map, List.length_range]
  exact (sb_dg_in v).2

set_option maxHeartbeats 4000000 in
set_option maxRecDepth 100000 in
theorem c_X11_line0 (l : Launch) (dC : Nat → ClassId) (dI : Nat → Nat → Nat) (cs : Nat → ClassId) (ad : Nat → Nat) (Z : Nat → Nat → Nat → Nat) (bq bz : Nat) (bb : Int32) (ba : Nat → Int32) (Ln : List Nat) (K O S : kD) (a0 : Int32) (hm : f_X3_hasMachine a0 O = 0) : Met l yX11_line wsX11_line (rm_s 8 0 0) (va_Pc [.ref (Z 0 0 0), .int a0] (cPr dC dI cs ((wX11 cs ad (Z 0 0) (Z 1 0 0) (Z 2 0 0) (Z 3 0 0) (Z 4 0 0) (Z 5 0 0) (Z 6 0 0) (Z 7 0 0) (Z 8 0 0) (Z 9 0 0) (Z 10 0 0) (Z 11 0 0) (Z 12 0 0) (Z 13 0 0) (Z 14 0 0) (Z 18 0 0) K ++ (wX7 cs ad (Z 3 0) (Z 20 0 0) (Z 21 0 0) (Z 22 0 0) zD ++ (wX3 cs ad (Z 20 0) O ++ wX9 cs ad (Z 21 0) S))) ++ sW cs (Z 18 0 0) bq bz (nI Ln.length) bb ba))) (kQ (some (.int (-1)))) 0 0 (kF) := by
  refine Met.ofW (cc := cX11_line) (maxL := 2) (ret := (some .int)) (by decide) rfl ?_
  intro p e s m args below meth c s₁ B hml hv
  obtain ⟨hav, hP, hK, hN⟩ := hv
  have hinJ : ∀ w ∈ wsJ40, w ∈ wsX11_line := fun w h => List.mem_cons_of_mem _ (List.mem_append_right _ h)
  have hinX9 : ∀ w ∈ wsX90, w ∈ wsX11_line := fun w h => List.mem_cons_of_mem _ (List.mem_append_left _ (List.mem_append_right _ h))
  have hinX3 : ∀ w ∈ wsX30, w ∈ wsX11_line := fun w h => List.mem_cons_of_mem _ (List.mem_append_left _ (List.mem_append_left _ (List.mem_append_right _ h)))
  have hinX7 : ∀ w ∈ wsX70, w ∈ wsX11_line := fun w h => List.mem_cons_of_mem _ (List.mem_append_left _ (List.mem_append_left _ (List.mem_append_left _ (List.mem_append_right _ h))))
  have hinX11 : ∀ w ∈ wsX110, w ∈ wsX11_line := fun w h => List.mem_cons_of_mem _ (List.mem_append_left _ (List.mem_append_left _ (List.mem_append_left _ (List.mem_append_left _ (List.mem_append_right _ h)))))
  have hx := B.exec
  have hb := B.bytes
  have hr := B.returns
  have hts := atoms_spec (ws := wsX11_line) B.pre
  have hown : s.vm.findClass RX11 = some m.cls := findClass_of_methodNamed B.named
  have hlocks := B.notSynchronized
  have k1 := hts (.fieldLink RX11 23 "KeyLetters" "scene" "LKeyLetters$Scene;") (by decide +kernel)
  have k2 := hts (.initialized RX3) (by decide +kernel)
  have k3 := hts (.instanceMethod yX3_hasMachine) (by decide +kernel)
  have k4 := hts (.selects RX3 yX3_hasMachine yX3_hasMachine) (by decide +kernel)
  have hl := lv_entry ([.ref (Z 0 0 0), .int a0]) (n := 2) (Nat.le_of_ble_eq_true rfl)
  rw [show entryFrame m args 2 = entryFrame m ([.ref (Z 0 0 0), .int a0] : List Value).toArray 2 from by rw [hav], lg_entry_eq]
  generalize (lg_sl ([.ref (Z 0 0 0), .int a0]) ++ List.replicate (2 - (lg_sl ([.ref (Z 0 0 0), .int a0])).length) Slot.unset).toArray = ls at hl ⊢
  have hl : lv_has ls 2 [(0, .ref (Z 0 0 0)), (1, .int a0)] := hl
  refine lv_aload_n hx hb dX11_line_0 rfl (lv_at hl 0 rfl) ?_
  refine va_get (D := (dC, dI)) (ci := 11) (C := RX11) (T := TX11) (N := 19) hx hb hts hinX11 hown hK hP 0 rfl rfl 3 (by decide) (v := .ref (Z 3 0 0)) k1 (fun _ h9 => h9) rfl dX11_line_1 ?_
  refine va_getN (D := (dC, dI)) (ci := 8) (C := RX7) (T := TX7) (N := 3) hx hb hts hinX7 hown hK hP 1 rfl rfl 0 (by decide) (v := .ref (Z 20 0 0)) (va_Nw.use rfl (hN _ (List.mem_of_getElem? (i := 50) rfl))) (fun _ h9 => h9) rfl dX11_line_4 ?_
  refine lv_iload_n hx hb dX11_line_7 rfl (lv_at hl 1 rfl) ?_
  refine ko_call (v := some (.int (f_X3_hasMachine a0 O))) (va_runVN (As := [.int a0]) (rest := []) ⟨hx, hb, hml, hown, hts⟩ (c_X3_hasMachine l dC dI cs ad (Z 20 0) O a0 _ rfl) ⟨va_cnB 1 hts gX11_line_X3_hasMachine_n149 rfl rfl rfl (hN _ (List.mem_of_getElem? (i := 93) rfl)) k2 (by decide +kernel) ⟨Nat.le_of_ble_eq_true rfl, Nat.le_of_ble_eq_true rfl⟩, k3, k4⟩ ⟨fun a U g mk q => ⟨q.1, (fun _ _ _ _ => cPr_bl) a U g mk q.2⟩, va_recv hK hP (ci := 4) (q0 := 2) rfl rfl, fun U hU hW => ⟨rfl, ⟨by rw [hU]; exact (hP.sub (ws' := ww_X3_hasMachine cs ad (Z 20 0) O) [2, 3, 4, 5, 6, 7, 8, 9] rfl), va_K.moved hW.alike hK, kN_warm hW hN⟩⟩⟩ rfl rfl hl.1 rfl (lv_room (Nat.le_of_ble_eq_true rfl)) dX11_line_8 ⟨(by first | exact Nat.le_refl _ | exact Nat.zero_le _ | exact Nat.le_of_ble_eq_true rfl | (show 0 + _ ≤ 200; omega)), (by first | exact Nat.le_refl _ | exact Nat.zero_le _ | exact Nat.le_of_ble_eq_true rfl | (show 0 + _ ≤ 200; omega))⟩) ?_
  refine kt_v (show (.int (f_X3_hasMachine a0 O) : Value) = .int 0 from congrArg Value.int hm) ?_
  refine lv_if_ne (tgt := 16) hx hb dX11_line_11 (by decide) (fun h => absurd h (fun z => z rfl)) (fun _ => ?_)
  refine lv_iconst (v := (-1)) hx hb dX11_line_14 (by decide) ?_
  exact W.iret (v := (-1 : Int32)) hx hb hr (fun t ht hW => ⟨rfl, ht⟩) (fun _ h => nomatch h) dX11_line_15

set_option maxHeartbeats 4000000 in
set_option maxRecDepth 100000 in
theorem c_X11_line1 (l : Launch) (dC : Nat → ClassId) (dI : Nat → Nat → Nat) (cs : Nat → ClassId) (ad : Nat → Nat) (Z : Nat → Nat → Nat → Nat) (bq bz : Nat) (bb : Int32) (ba : Nat → Int32) (Ln : List Nat) (K O S : kD) (mi wv iv : Nat) (lt : List Nat) (nm2 : Int64) (hb0 : Bool) (sz : Nat) (hI : sI Ln bz ba) (hmi : mi < 6) (hm : f_X3_hasMachine (nI mi) O = nI 1) (hn : NM lt (O.2 4 mi) nm2) (hwv : wv < 2 ^ 31) (hiv : iv < 2 ^ 31) (hw0 : S.1 6 mi = nI wv) (hi0 : S.1 5 mi = nI iv) (hh0 : f_X9_isHeld (nI mi) S = q_b hb0) : Met l yX11_line wsX11_line (rm_s 8 13 2600) (va_Pc [.ref (Z 0 0 0), .int (nI mi)] (fun U => cPw dC dI cs sz ((wX11 cs ad (Z 0 0) (Z 1 0 0) (Z 2 0 0) (Z 3 0 0) (Z 4 0 0) (Z 5 0 0) (Z 6 0 0) (Z 7 0 0) (Z 8 0 0) (Z 9 0 0) (Z 10 0 0) (Z 11 0 0) (Z 12 0 0) (Z 13 0 0) (Z 14 0 0) (Z 18 0 0) K ++ (wX7 cs ad (Z 3 0) (Z 20 0 0) (Z 21 0 0) (Z 22 0 0) zD ++ (wX3 cs ad (Z 20 0) O ++ wX9 cs ad (Z 21 0) S))) ++ sW cs (Z 18 0 0) bq bz (nI Ln.length) bb ba) U ∧ kC (va_A ((wX11 cs ad (Z 0 0) (Z 1 0 0) (Z 2 0 0) (Z 3 0 0) (Z 4 0 0) (Z 5 0 0) (Z 6 0 0) (Z 7 0 0) (Z 8 0 0) (Z 9 0 0) (Z 10 0 0) (Z 11 0 0) (Z 12 0 0) (Z 13 0 0) (Z 14 0 0) (Z 18 0 0) K ++ (wX7 cs ad (Z 3 0) (Z 20 0 0) (Z 21 0 0) (Z 22 0 0) zD ++ (wX3 cs ad (Z 20 0) O ++ wX9 cs ad (Z 21 0) S))) ++ sW cs (Z 18 0 0) bq bz (nI Ln.length) bb ba) sz) U U.heap ∧ kLn (va_A ((wX11 cs ad (Z 0 0) (Z 1 0 0) (Z 2 0 0) (Z 3 0 0) (Z 4 0 0) (Z 5 0 0) (Z 6 0 0) (Z 7 0 0) (Z 8 0 0) (Z 9 0 0) (Z 10 0 0) (Z 11 0 0) (Z 12 0 0) (Z 13 0 0) (Z 14 0 0) (Z 18 0 0) K ++ (wX7 cs ad (Z 3 0) (Z 20 0 0) (Z 21 0 0) (Z 22 0 0) zD ++ (wX3 cs ad (Z 20 0) O ++ wX9 cs ad (Z 21 0) S))) ++ sW cs (Z 18 0 0) bq bz (nI Ln.length) bb ba) sz) U U.heap)) (va_Qi (fun (r : Int32) (u : Nat × Nat × Int32 × (Nat → Int32)) => r = nI (lineT lt wv iv hb0).length ∧ sI (lineT lt wv iv hb0) u.2.1 u.2.2.2) (fun u t => cB dC dI cs (va_A ((wX11 cs ad (Z 0 0) (Z 1 0 0) (Z 2 0 0) (Z 3 0 0) (Z 4 0 0) (Z 5 0 0) (Z 6 0 0) (Z 7 0 0) (Z 8 0 0) (Z 9 0 0) (Z 10 0 0) (Z 11 0 0) (Z 12 0 0) (Z 13 0 0) (Z 14 0 0) (Z 18 0 0) K ++ (wX7 cs ad (Z 3 0) (Z 20 0 0) (Z 21 0 0) (Z 22 0 0) zD ++ (wX3 cs ad (Z 20 0) O ++ wX9 cs ad (Z 21 0) S))) ++ sW cs (Z 18 0 0) bq bz (nI Ln.length) bb ba) sz) ((wX11 cs ad (Z 0 0) (Z 1 0 0) (Z 2 0 0) (Z 3 0 0) (Z 4 0 0) (Z 5 0 0) (Z 6 0 0) (Z 7 0 0) (Z 8 0 0) (Z 9 0 0) (Z 10 0 0) (Z 11 0 0) (Z 12 0 0) (Z 13 0 0) (Z 14 0 0) (Z 18 0 0) K ++ (wX7 cs ad (Z 3 0) (Z 20 0 0) (Z 21 0 0) (Z 22 0 0) zD ++ (wX3 cs ad (Z 20 0) O ++ wX9 cs ad (Z 21 0) S))) ++ sW cs (Z 18 0 0) u.1 u.2.1 (nI (lineT lt wv iv hb0).length) u.2.2.1 u.2.2.2) t) (va_A ((wX11 cs ad (Z 0 0) (Z 1 0 0) (Z 2 0 0) (Z 3 0 0) (Z 4 0 0) (Z 5 0 0) (Z 6 0 0) (Z 7 0 0) (Z 8 0 0) (Z 9 0 0) (Z 10 0 0) (Z 11 0 0) (Z 12 0 0) (Z 13 0 0) (Z 14 0 0) (Z 18 0 0) K ++ (wX7 cs ad (Z 3 0) (Z 20 0 0) (Z 21 0 0) (Z 22 0 0) zD ++ (wX3 cs ad (Z 20 0) O ++ wX9 cs ad (Z 21 0) S))) ++ sW cs (Z 18 0 0) bq bz (nI Ln.length) bb ba) sz)) 13 2600 (va_A ((wX11 cs ad (Z 0 0) (Z 1 0 0) (Z 2 0 0) (Z 3 0 0) (Z 4 0 0) (Z 5 0 0) (Z 6 0 0) (Z 7 0 0) (Z 8 0 0) (Z 9 0 0) (Z 10 0 0) (Z 11 0 0) (Z 12 0 0) (Z 13 0 0) (Z 14 0 0) (Z 18 0 0) K ++ (wX7 cs ad (Z 3 0) (Z 20 0 0) (Z 21 0 0) (Z 22 0 0) zD ++ (wX3 cs ad (Z 20 0) O ++ wX9 cs ad (Z 21 0) S))) ++ sW cs (Z 18 0 0) bq bz (nI Ln.length) bb ba) sz) := by
  refine Met.ofW (cc := cX11_line) (maxL := 2) (ret := (some .int)) (by decide) rfl ?_
  intro p e s m args below meth c s₁ B hml hv
  obtain ⟨hav, ⟨hsz, hP, hK, hD0, hN⟩, hC, hLn⟩ := hv
  subst hsz
  have hinJ : ∀ w ∈ wsJ40, w ∈ wsX11_line := fun w h => List.mem_cons_of_mem _ (List.mem_append_right _ h)
  have hinX9 : ∀ w ∈ wsX90, w ∈ wsX11_line := fun w h => List.mem_cons_of_mem _ (List.mem_append_left _ (List.mem_append_right _ h))
  have hinX3 : ∀ w ∈ wsX30, w ∈ wsX11_line := fun w h => List.mem_cons_of_mem _ (List.mem_append_left _ (List.mem_append_left _ (List.mem_append_right _ h)))
  have hinX7 : ∀ w ∈ wsX70, w ∈ wsX11_line := fun w h => List.mem_cons_of_mem _ (List.mem_append_left _ (List.mem_append_left _ (List.mem_append_left _ (List.mem_append_right _ h))))
  have hinX11 : ∀ w ∈ wsX110, w ∈ wsX11_line := fun w h => List.mem_cons_of_mem _ (List.mem_append_left _ (List.mem_append_left _ (List.mem_append_left _ (List.mem_append_left _ (List.mem_append_right _ h)))))
  have hA : ∀ q9, s.heap.size ≤ q9 → va_A ((wX11 cs ad (Z 0 0) (Z 1 0 0) (Z 2 0 0) (Z 3 0 0) (Z 4 0 0) (Z 5 0 0) (Z 6 0 0) (Z 7 0 0) (Z 8 0 0) (Z 9 0 0) (Z 10 0 0) (Z 11 0 0) (Z 12 0 0) (Z 13 0 0) (Z 14 0 0) (Z 18 0 0) K ++ (wX7 cs ad (Z 3 0) (Z 20 0 0) (Z 21 0 0) (Z 22 0 0) zD ++ (wX3 cs ad (Z 20 0) O ++ wX9 cs ad (Z 21 0) S))) ++ sW cs (Z 18 0 0) bq bz (nI Ln.length) bb ba) s.heap.size q9 := fun q9 h => Or.inr h
  have hS : va_S (va_A ((wX11 cs ad (Z 0 0) (Z 1 0 0) (Z 2 0 0) (Z 3 0 0) (Z 4 0 0) (Z 5 0 0) (Z 6 0 0) (Z 7 0 0) (Z 8 0 0) (Z 9 0 0) (Z 10 0 0) (Z 11 0 0) (Z 12 0 0) (Z 13 0 0) (Z 14 0 0) (Z 18 0 0) K ++ (wX7 cs ad (Z 3 0) (Z 20 0 0) (Z 21 0 0) (Z 22 0 0) zD ++ (wX3 cs ad (Z 20 0) O ++ wX9 cs ad (Z 21 0) S))) ++ sW cs (Z 18 0 0) bq bz (nI Ln.length) bb ba) s.heap.size) s.heap s.heap [] := va_S.rf
  have hD : va_D (va_A ((wX11 cs ad (Z 0 0) (Z 1 0 0) (Z 2 0 0) (Z 3 0 0) (Z 4 0 0) (Z 5 0 0) (Z 6 0 0) (Z 7 0 0) (Z 8 0 0) (Z 9 0 0) (Z 10 0 0) (Z 11 0 0) (Z 12 0 0) (Z 13 0 0) (Z 14 0 0) (Z 18 0 0) K ++ (wX7 cs ad (Z 3 0) (Z 20 0 0) (Z 21 0 0) (Z 22 0 0) zD ++ (wX3 cs ad (Z 20 0) O ++ wX9 cs ad (Z 21 0) S))) ++ sW cs (Z 18 0 0) bq bz (nI Ln.length) bb ba) s.heap.size) ((wX11 cs ad (Z 0 0) (Z 1 0 0) (Z 2 0 0) (Z 3 0 0) (Z 4 0 0) (Z 5 0 0) (Z 6 0 0) (Z 7 0 0) (Z 8 0 0) (Z 9 0 0) (Z 10 0 0) (Z 11 0 0) (Z 12 0 0) (Z 13 0 0) (Z 14 0 0) (Z 18 0 0) K ++ (wX7 cs ad (Z 3 0) (Z 20 0 0) (Z 21 0 0) (Z 22 0 0) zD ++ (wX3 cs ad (Z 20 0) O ++ wX9 cs ad (Z 21 0) S))) ++ sW cs (Z 18 0 0) bq bz (nI Ln.length) bb ba) := hD0.self
  obtain ⟨aw, vw, ai, vi, ah, vh, hLw, hLi, hLh⟩ := hLn
  have hlt := hn.1
  have hdw := dec_len wv
  have hdi := dec_len iv
  have hcl : (nI mi).toNatClampNeg = mi := nI_clamp (by omega)
  have hx := B.exec
  have hb := B.bytes
  have hr := B.returns
  have hts := atoms_spec (ws := wsX11_line) B.pre
  have hown : s.vm.findClass RX11 = some m.cls := findClass_of_methodNamed B.named
  have hlocks := B.notSynchronized
  have k1 := hts (.fieldLink RX11 23 "KeyLetters" "scene" "LKeyLetters$Scene;") (by decide +kernel)
  have k2 := hts (.initialized RX3) (by decide +kernel)
  have k3 := hts (.instanceMethod yX3_hasMachine) (by decide +kernel)
  have k4 := hts (.selects RX3 yX3_hasMachine yX3_hasMachine) (by decide +kernel)
  have k5 := hts (.fieldLink RX11 101 "KeyLetters" "latestLine" "Ljava/lang/StringBuilder;") (by decide +kernel)
  have k6 := hts (.initialized RX9) (by decide +kernel)
  have k7 := hts (.instanceMethod yX9_isHeld) (by decide +kernel)
  have k8 := hts (.selects RX9 yX9_isHeld yX9_isHeld) (by decide +kernel)
  have hl := lv_entry ([.ref (Z 0 0 0), .int (nI mi)]) (n := 2) (Nat.le_of_ble_eq_true rfl)
  rw [show entryFrame m args 2 = entryFrame m ([.ref (Z 0 0 0), .int (nI mi)] : List Value).toArray 2 from by rw [hav], lg_entry_eq]
  generalize (lg_sl ([.ref (Z 0 0 0), .int (nI mi)]) ++ List.replicate (2 - (lg_sl ([.ref (Z 0 0 0), .int (nI mi)])).length) Slot.unset).toArray = ls at hl ⊢
  have hl : lv_has ls 2 [(0, .ref (Z 0 0 0)), (1, .int (nI mi))] := hl
  refine lv_aload_n hx hb dX11_line_0 rfl (lv_at hl 0 rfl) ?_
  refine va_get (D := (dC, dI)) (ci := 11) (C := RX11) (T := TX11) (N := 19) hx hb hts hinX11 hown hK hP 0 rfl rfl 3 (by decide) (v := .ref (Z 3 0 0)) k1 (fun _ h9 => h9) rfl dX11_line_1 ?_
  refine va_getN (D := (dC, dI)) (ci := 8) (C := RX7) (T := TX7) (N := 3) hx hb hts hinX7 hown hK hP 1 rfl rfl 0 (by decide) (v := .ref (Z 20 0 0)) (va_Nw.use rfl (hN _ (List.mem_of_getElem? (i := 50) rfl))) (fun _ h9 => h9) rfl dX11_line_4 ?_
  refine lv_iload_n hx hb dX11_line_7 rfl (lv_at hl 1 rfl) ?_
  refine ko_call (v := some (.int (f_X3_hasMachine (nI mi) O))) (va_runVN (As := [.int (nI mi)]) (rest := []) ⟨hx, hb, hml, hown, hts⟩ (c_X3_hasMachine l dC dI cs ad (Z 20 0) O (nI mi) _ rfl) ⟨va_cnB 1 hts gX11_line_X3_hasMachine_n149 rfl rfl rfl (hN _ (List.mem_of_getElem? (i := 93) rfl)) k2 (by decide +kernel) ⟨Nat.le_of_ble_eq_true rfl, Nat.le_of_ble_eq_true rfl⟩, k3, k4⟩ ⟨fun a U g mk q => ⟨q.1, (fun _ _ _ _ => cPr_bl) a U g mk q.2⟩, va_recv hK hP (ci := 4) (q0 := 2) rfl rfl, fun U hU hW => ⟨rfl, ⟨by rw [hU]; exact (hP.sub (ws' := ww_X3_hasMachine cs ad (Z 20 0) O) [2, 3, 4, 5, 6, 7, 8, 9] rfl), va_K.moved hW.alike hK, kN_warm hW hN⟩⟩⟩ rfl rfl hl.1 rfl (lv_room (Nat.le_of_ble_eq_true rfl)) dX11_line_8 ⟨(by first | exact Nat.le_refl _ | exact Nat.zero_le _ | exact Nat.le_of_ble_eq_true rfl | (show 0 + _ ≤ 200; omega)), (by first | exact Nat.le_refl _ | exact Nat.zero_le _ | exact Nat.le_of_ble_eq_true rfl | (show 0 + _ ≤ 200; omega))⟩) ?_
  refine kt_v (show (.int (f_X3_hasMachine (nI mi) O) : Value) = .int (nI 1) from congrArg Value.int hm) ?_
  refine lv_if_ne (tgt := 16) hx hb dX11_line_11 (by decide) (fun _ => ?_) (fun h => absurd h (by decide))
  refine lv_aload_n hx hb dX11_line_16 rfl (lv_at hl 0 rfl) ?_
  refine va_get (D := (dC, dI)) (ci := 11) (C := RX11) (T := TX11) (N := 19) hx hb hts hinX11 hown hK hP 0 rfl rfl 18 (by decide) (v := .ref (Z 18 0 0)) k5 (fun _ h9 => h9) rfl dX11_line_17 ?_
  refine lv_iconst (v := 0) hx hb dX11_line_20 (by decide) ?_
  have hF := va_free (wc := (sW cs (Z 18 0 0) bq bz (nI Ln.length) bb ba)) hD hS hA [15, 16] rfl
  refine va_callv (va_runV (As := [.int 0]) (rest := []) ⟨hx, hb, hml, hown, hts⟩ (c_J4_setLength l dC dI cs (Z 18 0 0) bq bz Ln bb ba s.heap.size hI) (cwV 1 hts gX11_line_J4_setLength_d00df rfl rfl rfl (by decide +kernel) ⟨Nat.le_of_ble_eq_true rfl, Nat.le_of_ble_eq_true rfl⟩) ⟨fun a U g mk q => ⟨q.1, sPw_bl q.2⟩, va_recv hK hP (ci := 0) (q0 := 15) rfl rfl, fun U hU hW => ⟨rfl, ⟨by rw [hU], by rw [hU]; exact hP.sub (ws' := (sW cs (Z 18 0 0) bq bz (nI Ln.length) bb ba)) [15, 16] rfl, va_K.moved hW.alike hK, (hD.sub (ws' := (sW cs (Z 18 0 0) bq bz (nI Ln.length) bb ba)) [15, 16] (by decide) rfl).weaken (fun _ _ _ _ => trivial), kC.at hC hS hF U hU hW⟩⟩⟩ rfl rfl hl.1 rfl (lv_room (Nat.le_of_ble_eq_true rfl)) dX11_line_21 ⟨(by first | exact Nat.le_refl _ | exact Nat.zero_le _ | exact Nat.le_of_ble_eq_true rfl | (show 0 + _ ≤ 200; omega)), (by first | exact Nat.le_refl _ | exact Nat.zero_le _ | exact Nat.le_of_ble_eq_true rfl | (show 0 + _ ≤ 200; omega))⟩) hS (fun q _ h => hF q h) hF (fun u t9 H1 locs ht hvm hu1 hB hz hk hS => ?_)
  obtain ⟨q1, z1, b1, a1⟩ := u
  obtain ⟨hP1, hK1, hD1⟩ := hB
  rw [ht] at hP1
  obtain ⟨hP, hD⟩ := g_cjl hP hD hk hF hP1 hD1
  generalize H1 = H at hP hS ⊢
  refine lv_aload_n hx hb dX11_line_24 rfl (lv_at hl 0 rfl) ?_
  refine lv_aload_n hx hb dX11_line_25 rfl (lv_at hl 0 rfl) ?_
  refine va_get (D := (dC, dI)) (ci := 11) (C := RX11) (T := TX11) (N := 19) hx hb hts hinX11 hown hK hP 0 rfl rfl 3 (by decide) (v := .ref (Z 3 0 0)) k1 (fun _ h9 => h9) rfl dX11_line_26 ?_
  refine va_getN (D := (dC, dI)) (ci := 8) (C := RX7) (T := TX7) (N := 3) hx hb hts hinX7 hown hK hP 1 rfl rfl 0 (by decide) (v := .ref (Z 20 0 0)) (va_Nw.use rfl (hN _ (List.mem_of_getElem? (i := 50) rfl))) (fun _ h9 => h9) rfl dX11_line_29 ?_
  refine va_getN (D := (dC, dI)) (ci := 4) (C := RX3) (T := TX3) (N := 11) hx hb hts hinX3 hown hK hP 2 rfl rfl 4 (by decide) (v := .ref (Z 20 0 4)) (va_Nw.use rfl (hN _ (List.mem_of_getElem? (i := 22) rfl))) (fun _ h9 => h9) rfl dX11_line_32 ?_
  refine lv_iload_n hx hb dX11_line_35 rfl (lv_at hl 1 rfl) ?_
  refine va_lald hx hb hK hP 3 2 rfl rfl (vp_in_nI hmi (by decide)) dX11_line_36 ?_
  refine kt_v (show (.long (O.2 4 (nI mi).toNatClampNeg) : Value) = .long (O.2 4 mi) from by rw [hcl]) ?_
  have hP : va_P (dC, dI) vwCl ((wX7 cs ad (Z 3 0) (Z 20 0 0) (Z 21 0 0) (Z 22 0 0) zD ++ (wX3 cs ad (Z 20 0) O ++ wX9 cs ad (Z 21 0) S)) ++ (wX11 cs ad (Z 0 0) (Z 1 0 0) (Z 2 0 0) (Z 3 0 0) (Z 4 0 0) (Z 5 0 0) (Z 6 0 0) (Z 7 0 0) (Z 8 0 0) (Z 9 0 0) (Z 10 0 0) (Z 11 0 0) (Z 12 0 0) (Z 13 0 0) (Z 14 0 0) (Z 18 0 0) K ++ (sW cs (Z 18 0 0) q1 z1 (nI ([] : List Nat).length) b1 a1))) H := hP.sub [1, 2, 3, 4, 5, 6, 7, 8, 9, 10, 11, 12, 13, 14, 0, 15, 16] rfl
  have hD : va_D (va_A ((wX11 cs ad (Z 0 0) (Z 1 0 0) (Z 2 0 0) (Z 3 0 0) (Z 4 0 0) (Z 5 0 0) (Z 6 0 0) (Z 7 0 0) (Z 8 0 0) (Z 9 0 0) (Z 10 0 0) (Z 11 0 0) (Z 12 0 0) (Z 13 0 0) (Z 14 0 0) (Z 18 0 0) K ++ (wX7 cs ad (Z 3 0) (Z 20 0 0) (Z 21 0 0) (Z 22 0 0) zD ++ (wX3 cs ad (Z 20 0) O ++ wX9 cs ad (Z 21 0) S))) ++ sW cs (Z 18 0 0) bq bz (nI Ln.length) bb ba) s.heap.size) ((wX7 cs ad (Z 3 0) (Z 20 0 0) (Z 21 0 0) (Z 22 0 0) zD ++ (wX3 cs ad (Z 20 0) O ++ wX9 cs ad (Z 21 0) S)) ++ (wX11 cs ad (Z 0 0) (Z 1 0 0) (Z 2 0 0) (Z 3 0 0) (Z 4 0 0) (Z 5 0 0) (Z 6 0 0) (Z 7 0 0) (Z 8 0 0) (Z 9 0 0) (Z 10 0 0) (Z 11 0 0) (Z 12 0 0) (Z 13 0 0) (Z 14 0 0) (Z 18 0 0) K ++ (sW cs (Z 18 0 0) q1 z1 (nI ([] : List Nat).length) b1 a1))) := hD.sub [1, 2, 3, 4, 5, 6, 7, 8, 9, 10, 11, 12, 13, 14, 0, 15, 16] rfl rfl
  have hF := va_free (wc := (wX11 cs ad (Z 0 0) (Z 1 0 0) (Z 2 0 0) (Z 3 0 0) (Z 4 0 0) (Z 5 0 0) (Z 6 0 0) (Z 7 0 0) (Z 8 0 0) (Z 9 0 0) (Z 10 0 0) (Z 11 0 0) (Z 12 0 0) (Z 13 0 0) (Z 14 0 0) (Z 18 0 0) K ++ (sW cs (Z 18 0 0) q1 z1 (nI ([] : List Nat).length) b1 a1))) hD hS hA [14, 15, 16] rfl
  refine va_callv (va_runV (As := [.long (O.2 4 mi)]) (rest := []) ⟨hx, hb, hml, hown, hts⟩ (c_X11_appendName l dC dI cs ad Z q1 z1 b1 a1 [] lt K (O.2 4 mi) nm2 H.size hu1 (by decide) hn) (cwV 1 hts gX11_line_X11_appendName rfl rfl rfl (by decide +kernel) ⟨Nat.le_of_ble_eq_true rfl, Nat.le_of_ble_eq_true rfl⟩) ⟨fun a U g mk q => ⟨q.1, cPw_bl q.2.1, kC.moved (u := U) (U := U.calling g mk a) (Vm.Alike.refl U.vm) q.2.2⟩, va_recv hK hP (ci := 11) (q0 := 14) rfl rfl, fun U hU hW => ⟨rfl, ⟨by rw [hU], by rw [hU]; exact hP.sub (ws' := (wX11 cs ad (Z 0 0) (Z 1 0 0) (Z 2 0 0) (Z 3 0 0) (Z 4 0 0) (Z 5 0 0) (Z 6 0 0) (Z 7 0 0) (Z 8 0 0) (Z 9 0 0) (Z 10 0 0) (Z 11 0 0) (Z 12 0 0) (Z 13 0 0) (Z 14 0 0) (Z 18 0 0) K ++ (sW cs (Z 18 0 0) q1 z1 (nI ([] : List Nat).length) b1 a1))) [14, 15, 16] rfl, va_K.moved hW.alike hK, (hD.sub (ws' := (wX11 cs ad (Z 0 0) (Z 1 0 0) (Z 2 0 0) (Z 3 0 0) (Z 4 0 0) (Z 5 0 0) (Z 6 0 0) (Z 7 0 0) (Z 8 0 0) (Z 9 0 0) (Z 10 0 0) (Z 11 0 0) (Z 12 0 0) (Z 13 0 0) (Z 14 0 0) (Z 18 0 0) K ++ (sW cs (Z 18 0 0) q1 z1 (nI ([] : List Nat).length) b1 a1))) [14, 15, 16] (by decide) rfl).weaken (fun _ _ _ _ => trivial), kN_warm hW hN⟩, kC.at hC hS hF U hU hW⟩⟩ rfl rfl hl.1 rfl (lv_room (Nat.le_of_ble_eq_true rfl)) dX11_line_37 ⟨(by first | exact Nat.le_refl _ | exact Nat.zero_le _ | exact Nat.le_of_ble_eq_true rfl | (show 0 + _ ≤ 200; omega)), (by first | exact Nat.le_refl _ | exact Nat.zero_le _ | exact Nat.le_of_ble_eq_true rfl | (show 0 + _ ≤ 200; omega))⟩) hS (fun q _ h => hF q h) hF (fun u t9 H1 locs ht hvm hu2 hB hz hk hS => ?_)
  obtain ⟨q2, z2, b2, a2⟩ := u
  obtain ⟨hP1, hK1, hD1⟩ := hB
  rw [ht] at hP1
  obtain ⟨hP, hD⟩ := g_cjl hP hD hk hF hP1 hD1
  obtain ⟨L2, eL2⟩ : ∃ z9 : List Nat, z9 = [] ++ lt := ⟨_, rfl⟩
  rw [← eL2] at hu2 hP hD
  generalize H1 = H at hP hS ⊢
  have hl2 : L2.length ≤ 7 := by rw [eL2]; exact hlt.2.1
  have hP : va_P (dC, dI) vwCl ((wX11 cs ad (Z 0 0) (Z 1 0 0) (Z 2 0 0) (Z 3 0 0) (Z 4 0 0) (Z 5 0 0) (Z 6 0 0) (Z 7 0 0) (Z 8 0 0) (Z 9 0 0) (Z 10 0 0) (Z 11 0 0) (Z 12 0 0) (Z 13 0 0) (Z 14 0 0) (Z 18 0 0) K ++ (wX7 cs ad (Z 3 0) (Z 20 0 0) (Z 21 0 0) (Z 22 0 0) zD ++ (wX3 cs ad (Z 20 0) O ++ wX9 cs ad (Z 21 0) S))) ++ (sW cs (Z 18 0 0) q2 z2 (nI L2.length) b2 a2)) H := hP.sub [14, 0, 1, 2, 3, 4, 5, 6, 7, 8, 9, 10, 11, 12, 13, 15, 16] rfl
  have hD : va_D (va_A ((wX11 cs ad (Z 0 0) (Z 1 0 0) (Z 2 0 0) (Z 3 0 0) (Z 4 0 0) (Z 5 0 0) (Z 6 0 0) (Z 7 0 0) (Z 8 0 0) (Z 9 0 0) (Z 10 0 0) (Z 11 0 0) (Z 12 0 0) (Z 13 0 0) (Z 14 0 0) (Z 18 0 0) K ++ (wX7 cs ad (Z 3 0) (Z 20 0 0) (Z 21 0 0) (Z 22 0 0) zD ++ (wX3 cs ad (Z 20 0) O ++ wX9 cs ad (Z 21 0) S))) ++ sW cs (Z 18 0 0) bq bz (nI Ln.length) bb ba) s.heap.size) ((wX11 cs ad (Z 0 0) (Z 1 0 0) (Z 2 0 0) (Z 3 0 0) (Z 4 0 0) (Z 5 0 0) (Z 6 0 0) (Z 7 0 0) (Z 8 0 0) (Z 9 0 0) (Z 10 0 0) (Z 11 0 0) (Z 12 0 0) (Z 13 0 0) (Z 14 0 0) (Z 18 0 0) K ++ (wX7 cs ad (Z 3 0) (Z 20 0 0) (Z 21 0 0) (Z 22 0 0) zD ++ (wX3 cs ad (Z 20 0) O ++ wX9 cs ad (Z 21 0) S))) ++ (sW cs (Z 18 0 0) q2 z2 (nI L2.length) b2 a2)) := hD.sub [14, 0, 1, 2, 3, 4, 5, 6, 7, 8, 9, 10, 11, 12, 13, 15, 16] rfl rfl
  refine lv_aload_n hx hb dX11_line_40 rfl (lv_at hl 0 rfl) ?_
  refine va_get (D := (dC, dI)) (ci := 11) (C := RX11) (T := TX11) (N := 19) hx hb hts hinX11 hown hK hP 0 rfl rfl 18 (by decide) (v := .ref (Z 18 0 0)) k5 (fun _ h9 => h9) rfl dX11_line_41 ?_
  refine va_ldcSW hx hb hown hLw.1 dX11_line_44 ?_
  have hF := va_free (wc := (sW cs (Z 18 0 0) q2 z2 (nI L2.length) b2 a2)) hD hS hA [15, 16] rfl
  refine va_callr (va_runV (As := [.ref aw]) (rest := []) ⟨hx, hb, hml, hown, hts⟩ (c_J4_appendS l dC dI cs (Z 18 0 0) q2 z2 L2 b2 a2 aw vw [32, 119, 114, 111, 116, 101, 32] H.size hu2 (by show L2.length + 7 ≤ 60; omega) (by decide)) (cwV 1 hts gX11_line_J4_append_15ec4 rfl rfl rfl (by decide +kernel) ⟨Nat.le_of_ble_eq_true rfl, Nat.le_of_ble_eq_true rfl⟩) ⟨fun a U g mk q => ⟨q.1, sPw_bl q.2.1, kSq.bl q.2.2⟩, va_recv hK hP (ci := 0) (q0 := 15) rfl rfl, fun U hU hW => ⟨rfl, ⟨⟨by rw [hU], by rw [hU]; exact hP.sub (ws' := (sW cs (Z 18 0 0) q2 z2 (nI L2.length) b2 a2)) [15, 16] rfl, va_K.moved hW.alike hK, (hD.sub (ws' := (sW cs (Z 18 0 0) q2 z2 (nI L2.length) b2 a2)) [15, 16] (by decide) rfl).weaken (fun _ _ _ _ => trivial), kC.at hC hS hF U hU hW⟩, kSq.at hLw.2 hS hF U hU hW⟩⟩⟩ rfl rfl hl.1 rfl (lv_room (Nat.le_of_ble_eq_true rfl)) dX11_line_47 ⟨(by first | exact Nat.le_refl _ | exact Nat.zero_le _ | exact Nat.le_of_ble_eq_true rfl | (show 0 + _ ≤ 200; omega)), (by first | exact Nat.le_refl _ | exact Nat.zero_le _ | exact Nat.le_of_ble_eq_true rfl | (show 0 + _ ≤ 200; omega))⟩) hS (fun q _ h => hF q h) hF (fun u ra t9 H1 locs ht hvm hu3 hB hz hk hS => ?_)
  obtain ⟨q3, z3, b3, a3⟩ := u
  obtain ⟨era, hP1, hK1, hD1⟩ := hB
  rw [ht] at hP1
  obtain ⟨hP, hD⟩ := g_cjl hP hD hk hF hP1 hD1
  obtain ⟨L3, eL3⟩ : ∃ z9 : List Nat, z9 = L2 ++ [32, 119, 114, 111, 116, 101, 32] := ⟨_, rfl⟩
  rw [← eL3] at hu3 hP hD
  generalize H1 = H at hP hS ⊢
  have era := era
  rw [era]
  have hl3 : L3.length ≤ 14 := by rw [eL3, List.length_append]; show L2.length + 7 ≤ 14; omega
  refine lv_aload_n hx hb dX11_line_50 rfl (lv_at hl 0 rfl) ?_
  refine va_get (D := (dC, dI)) (ci := 11) (C := RX11) (T := TX11) (N := 19) hx hb hts hinX11 hown hK hP 0 rfl rfl 3 (by decide) (v := .ref (Z 3 0 0)) k1 (fun _ h9 => h9) rfl dX11_line_51 ?_
  refine va_getN (D := (dC, dI)) (ci := 8) (C := RX7) (T := TX7) (N := 3) hx hb hts hinX7 hown hK hP 1 rfl rfl 1 (by decide) (v := .ref (Z 21 0 0)) (va_Nw.use rfl (hN _ (List.mem_of_getElem? (i := 51) rfl))) (fun _ h9 => h9) rfl dX11_line_54 ?_
  refine va_getN (D := (dC, dI)) (ci := 10) (C := RX9) (T := TX9) (N := 9) hx hb hts hinX9 hown hK hP 10 rfl rfl 6 (by decide) (v := .ref (Z 21 0 6)) (va_Nw.use rfl (hN _ (List.mem_of_getElem? (i := 44) rfl))) (fun _ h9 => h9) rfl dX11_line_57 ?_
  refine lv_iload_n hx hb dX11_line_60 rfl (lv_at hl 1 rfl) ?_
  refine va_iald hx hb hK hP 12 1 rfl rfl (vp_in_nI hmi (by decide)) dX11_line_61 ?_
  refine kt_v (show (.int (S.1 6 (nI mi).toNatClampNeg) : Value) = .int (nI wv) from congrArg Value.int (by rw [hcl]; exact hw0)) ?_
  have hF := va_free (wc := (sW cs (Z 18 0 0) q3 z3 (nI L3.length) b3 a3)) hD hS hA [15, 16] rfl
  refine va_callr (va_runV (As := [.int (nI wv)]) (rest := []) ⟨hx, hb, hml, hown, hts⟩ (c_J4_appendI l dC dI cs (Z 18 0 0) q3 z3 L3 b3 a3 wv H.size hu3 (by omega) hwv) (cwV 1 hts gX11_line_J4_append_bf812 rfl rfl rfl (by decide +kernel) ⟨Nat.le_of_ble_eq_true rfl, Nat.le_of_ble_eq_true rfl⟩) ⟨fun a U g mk q => ⟨q.1, sPw_bl q.2⟩, va_recv hK hP (ci := 0) (q0 := 15) rfl rfl, fun U hU hW => ⟨rfl, ⟨by rw [hU], by rw [hU]; exact hP.sub (ws' := (sW cs (Z 18 0 0) q3 z3 (nI L3.length) b3 a3)) [15, 16] rfl, va_K.moved hW.alike hK, (hD.sub (ws' := (sW cs (Z 18 0 0) q3 z3 (nI L3.length) b3 a3)) [15, 16] (by decide) rfl).weaken (fun _ _ _ _ => trivial), kC.at hC hS hF U hU hW⟩⟩⟩ rfl rfl hl.1 rfl (lv_room (Nat.le_of_ble_eq_true rfl)) dX11_line_62 ⟨(by first | exact Nat.le_refl _ | exact Nat.zero_le _ | exact Nat.le_of_ble_eq_true rfl | (show 0 + _ ≤ 200; omega)), (by first | exact Nat.le_refl _ | exact Nat.zero_le _ | exact Nat.le_of_ble_eq_true rfl | (show 0 + _ ≤ 200; omega))⟩) hS (fun q _ h => hF q h) hF (fun u ra t9 H1 locs ht hvm hu4 hB hz hk hS => ?_)
  obtain ⟨q4, z4, b4, a4⟩ := u
  obtain ⟨era, hP1, hK1, hD1⟩ := hB
  rw [ht] at hP1
  obtain ⟨hP, hD⟩ := g_cjl hP hD hk hF hP1 hD1
  obtain ⟨L4, eL4⟩ : ∃ z9 : List Nat, z9 = L3 ++ ((List.range (sb_dg wv)).map (sb_dec wv)) := ⟨_, rfl⟩
  rw [← eL4] at hu4 hP hD
  generalize H1 = H at hP hS ⊢
  have era := era
  rw [era]
  have hl4 : L4.length ≤ 24 := by rw [eL4, List.length_append]; omega
  refine lv_pop hx hb dX11_line_65 rfl ?_
  refine lv_aload_n hx hb dX11_line_66 rfl (lv_at hl 0 rfl) ?_
  refine va_get (D := (dC, dI)) (ci := 11) (C := RX11) (T := TX11) (N := 19) hx hb hts hinX11 hown hK hP 0 rfl rfl 18 (by decide) (v := .ref (Z 18 0 0)) k5 (fun _ h9 => h9) rfl dX11_line_67 ?_
  refine va_ldcSW hx hb hown hLi.1 dX11_line_70 ?_
  have hF := va_free (wc := (sW cs (Z 18 0 0) q4 z4 (nI L4.length) b4 a4)) hD hS hA [15, 16] rfl
  refine va_callr (va_runV (As := [.ref ai]) (rest := []) ⟨hx, hb, hml, hown, hts⟩ (c_J4_appendS l dC dI cs (Z 18 0 0) q4 z4 L4 b4 a4 ai vi [32, 105, 110, 107, 32] H.size hu4 (by show L4.length + 5 ≤ 60; omega) (by decide)) (cwV 1 hts gX11_line_J4_append_15ec4 rfl rfl rfl (by decide +kernel) ⟨Nat.le_of_ble_eq_true rfl, Nat.le_of_ble_eq_true rfl⟩) ⟨fun a U g mk q => ⟨q.1, sPw_bl q.2.1, kSq.bl q.2.2⟩, va_recv hK hP (ci := 0) (q0 := 15) rfl rfl, fun U hU hW => ⟨rfl, ⟨⟨by rw [hU], by rw [hU]; exact hP.sub (ws' := (sW cs (Z 18 0 0) q4 z4 (nI L4.length) b4 a4)) [15, 16] rfl, va_K.moved hW.alike hK, (hD.sub (ws' := (sW cs (Z 18 0 0) q4 z4 (nI L4.length) b4 a4)) [15, 16] (by decide) rfl).weaken (fun _ _ _ _ => trivial), kC.at hC hS hF U hU hW⟩, kSq.at hLi.2 hS hF U hU hW⟩⟩⟩ rfl rfl hl.1 rfl (lv_room (Nat.le_of_ble_eq_true rfl)) dX11_line_73 ⟨(by first | exact Nat.le_refl _ | exact Nat.zero_le _ | exact Nat.le_of_ble_eq_true rfl | (show 0 + _ ≤ 200; omega)), (by first | exact Nat.le_refl _ | exact Nat.zero_le _ | exact Nat.le_of_ble_eq_true rfl | (show 0 + _ ≤ 200; omega))⟩) hS (fun q _ h => hF q h) hF (fun u ra t9 H1 locs ht hvm hu5 hB hz hk hS => ?_)
  obtain ⟨q5, z5, b5, a5⟩ := u
  obtain ⟨era, hP1, hK1, hD1⟩ := hB
  rw [ht] at hP1
  obtain ⟨hP, hD⟩ := g_cjl hP hD hk hF hP1 hD1
  obtain ⟨L5, eL5⟩ : ∃ z9 : List Nat, z9 = L4 ++ [32, 105, 110, 107, 32] := ⟨_, rfl⟩
  rw [← eL5] at hu5 hP hD
  generalize H1 = H at hP hS ⊢
  have era := era
  rw [era]
  have hl5 : L5.length ≤ 29 := by rw [eL5, List.length_append]; show L4.length + 5 ≤ 29; omega
  refine lv_aload_n hx hb dX11_line_76 rfl (lv_at hl 0 rfl) ?_
  refine va_get (D := (dC, dI)) (ci := 11) (C := RX11) (T := TX11) (N := 19) hx hb hts hinX11 hown hK hP 0 rfl rfl 3 (by decide) (v := .ref (Z 3 0 0)) k1 (fun _ h9 => h9) rfl dX11_line_77 ?_
  refine va_getN (D := (dC, dI)) (ci := 8) (C := RX7) (T := TX7) (N := 3) hx hb hts hinX7 hown hK hP 1 rfl rfl 1 (by decide) (v := .ref (Z 21 0 0)) (va_Nw.use rfl (hN _ (List.mem_of_getElem? (i := 51) rfl))) (fun _ h9 => h9) rfl dX11_line_80 ?_
  refine va_getN (D := (dC, dI)) (ci := 10) (C := RX9) (T := TX9) (N := 9) hx hb hts hinX9 hown hK hP 10 rfl rfl 5 (by decide) (v := .ref (Z 21 0 5)) (va_Nw.use rfl (hN _ (List.mem_of_getElem? (i := 42) rfl))) (fun _ h9 => h9) rfl dX11_line_83 ?_
  refine lv_iload_n hx hb dX11_line_86 rfl (lv_at hl 1 rfl) ?_
  refine va_iald hx hb hK hP 11 1 rfl rfl (vp_in_nI hmi (by decide)) dX11_line_87 ?_
  refine kt_v (show (.int (S.1 5 (nI mi).toNatClampNeg) : Value) = .int (nI iv) from congrArg Value.int (by rw [hcl]; exact hi0)) ?_
  have hF := va_free (wc := (sW cs (Z 18 0 0) q5 z5 (nI L5.length) b5 a5)) hD hS hA [15, 16] rfl
  refine va_callr (va_runV (As := [.int (nI iv)]) (rest := []) ⟨hx, hb, hml, hown, hts⟩ (c_J4_appendI l dC dI cs (Z 18 0 0) q5 z5 L5 b5 a5 iv H.size hu5 (by omega) hiv) (cwV 1 hts gX11_line_J4_append_bf812 rfl rfl rfl (by decide +kernel) ⟨Nat.le_of_ble_eq_true rfl, Nat.le_of_ble_eq_true rfl⟩) ⟨fun a U g mk q => ⟨q.1, sPw_bl q.2⟩, va_recv hK hP (ci := 0) (q0 := 15) rfl rfl, fun U hU hW => ⟨rfl, ⟨by rw [hU], by rw [hU]; exact hP.sub (ws' := (sW cs (Z 18 0 0) q5 z5 (nI L5.length) b5 a5)) [15, 16] rfl, va_K.moved hW.alike hK, (hD.sub (ws' := (sW cs (Z 18 0 0) q5 z5 (nI L5.length) b5 a5)) [15, 16] (by decide) rfl).weaken (fun _ _ _ _ => trivial), kC.at hC hS hF U hU hW⟩⟩⟩ rfl rfl hl.1 rfl (lv_room (Nat.le_of_ble_eq_true rfl)) dX11_line_88 ⟨(by first | exact Nat.le_refl _ | exact Nat.zero_le _ | exact Nat.le_of_ble_eq_true rfl | (show 0 + _ ≤ 200; omega)), (by first | exact Nat.le_refl _ | exact Nat.zero_le _ | exact Nat.le_of_ble_eq_true rfl | (show 0 + _ ≤ 200; omega))⟩) hS (fun q _ h => hF q h) hF (fun u ra t9 H1 locs ht hvm hu6 hB hz hk hS => ?_)
  obtain ⟨q6, z6, b6, a6⟩ := u
  obtain ⟨era, hP1, hK1, hD1⟩ := hB
  rw [ht] at hP1
  obtain ⟨hP, hD⟩ := g_cjl hP hD hk hF hP1 hD1
  obtain ⟨L6, eL6⟩ : ∃ z9 : List Nat, z9 = L5 ++ ((List.range (sb_dg iv)).map (sb_dec iv)) := ⟨_, rfl⟩
  rw [← eL6] at hu6 hP hD
  generalize H1 = H at hP hS ⊢
  have era := era
  rw [era]
  have hl6 : L6.length ≤ 39 := by rw [eL6, List.length_append]; omega
  refine lv_pop hx hb dX11_line_91 rfl ?_
  refine lv_aload_n hx hb dX11_line_92 rfl (lv_at hl 0 rfl) ?_
  refine va_get (D := (dC, dI)) (ci := 11) (C := RX11) (T := TX11) (N := 19) hx hb hts hinX11 hown hK hP 0 rfl rfl 3 (by decide) (v := .ref (Z 3 0 0)) k1 (fun _ h9 => h9) rfl dX11_line_93 ?_
  refine va_getN (D := (dC, dI)) (ci := 8) (C := RX7) (T := TX7) (N := 3) hx hb hts hinX7 hown hK hP 1 rfl rfl 1 (by decide) (v := .ref (Z 21 0 0)) (va_Nw.use rfl (hN _ (List.mem_of_getElem? (i := 51) rfl))) (fun _ h9 => h9) rfl dX11_line_96 ?_
  refine lv_iload_n hx hb dX11_line_99 rfl (lv_at hl 1 rfl) ?_
  refine ko_call (v := some (.int (f_X9_isHeld (nI mi) S))) (va_runVN (As := [.int (nI mi)]) (rest := []) ⟨hx, hb, hml, hown, hts⟩ (c_X9_isHeld l dC dI cs ad (Z 21 0) S (nI mi) _ rfl) ⟨va_cnB 1 hts gX11_line_X9_isHeld_n162 rfl rfl rfl (hN _ (List.mem_of_getElem? (i := 117) rfl)) k6 (by decide +kernel) ⟨Nat.le_of_ble_eq_true rfl, Nat.le_of_ble_eq_true rfl⟩, k7, k8⟩ ⟨fun a U g mk q => ⟨q.1, (fun _ _ _ _ => cPr_bl) a U g mk q.2⟩, va_recv hK hP (ci := 10) (q0 := 10) rfl rfl, fun U hU hW => ⟨rfl, ⟨by rw [hU]; exact (hP.sub (ws' := ww_X9_isHeld cs ad (Z 21 0) S) [10, 11, 12, 13, 14] rfl), va_K.moved hW.alike hK, kN_warm hW hN⟩⟩⟩ rfl rfl hl.1 rfl (lv_room (Nat.le_of_ble_eq_true rfl)) dX11_line_100 ⟨(by first | exact Nat.le_refl _ | exact Nat.zero_le _ | exact Nat.le_of_ble_eq_true rfl | (show 0 + _ ≤ 200; omega)), (by first | exact Nat.le_refl _ | exact Nat.zero_le _ | exact Nat.le_of_ble_eq_true rfl | (show 0 + _ ≤ 200; omega))⟩) ?_
  refine kt_v (show (.int (f_X9_isHeld (nI mi) S) : Value) = .int (q_b hb0) from congrArg Value.int hh0) ?_
  cases hb0 with
    | false =>
      have eT : L6 = lineT lt wv iv false := by
        subst eL6 eL5 eL4 eL3 eL2
        simp only [lineT, emL_dec hwv, emL_dec hiv, List.nil_append, List.append_assoc, List.cons_append, List.append_nil, Bool.false_eq_true, if_false]
      refine lv_if_eq (tgt := 117) hx hb dX11_line_103 (by decide) (fun _ => ?_) (fun h => absurd (rfl) h)
      refine lv_aload_n hx hb dX11_line_117 rfl (lv_at hl 0 rfl) ?_
      refine va_get (D := (dC, dI)) (ci := 11) (C := RX11) (T := TX11) (N := 19) hx hb hts hinX11 hown hK hP 0 rfl rfl 18 (by decide) (v := .ref (Z 18 0 0)) k5 (fun _ h9 => h9) rfl dX11_line_118 ?_
      refine ko_call (v := some (.int (nI L6.length))) (va_runV (As := []) (rest := []) ⟨hx, hb, hml, hown, hts⟩ (c_J4_length l dC dI cs (Z 18 0 0) q6 z6 (nI L6.length) b6 a6) (cwV 0 hts gX11_line_J4_length_8abf5 rfl rfl rfl (by decide +kernel) ⟨Nat.le_of_ble_eq_true rfl, Nat.le_of_ble_eq_true rfl⟩) ⟨fun a U g mk q => ⟨q.1, sPr_bl q.2⟩, va_recv hK hP (ci := 0) (q0 := 15) rfl rfl, fun U hU hW => ⟨rfl, by rw [hU]; exact hP.sub (ws' := (sW cs (Z 18 0 0) q6 z6 (nI L6.length) b6 a6)) [15, 16] rfl, va_K.moved hW.alike hK, kC.at hC hS (fun _ h => h.elim) U hU hW⟩⟩ rfl rfl hl.1 rfl (lv_room (Nat.le_of_ble_eq_true rfl)) dX11_line_121 ⟨(by first | exact Nat.le_refl _ | exact Nat.zero_le _ | exact Nat.le_of_ble_eq_true rfl | (show 0 + _ ≤ 200; omega)), (by first | exact Nat.le_refl _ | exact Nat.zero_le _ | exact Nat.le_of_ble_eq_true rfl | (show 0 + _ ≤ 200; omega))⟩) ?_
      rw [show L6 = lineT lt wv iv _ from eT] at hu6 hP hD ⊢
      refine W.widen (k := 13) (n := 2600) (Nat.le_of_ble_eq_true rfl) (Nat.le_of_ble_eq_true rfl) ?_
      exact W.iret (v := nI (lineT lt wv iv _).length) hx hb hr (fun t ht hW => ⟨⟨_, (q6, z6, b6, a6), rfl, ⟨rfl, hu6⟩, by rw [ht]; exact hP, va_K.moved hW.alike hK, hD⟩, hS.F ht⟩) hS.2.2 dX11_line_124
    | true =>
      refine lv_if_eq (tgt := 117) hx hb dX11_line_103 (by decide) (fun h => absurd h (by decide)) (fun _ => ?_)
      refine lv_aload_n hx hb dX11_line_106 rfl (lv_at hl 0 rfl) ?_
      refine va_get (D := (dC, dI)) (ci := 11) (C := RX11) (T := TX11) (N := 19) hx hb hts hinX11 hown hK hP 0 rfl rfl 18 (by decide) (v := .ref (Z 18 0 0)) k5 (fun _ h9 => h9) rfl dX11_line_107 ?_
      refine va_ldcSW hx hb hown hLh.1 dX11_line_110 ?_
      have hF := va_free (wc := (sW cs (Z 18 0 0) q6 z6 (nI L6.length) b6 a6)) hD hS hA [15, 16] rfl
      refine va_callr (va_runV (As := [.ref ah]) (rest := []) ⟨hx, hb, hml, hown, hts⟩ (c_J4_appendS l dC dI cs (Z 18 0 0) q6 z6 L6 b6 a6 ah vh [32, 104, 101, 108, 100] H.size hu6 (by show L6.length + 5 ≤ 60; omega) (by decide)) (cwV 1 hts gX11_line_J4_append_15ec4 rfl rfl rfl (by decide +kernel) ⟨Nat.le_of_ble_eq_true rfl, Nat.le_of_ble_eq_true rfl⟩) ⟨fun a U g mk q => ⟨q.1, sPw_bl q.2.1, kSq.bl q.2.2⟩, va_recv hK hP (ci := 0) (q0 := 15) rfl rfl, fun U hU hW => ⟨rfl, ⟨⟨by rw [hU], by rw [hU]; exact hP.sub (ws' := (sW cs (Z 18 0 0) q6 z6 (nI L6.length) b6 a6)) [15, 16] rfl, va_K.moved hW.alike hK, (hD.sub (ws' := (sW cs (Z 18 0 0) q6 z6 (nI L6.length) b6 a6)) [15, 16] (by decide) rfl).weaken (fun _ _ _ _ => trivial), kC.at hC hS hF U hU hW⟩, kSq.at hLh.2 hS hF U hU hW⟩⟩⟩ rfl rfl hl.1 rfl (lv_room (Nat.le_of_ble_eq_true rfl)) dX11_line_113 ⟨(by first | exact Nat.le_refl _ | exact Nat.zero_le _ | exact Nat.le_of_ble_eq_true rfl | (show 0 + _ ≤ 200; omega)), (by first | exact Nat.le_refl _ | exact Nat.zero_le _ | exact Nat.le_of_ble_eq_true rfl | (show 0 + _ ≤ 200; omega))⟩) hS (fun q _ h => hF q h) hF (fun u ra t9 H1 locs ht hvm hu7 hB hz hk hS => ?_)
      obtain ⟨q7, z7, b7, a7⟩ := u
      obtain ⟨era, hP1, hK1, hD1⟩ := hB
      rw [ht] at hP1
      obtain ⟨hP, hD⟩ := g_cjl hP hD hk hF hP1 hD1
      obtain ⟨L7, eL7⟩ : ∃ z9 : List Nat, z9 = L6 ++ [32, 104, 101, 108, 100] := ⟨_, rfl⟩
      rw [← eL7] at hu7 hP hD
      generalize H1 = H at hP hS ⊢
      have era := era
      rw [era]
      have hl7 : L7.length ≤ 44 := by rw [eL7, List.length_append]; show L6.length + 5 ≤ 44; omega
      refine lv_pop hx hb dX11_line_116 rfl ?_
      have eT : L7 = lineT lt wv iv true := by
        subst eL7 eL6 eL5 eL4 eL3 eL2
        simp only [lineT, emL_dec hwv, emL_dec hiv, List.nil_append, List.append_assoc, List.cons_append, if_true]
      refine lv_aload_n hx hb dX11_line_117 rfl (lv_at hl 0 rfl) ?_
      refine va_get (D := (dC, dI)) (ci := 11) (C := RX11) (T := TX11) (N := 19) hx hb hts hinX11 hown hK hP 0 rfl rfl 18 (by decide) (v := .ref (Z 18 0 0)) k5 (fun _ h9 => h9) rfl dX11_line_118 ?_
      refine ko_call (v := some (.int (nI L7.length))) (va_runV (As := []) (rest := []) ⟨hx, hb, hml, hown, hts⟩ (c_J4_length l dC dI cs (Z 18 0 0) q7 z7 (nI L7.length) b7 a7) (cwV 0 hts gX11_line_J4_length_8abf5 rfl rfl rfl (by decide +kernel) ⟨Nat.le_of_ble_eq_true rfl, Nat.le_of_ble_eq_true rfl⟩) ⟨fun a U g mk q => ⟨q.1, sPr_bl q.2⟩, va_recv hK hP (ci := 0) (q0 := 15) rfl rfl, fun U hU hW => ⟨rfl, by rw [hU]; exact hP.sub (ws' := (sW cs (Z 18 0 0) q7 z7 (nI L7.length) b7 a7)) [15, 16] rfl, va_K.moved hW.alike hK, kC.at hC hS (fun _ h => h.elim) U hU hW⟩⟩ rfl rfl hl.1 rfl (lv_room (Nat.le_of_ble_eq_true rfl)) dX11_line_121 ⟨(by first | exact Nat.le_refl _ | exact Nat.zero_le _ | exact Nat.le_of_ble_eq_true rfl | (show 0 + _ ≤ 200; omega)), (by first | exact Nat.le_refl _ | exact Nat.zero_le _ | exact Nat.le_of_ble_eq_true rfl | (show 0 + _ ≤ 200; omega))⟩) ?_
      rw [show L7 = lineT lt wv iv _ from eT] at hu7 hP hD ⊢
      refine W.widen (k := 13) (n := 2600) (Nat.le_of_ble_eq_true rfl) (Nat.le_of_ble_eq_true rfl) ?_
      exact W.iret (v := nI (lineT lt wv iv _).length) hx hb hr (fun t ht hW => ⟨⟨_, (q7, z7, b7, a7), rfl, ⟨rfl, hu7⟩, by rw [ht]; exact hP, va_K.moved hW.alike hK, hD⟩, hS.F ht⟩) hS.2.2 dX11_line_124

set_option maxHeartbeats 4000000 in
set_option maxRecDepth 100000 in
theorem c_X11_byteAt1 (l : Launch) (dC : Nat → ClassId) (dI : Nat → Nat → Nat) (cs : Nat → ClassId) (ad : Nat → Nat) (Z : Nat → Nat → Nat → Nat) (bq bz : Nat) (bb : Int32) (ba : Nat → Int32) (Ln : List Nat) (K : kD) (hI : sI Ln bz ba) (a0 v : Int32) (j : Nat) (hj : j < Ln.length) (ea : a0 = nI j) (ev : v = nI (Ln.getD j 0)) : Met l yX11_byteAt wsX11_byteAt (rm_s 5 0 0) (va_Pc [.ref (Z 0 0 0), .int a0] (sPr dC dI cs (wX11 cs ad (Z 0 0) (Z 1 0 0) (Z 2 0 0) (Z 3 0 0) (Z 4 0 0) (Z 5 0 0) (Z 6 0 0) (Z 7 0 0) (Z 8 0 0) (Z 9 0 0) (Z 10 0 0) (Z 11 0 0) (Z 12 0 0) (Z 13 0 0) (Z 14 0 0) (Z 18 0 0) K ++ sW cs (Z 18 0 0) bq bz (nI Ln.length) bb ba))) (kQ (some (.int v))) 0 0 (kF) := by
  refine Met.ofW (cc := cX11_byteAt) (maxL := 2) (ret := (some .int)) (by decide) rfl ?_
  intro p e s m args below meth c s₁ B hml hv
  obtain ⟨hav, hP, hK, hC⟩ := hv
  have hinX11 : ∀ w ∈ wsX110, w ∈ wsX11_byteAt := fun w h => List.mem_cons_of_mem _ (List.mem_append_left _ (List.mem_append_right _ h))
  have hS : va_S kF s.heap s.heap [] := va_S.rf
  have hL := hI.1
  have hz := hI.2.1
  have hx := B.exec
  have hb := B.bytes
  have hr := B.returns
  have hts := atoms_spec (ws := wsX11_byteAt) B.pre
  have hown : s.vm.findClass RX11 = some m.cls := findClass_of_methodNamed B.named
  have hlocks := B.notSynchronized
  have k1 := hts (.fieldLink RX11 101 "KeyLetters" "latestLine" "Ljava/lang/StringBuilder;") (by decide +kernel)
  have hl := lv_entry ([.ref (Z 0 0 0), .int a0]) (n := 2) (Nat.le_of_ble_eq_true rfl)
  rw [show entryFrame m args 2 = entryFrame m ([.ref (Z 0 0 0), .int a0] : List Value).toArray 2 from by rw [hav], lg_entry_eq]
  generalize (lg_sl ([.ref (Z 0 0 0), .int a0]) ++ List.replicate (2 - (lg_sl ([.ref (Z 0 0 0), .int a0])).length) Slot.unset).toArray = ls at hl ⊢
  have hl : lv_has ls 2 [(0, .ref (Z 0 0 0)), (1, .int a0)] := hl
  subst ea ev
  refine lv_iload_n hx hb dX11_byteAt_0 rfl (lv_at hl 1 rfl) ?_
  refine lv_if_lt (tgt := 26) hx hb dX11_byteAt_1 (by decide) (fun h => absurd h (nI_pos (by omega))) (fun _ => ?_)
  refine lv_iload_n hx hb dX11_byteAt_4 rfl (lv_at hl 1 rfl) ?_
  refine lv_aload_n hx hb dX11_byteAt_5 rfl (lv_at hl 0 rfl) ?_
  refine va_get (D := (dC, dI)) (ci := 11) (C := RX11) (T := TX11) (N := 19) hx hb hts hinX11 hown hK hP 0 rfl rfl 18 (by decide) (v := .ref (Z 18 0 0)) k1 (fun _ h9 => h9) rfl dX11_byteAt_6 ?_
  refine ko_call (v := some (.int (nI Ln.length))) (va_runV (As := []) (rest := [.int (nI j)]) ⟨hx, hb, hml, hown, hts⟩ (c_J4_length l dC dI cs (Z 18 0 0) bq bz (nI Ln.length) bb ba) (cwV 0 hts gX11_byteAt_J4_length_8abf5 rfl rfl rfl (by decide +kernel) ⟨Nat.le_of_ble_eq_true rfl, Nat.le_of_ble_eq_true rfl⟩) ⟨fun a U g mk q => ⟨q.1, sPr_bl q.2⟩, va_recv hK hP (ci := 0) (q0 := 1) rfl rfl, fun U hU hW => ⟨rfl, by rw [hU]; exact hP.sub (ws' := (sW cs (Z 18 0 0) bq bz (nI Ln.length) bb ba)) [1, 2] rfl, va_K.moved hW.alike hK, kC.at hC hS (fun _ h => h) U hU hW⟩⟩ rfl rfl hl.1 rfl (lv_room (Nat.le_of_ble_eq_true rfl)) dX11_byteAt_9 ⟨(by first | exact Nat.le_refl _ | exact Nat.zero_le _ | exact Nat.le_of_ble_eq_true rfl | (show 0 + _ ≤ 200; omega)), (by first | exact Nat.le_refl _ | exact Nat.zero_le _ | exact Nat.le_of_ble_eq_true rfl | (show 0 + _ ≤ 200; omega))⟩) ?_
  refine lv_icmp_ge (tgt := 26) hx hb dX11_byteAt_12 (by decide) (fun h => absurd h (fun z => by have := (nI_leI (a := Ln.length) (b := j) (by omega) (by omega)).mp z; omega)) (fun _ => ?_)
  refine lv_aload_n hx hb dX11_byteAt_15 rfl (lv_at hl 0 rfl) ?_
  refine va_get (D := (dC, dI)) (ci := 11) (C := RX11) (T := TX11) (N := 19) hx hb hts hinX11 hown hK hP 0 rfl rfl 18 (by decide) (v := .ref (Z 18 0 0)) k1 (fun _ h9 => h9) rfl dX11_byteAt_16 ?_
  refine lv_iload_n hx hb dX11_byteAt_19 rfl (lv_at hl 1 rfl) ?_
  refine ko_call (v := some (.int (nI (Ln.getD j 0)))) (va_runV (As := [.int (nI j)]) (rest := []) ⟨hx, hb, hml, hown, hts⟩ (c_J4_charAt l dC dI cs (Z 18 0 0) bq bz Ln bb ba j hI hj) (cwV 1 hts gX11_byteAt_J4_charAt_5068e rfl rfl rfl (by decide +kernel) ⟨Nat.le_of_ble_eq_true rfl, Nat.le_of_ble_eq_true rfl⟩) ⟨fun a U g mk q => ⟨q.1, sPr_bl q.2⟩, va_recv hK hP (ci := 0) (q0 := 1) rfl rfl, fun U hU hW => ⟨rfl, by rw [hU]; exact hP.sub (ws' := (sW cs (Z 18 0 0) bq bz (nI Ln.length) bb ba)) [1, 2] rfl, va_K.moved hW.alike hK, kC.at hC hS (fun _ h => h) U hU hW⟩⟩ rfl rfl hl.1 rfl (lv_room (Nat.le_of_ble_eq_true rfl)) dX11_byteAt_20 ⟨(by first | exact Nat.le_refl _ | exact Nat.zero_le _ | exact Nat.le_of_ble_eq_true rfl | (show 0 + _ ≤ 200; omega)), (by first | exact Nat.le_refl _ | exact Nat.zero_le _ | exact Nat.le_of_ble_eq_true rfl | (show 0 + _ ≤ 200; omega))⟩) ?_
  refine lv_goto (tgt := 27) hx hb dX11_byteAt_23 (by decide) ?_
  exact W.iret (v := nI (Ln.getD j 0)) hx hb hr (fun t ht hW => ⟨rfl, ht⟩) (fun _ h => nomatch h) dX11_byteAt_27

set_option maxHeartbeats 4000000 in
set_option maxRecDepth 100000 in
theorem c_X11_byteAt0 (l : Launch) (dC : Nat → ClassId) (dI : Nat → Nat → Nat) (cs : Nat → ClassId) (ad : Nat → Nat) (Z : Nat → Nat → Nat → Nat) (bq bz : Nat) (bb : Int32) (ba : Nat → Int32) (Ln : List Nat) (K : kD) (hI : sI Ln bz ba) (a0 v : Int32) (hno : ∀ j, j < Ln.length → a0 ≠ nI j) (ev : v = -1) : Met l yX11_byteAt wsX11_byteAt (rm_s 5 0 0) (va_Pc [.ref (Z 0 0 0), .int a0] (sPr dC dI cs (wX11 cs ad (Z 0 0) (Z 1 0 0) (Z 2 0 0) (Z 3 0 0) (Z 4 0 0) (Z 5 0 0) (Z 6 0 0) (Z 7 0 0) (Z 8 0 0) (Z 9 0 0) (Z 10 0 0) (Z 11 0 0) (Z 12 0 0) (Z 13 0 0) (Z 14 0 0) (Z 18 0 0) K ++ sW cs (Z 18 0 0) bq bz (nI Ln.length) bb ba))) (kQ (some (.int v))) 0 0 (kF) := by
  refine Met.ofW (cc := cX11_byteAt) (maxL := 2) (ret := (some .int)) (by decide) rfl ?_
  intro p e s m args below meth c s₁ B hml hv
  obtain ⟨hav, hP, hK, hC⟩ := hv
  have hinX11 : ∀ w ∈ wsX110, w ∈ wsX11_byteAt := fun w h => List.mem_cons_of_mem _ (List.mem_append_left _ (List.mem_append_right _ h))
  have hS : va_S kF s.heap s.heap [] := va_S.rf
  have hL := hI.1
  have hz := hI.2.1
  have hx := B.exec
  have hb := B.bytes
  have hr := B.returns
  have hts := atoms_spec (ws := wsX11_byteAt) B.pre
  have hown : s.vm.findClass RX11 = some m.cls := findClass_of_methodNamed B.named
  have hlocks := B.notSynchronized
  have k1 := hts (.fieldLink RX11 101 "KeyLetters" "latestLine" "Ljava/lang/StringBuilder;") (by decide +kernel)
  have hl := lv_entry ([.ref (Z 0 0 0), .int a0]) (n := 2) (Nat.le_of_ble_eq_true rfl)
  rw [show entryFrame m args 2 = entryFrame m ([.ref (Z 0 0 0), .int a0] : List Value).toArray 2 from by rw [hav], lg_entry_eq]
  generalize (lg_sl ([.ref (Z 0 0 0), .int a0]) ++ List.replicate (2 - (lg_sl ([.ref (Z 0 0 0), .int a0])).length) Slot.unset).toArray = ls at hl ⊢
  have hl : lv_has ls 2 [(0, .ref (Z 0 0 0)), (1, .int a0)] := hl
  subst ev
  refine lv_iload_n hx hb dX11_byteAt_0 rfl (lv_at hl 1 rfl) ?_
  by_cases h0 : a0 < 0
  · refine lv_if_lt (tgt := 26) hx hb dX11_byteAt_1 (by decide) (fun _ => ?_) (fun h => absurd (h0) h)
    refine lv_iconst (v := (-1)) hx hb dX11_byteAt_26 (by decide) ?_
    exact W.iret (v := (-1 : Int32)) hx hb hr (fun t ht hW => ⟨rfl, ht⟩) (fun _ h => nomatch h) dX11_byteAt_27
  · refine lv_if_lt (tgt := 26) hx hb dX11_byteAt_1 (by decide) (fun h => absurd h (h0)) (fun _ => ?_)
    refine lv_iload_n hx hb dX11_byteAt_4 rfl (lv_at hl 1 rfl) ?_
    refine lv_aload_n hx hb dX11_byteAt_5 rfl (lv_at hl 0 rfl) ?_
    refine va_get (D := (dC, dI)) (ci := 11) (C := RX11) (T := TX11) (N := 19) hx hb hts hinX11 hown hK hP 0 rfl rfl 18 (by decide) (v := .ref (Z 18 0 0)) k1 (fun _ h9 => h9) rfl dX11_byteAt_6 ?_
    refine ko_call (v := some (.int (nI Ln.length))) (va_runV (As := []) (rest := [.int a0]) ⟨hx, hb, hml, hown, hts⟩ (c_J4_length l dC dI cs (Z 18 0 0) bq bz (nI Ln.length) bb ba) (cwV 0 hts gX11_byteAt_J4_length_8abf5 rfl rfl rfl (by decide +kernel) ⟨Nat.le_of_ble_eq_true rfl, Nat.le_of_ble_eq_true rfl⟩) ⟨fun a U g mk q => ⟨q.1, sPr_bl q.2⟩, va_recv hK hP (ci := 0) (q0 := 1) rfl rfl, fun U hU hW => ⟨rfl, by rw [hU]; exact hP.sub (ws' := (sW cs (Z 18 0 0) bq bz (nI Ln.length) bb ba)) [1, 2] rfl, va_K.moved hW.alike hK, kC.at hC hS (fun _ h => h) U hU hW⟩⟩ rfl rfl hl.1 rfl (lv_room (Nat.le_of_ble_eq_true rfl)) dX11_byteAt_9 ⟨(by first | exact Nat.le_refl _ | exact Nat.zero_le _ | exact Nat.le_of_ble_eq_true rfl | (show 0 + _ ≤ 200; omega)), (by first | exact Nat.le_refl _ | exact Nat.zero_le _ | exact Nat.le_of_ble_eq_true rfl | (show 0 + _ ≤ 200; omega))⟩) ?_
    have hge : nI Ln.length ≤ a0 := by
      rw [Int32.le_iff_toInt_le, nI_toInt (by omega)]
      rw [Int32.lt_iff_toInt_lt, Int32.toInt_zero] at h0
      by_cases h1 : (Ln.length : Int) ≤ a0.toInt
      · exact h1
      · exact absurd (by rw [← Int32.toInt_inj, nI_toInt (by omega)]; omega) (hno a0.toInt.toNat (by omega))
    refine lv_icmp_ge (tgt := 26) hx hb dX11_byteAt_12 (by decide) (fun _ => ?_) (fun h => absurd (hge) h)
    refine lv_iconst (v := (-1)) hx hb dX11_byteAt_26 (by decide) ?_
    exact W.iret (v := (-1 : Int32)) hx hb hr (fun t ht hW => ⟨rfl, ht⟩) (fun _ h => nomatch h) dX11_byteAt_27

