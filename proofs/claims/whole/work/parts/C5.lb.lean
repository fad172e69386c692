/-! the law: what holds all through, what holds at the loop's head, calls over a part of the world -/
section LWB
variable {p : Program} {l : Launch} {e : Env} {R : Room} {s : State} {m : MethodId} {args : Array Value} {below : List Frame} {meth : Method} {c : Code} {H : Heap} {locs : List Loc} {cells slots : Nat} {Q : State → Prop}
variable {cc : ByteArray} {pc : Nat} {ls : Array Slot} {rest : List Value} {dC : Nat → ClassId} {dI : Nat → Nat → Nat} {cs : Nat → ClassId} {A : Nat → Prop} {H0 : Heap} {D : va_G} {cl : List vw_C} {X Y Z1 Z2 W0 ws ws' wc wz w1 : va_W}
theorem va_Pl (h : va_P D cl (X ++ Y) H) : va_P D cl X H := fun k q hk => h k q (by rw [List.getElem?_append_left (List.getElem?_eq_some_iff.mp hk).1]; exact hk)
theorem va_Pr (h : va_P D cl (X ++ Y) H) : va_P D cl Y H := fun k q hk => h (X.length + k) q (by rw [List.getElem?_append_right (Nat.le_add_right _ _), Nat.add_sub_cancel_left]; exact hk)
theorem va_Dl (h : va_D A (X ++ Y)) : va_D A X := ⟨fun i j x y hx hy => h.1 i j x y (by rw [List.getElem?_append_left (List.getElem?_eq_some_iff.mp hx).1]; exact hx) (by rw [List.getElem?_append_left (List.getElem?_eq_some_iff.mp hy).1]; exact hy), fun k q hk => h.2 k q (by rw [List.getElem?_append_left (List.getElem?_eq_some_iff.mp hk).1]; exact hk)⟩
theorem va_Dr (h : va_D A (X ++ Y)) : va_D A Y := ⟨fun i j x y hx hy e => by
  have h5 := h.1 (X.length + i) (X.length + j) x y (by rw [List.getElem?_append_right (Nat.le_add_right _ _), Nat.add_sub_cancel_left]; exact hx) (by rw [List.getElem?_append_right (Nat.le_add_right _ _), Nat.add_sub_cancel_left]; exact hy) e
  omega, fun k q hk => h.2 (X.length + k) q (by rw [List.getElem?_append_right (Nat.le_add_right _ _), Nat.add_sub_cancel_left]; exact hk)⟩
theorem g_keepR (isC : List Nat) {H1 : Heap} (hP : va_P D cl (X ++ Y) H) (hD : va_D A (X ++ Y)) (hC : isC.map (fun i => X[i]?) = wc.map some) (hk : ∀ q : Nat, q < H.size → ¬ va_A wc H.size q → H1[q]? = H[q]?) : va_P D cl Y H1 := by
  refine (va_Pr hP).kept (fun k q hq => hk q.1 ((va_Pr hP) k q hq).lt (fun hA => ?_))
  rcases hA with ⟨j, e1, hj⟩ | hge
  · have h2 : (isC.map (fun i => X[i]?))[j]? = some (some (q.1, e1)) := by rw [hC, List.getElem?_map, hj]; rfl
    rw [List.getElem?_map] at h2
    cases hi : isC[j]? with
    | none => rw [hi] at h2; cases h2
    | some i =>
      rw [hi] at h2
      have h3 : X[i]? = some (q.1, e1) := by simpa using h2
      have hlt : i < X.length := (List.getElem?_eq_some_iff.mp h3).1
      have h5 := hD.1 i (X.length + k) (q.1, e1) q (by rw [List.getElem?_append_left hlt]; exact h3) (by rw [List.getElem?_append_right (Nat.le_add_right _ _), Nat.add_sub_cancel_left]; exact hq) rfl
      omega
  · have := ((va_Pr hP) k q hq).lt
    omega
theorem g_mid {H1 : Heap} (hP : va_P D cl (X ++ (Z1 ++ Y)) H) (hD : va_D A (X ++ (Z1 ++ Y))) (h12 : Z1.map Prod.fst = Z2.map Prod.fst) (h10 : Z1.map Prod.fst = W0.map Prod.fst) (hk : ∀ q : Nat, q < H.size → ¬ va_A W0 H.size q → H1[q]? = H[q]?) (hP2 : va_P D cl Z2 H1) : va_P D cl (X ++ (Z2 ++ Y)) H1 ∧ va_D A (X ++ (Z2 ++ Y)) := by
  have hx := va_Pl hP
  have hy := va_Pr (va_Pr hP)
  have hno : ∀ (i : Nat) (q : Nat × va_E), (X ++ (Z1 ++ Y))[i]? = some q → (i < X.length ∨ X.length + Z1.length ≤ i) → q.1 < H.size → ¬ va_A W0 H.size q.1 := by
    intro i q hq hi hlt hA
    rcases vA_fst h10.symm hA with ⟨j, e1, hj⟩ | hge
    · have hjl : j < Z1.length := (List.getElem?_eq_some_iff.mp hj).1
      have h5 := hD.1 i (X.length + j) q (q.1, e1) hq (by rw [List.getElem?_append_right (Nat.le_add_right _ _), Nat.add_sub_cancel_left, List.getElem?_append_left hjl]; exact hj) rfl
      omega
    · omega
  refine ⟨va_P.app (hx.kept fun k q hq => ?_) (va_P.app hP2 (hy.kept fun k q hq => ?_)), va_D_fst (by rw [List.map_append, List.map_append, List.map_append, List.map_append, h12]) hD⟩
  · have hkl : k < X.length := (List.getElem?_eq_some_iff.mp hq).1
    exact hk q.1 (hx k q hq).lt (hno k q (by rw [List.getElem?_append_left hkl]; exact hq) (Or.inl hkl) (hx k q hq).lt)
  · exact hk q.1 (hy k q hq).lt (hno (X.length + (Z1.length + k)) q (by rw [List.getElem?_append_right (Nat.le_add_right _ _), Nat.add_sub_cancel_left, List.getElem?_append_right (Nat.le_add_right _ _), Nat.add_sub_cancel_left]; exact hq) (Or.inr (by omega)) (hy k q hq).lt)
theorem g_callwZ {isC isR : List Nat} {st0 : List Value} {a : Array Value} {v : Int32} (hr : va_Run p l e R s m args below meth c H locs cells slots 0 0 (F0 m pc ls st0) rest (cQi dC dI cs (va_A wz H.size) v w1 a) (va_A wz H.size)) (hP : va_P (dC, dI) vwCl (ws ++ Y) H) (hD : va_D A (ws ++ Y)) (hS : va_S A H0 H locs) (hA : ∀ q, H0.size ≤ q → A q)
    (hC : isC.map (fun i => ws[i]?) = wc.map some) (hC' : isC.map (fun i => ws'[i]?) = w1.map some) {wr : va_W} (hR : isR.map (fun i => ws[i]?) = wr.map some) (hR2 : isR.map (fun i => ws'[i]?) = wr.map some) (hz : wc.map Prod.fst = wz.map Prod.fst) {nw : Nat} (hnw : ws'.length = nw) (hcd : (isR.all (fun i => !isC.contains i) && (List.range nw).all (fun k => isC.contains k || isR.contains k)) = true) (hfst : ws.map Prod.fst = ws'.map Prod.fst)
    (kk : ∀ (H : Heap) (locs : List Loc), va_P (dC, dI) vwCl (ws' ++ Y) H → va_D A (ws' ++ Y) → va_S A H0 H locs → W p l e R s m args below meth c H locs cells slots Q (F0 m (pc + 3) ls (.int v :: rest))) : W p l e R s m args below meth c H locs cells slots Q (F0 m pc ls st0) := by
  have hF := cA_free hC hz (va_Dl hD) hS hA
  refine va_calli hr hS (fun q _ h => hF q h) hF (fun r u t H1 locs1 ht hvm hw hB hz1 hk hS1 => ?_)
  have hw : r = v := hw
  subst hw
  have hk2 : ∀ q : Nat, q < H.size → ¬ va_A wc H.size q → H1[q]? = H[q]? := fun q h1 h2 => hk q h1 (fun h3 => h2 (vA_fst hz.symm h3))
  have hb := g_back isC isR (va_Pl hP) (va_Dl hD) hC hC' hR hR2 hnw hcd hfst hk2 (by rw [← ht]; exact hB.1)
  exact kk H1 locs1 (hb.1.app (g_keepR isC hP hD hC hk2)) (va_D_fst (by rw [List.map_append, List.map_append, hfst]) hD) hS1
theorem g_callM {raM : Nat → Nat} {M M' : kD} {st0 : List Value} {a : Array Value} {v : Int32} (hr : va_Run p l e R s m args below meth c H locs cells slots 0 0 (F0 m pc ls st0) rest (mQi dC dI (cs 0) (cs 1) (cs 2) (cs 3) raM H.size (v, M') a) (mA raM H.size)) (hP : va_P (dC, dI) vwCl (X ++ (mw (cs 0) (cs 1) (cs 2) (cs 3) raM M ++ Y)) H) (hD : va_D A (X ++ (mw (cs 0) (cs 1) (cs 2) (cs 3) raM M ++ Y))) (hS : va_S A H0 H locs) (hA : ∀ q, H0.size ≤ q → A q)
    (kk : ∀ (H : Heap) (locs : List Loc), va_P (dC, dI) vwCl (X ++ (mw (cs 0) (cs 1) (cs 2) (cs 3) raM M' ++ Y)) H → va_D A (X ++ (mw (cs 0) (cs 1) (cs 2) (cs 3) raM M' ++ Y)) → va_S A H0 H locs → W p l e R s m args below meth c H locs cells slots Q (F0 m (pc + 3) ls (.int v :: rest))) : W p l e R s m args below meth c H locs cells slots Q (F0 m pc ls st0) := by
  have hF : ∀ q, mA raM H.size q → A q := by
    intro q h
    rcases vA_fst (ws := mw 0 0 0 0 raM (fun _ _ => 0, fun _ _ => 0)) (ws' := mw (cs 0) (cs 1) (cs 2) (cs 3) raM M) rfl (show va_A (mw 0 0 0 0 raM (fun _ _ => 0, fun _ _ => 0)) H.size q from h) with ⟨j, e1, hj⟩ | h
    · exact hD.2 (X.length + j) (q, e1) (by rw [List.getElem?_append_right (Nat.le_add_right _ _), Nat.add_sub_cancel_left, List.getElem?_append_left (List.getElem?_eq_some_iff.mp hj).1]; exact hj)
    · exact hA q (Nat.le_trans hS.1 h)
  refine va_calli hr hS (fun q _ h => hF q h) hF (fun r u t H1 locs1 ht hvm hw hB hz1 hk hS1 => ?_)
  cases hw
  have hb := g_mid (Z2 := mw (cs 0) (cs 1) (cs 2) (cs 3) raM M') (W0 := mw 0 0 0 0 raM (fun _ _ => 0, fun _ _ => 0)) hP hD rfl rfl hk (by rw [← ht]; exact hB.1)
  exact kk H1 locs1 hb.1 hb.2 hS1
end LWB
theorem g_out {D : va_G} {cl : List vw_C} {A : Nat → Prop} {X Mw : va_W} {c0 c1 : Nat × va_E} {H H1 : Heap} (hP : va_P D cl (X ++ (Mw ++ [c0])) H) (hD : va_D A (X ++ (Mw ++ [c0]))) (h : c0.1 = c1.1) (hk : ∀ q : Nat, q < H.size → ¬ va_A [c0] H.size q → H1[q]? = H[q]?) (hP1 : va_P D cl [c1] H1) : va_P D cl (X ++ (Mw ++ [c1])) H1 ∧ va_D A (X ++ (Mw ++ [c1])) := by
  have e : ∀ c2 : Nat × va_E, X ++ (Mw ++ [c2]) = (X ++ Mw) ++ ([c2] ++ []) := fun c2 => by simp
  rw [e] at hP hD
  have h9 := g_mid (Z2 := [c1]) (W0 := [c0]) hP hD (by simp [h]) rfl hk hP1
  rw [← e] at h9
  exact h9
theorem lcmp_self (x : Int64) : lg_cmp x x = 0 := by
  unfold lg_cmp
  simp
