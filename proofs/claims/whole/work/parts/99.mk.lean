/-! an object made by its own constructor -/
section MK
variable {p : Program} {l : Launch} {e : Env} {R : Room} {s : State} {m : MethodId} {args : Array Value} {below : List Frame} {meth : Method} {c : Code} {H : Heap} {locs : List Loc} {cells slots : Nat} {Q : State → Prop}
variable {cc : ByteArray} {pc : Nat} {ls : Array Slot} {rest : List Value} {dC : Nat → ClassId} {dI : Nat → Nat → Nat} {cs : Nat → ClassId} {A : Nat → Prop} {Ts : List Cond} {ws : va_W}
theorem g_cj {D : va_G} {cl : List vw_C} {w1 : va_W} {q : Nat} {e0 : va_E} {H1 : Heap} (hP : va_P D cl (ws ++ [(q, e0)]) H) (hD : va_D A (ws ++ [(q, e0)])) (hk : ∀ x : Nat, x < H.size → ¬ va_A [(q, e0)] H.size x → H1[x]? = H[x]?) (hF : ∀ x, va_A [(q, e0)] H.size x → A x) (hP1 : va_P D cl w1 H1) (hD1 : va_D (va_A [(q, e0)] H.size) w1) : va_P D cl (ws ++ w1) H1 ∧ va_D A (ws ++ w1) := by
  have hlt : ∀ (k : Nat) (z : Nat × va_E), ws[k]? = some z → k < ws.length := fun k z hk => (List.getElem?_eq_some_iff.mp hk).1
  have hin : ∀ (k : Nat) (z : Nat × va_E), ws[k]? = some z → (ws ++ [(q, e0)])[k]? = some z := fun k z hk => by
    rw [List.getElem?_append_left (hlt k z hk)]; exact hk
  have hq : (ws ++ [(q, e0)])[ws.length]? = some (q, e0) := by
    rw [List.getElem?_append_right (Nat.le_refl _), Nat.sub_self]; rfl
  have hne : ∀ (k : Nat) (z : Nat × va_E), ws[k]? = some z → ¬ va_A [(q, e0)] H.size z.1 := by
    intro k z hz h
    rcases h with ⟨j, e1, hj⟩ | h
    · have hj0 : j = 0 := by
        cases j with
        | zero => rfl
        | succ j => cases hj
      subst hj0
      have e2 : (q, e0) = (z.1, e1) := Option.some.inj hj
      have e3 : q = z.1 := congrArg Prod.fst e2
      have := hD.1 k ws.length z (q, e0) (hin k z hz) hq e3.symm
      have := hlt k z hz
      omega
    · have := (hP k z (hin k z hz)).lt
      omega
  have hP0 : va_P D cl ws H := fun k z hz => hP k z (hin k z hz)
  have hD0 : va_D A ws := ⟨fun i j x y hx hy => hD.1 i j x y (hin i x hx) (hin j y hy), fun k z hz => hD.2 k z (hin k z hz)⟩
  refine ⟨va_P.app (hP0.kept fun k z hz => hk z.1 ((hP k z (hin k z hz)).lt) (hne k z hz)) hP1, va_D.app hD0 (hD1.weaken fun k z _ h => hF z.1 h) (fun i j x y hx hy he => ?_)⟩
  exact hne i x hx (he ▸ hD1.2 j y hy)
theorem kAO.moved {u U : State} (hvm : u.vm.Alike U.vm) (h : kAO u) : kAO U := ⟨va_AO.moved hvm h.1, va_AO.moved hvm h.2.1, va_AO.moved hvm h.2.2⟩
theorem g_mk {ad : Nat → Nat} {own C host : String} {T : u_T} {N ci index idx2 nL : Nat} {y : MethodName} {bytes : ByteArray} {maxL : Nat} {wsy : List Cond} {rm : Room} {mc ms : Nat} {w : (Nat → Nat) → va_W} {fs : List Value}
    (S : CallFix p m c cc nL s args Ts own) (hin : ∀ w ∈ u_ws C T N, w ∈ Ts) (ty : Nat → FieldType) (hty : ∀ k, k < N → parseFieldDescriptor (T k).2.2.1 = some (ty k)) (hcl : (Cond.classLink own index C).before args s = true) (hinst : (Cond.instantiable C N).before args s = true) (hini : (Cond.initialized C).before args s = true)
    (hK : va_K (dC, dI) vwCl (ct cs) s) (hN : kN s) (hAO : kAO s) (hE : kE ad A s s.heap) (hP : va_P (dC, dI) vwCl ws H) (hD : va_D A ws) (hS : va_S A s.heap H locs) (hA : ∀ q, s.heap.size ≤ q → A q) (hc : vwCl[ci]? = some (C, T, N)) (hfs : ∀ j, j < N → defaultValue (ty j) = vp_V fs j) (hcells : cells + 1 ≤ R.cells) (hslots : slots + N ≤ R.slots) (d1 : decode cc pc = .ok (.new index, 3)) (d2 : decode cc (pc + 3) = .ok (.dup, 1)) (d3 : decode cc (pc + 3 + 1) = .ok (.invokespecial idx2, 3))
    (hM : ∀ q sz, Met l y wsy rm (va_Pc [.ref q] (fun U => cPw dC dI cs sz [(q, .inr (ci, fs))] U ∧ kAO U ∧ kE ad (va_A [(q, .inr (ci, fs))] sz) U U.heap)) (cQn dC dI cs (va_A [(q, .inr (ci, fs))] sz) (fun ra => ra 0 = q) w) mc ms (va_A [(q, .inr (ci, fs))] sz))
    (cw : va_CN R s args own idx2 y host bytes maxL none wsy rm mc ms 0 ∧ y.name = "<init>" ∧ (Cond.instanceMethod y).before args s = true)
    (hls : ls.size = nL) (hR8 : ∀ q : Nat, 2 * (F0 m (pc + 3 + 1) ls (.ref q :: .ref q :: rest)).monitorRoom + ((Value.ref q :: rest).map fun v => v.category).sum ≤ 8) (hf : cells + 1 + mc ≤ R.cells ∧ slots + N + ms ≤ R.slots)
    (kk : ∀ (ra : Nat → Nat) (H1 : Heap) (locs1 : List Loc), va_P (dC, dI) vwCl (ws ++ w ra) H1 → va_D A (ws ++ w ra) → va_S A s.heap H1 locs1 → W p l e R s m args below meth c H1 locs1 (cells + 1 + mc) (slots + N + ms) Q (F0 m (pc + 7) ls (.ref (ra 0) :: rest))) : W p l e R s m args below meth c H locs cells slots Q (F0 m pc ls rest) := by
  have S' := S
  obtain ⟨hx, hb, hml, hown, hts⟩ := S'
  refine va_new hx hb hts hin ty hty hown hcl hinst hini hK hP hD hS hA hc hfs hcells hslots d1 (fun q H1 hP hD hS => ?_)
  refine lv_dup hx hb d2 rfl ?_
  have hq : (ws ++ [(q, Sum.inr (ci, fs))])[ws.length]? = some (q, Sum.inr (ci, fs)) := by
    rw [List.getElem?_append_right (Nat.le_refl _), Nat.sub_self]; rfl
  have hF := va_free (wc := [(q, .inr (ci, fs))]) hD hS hA [ws.length] (by simp)
  refine va_callv (va_runIN (As := []) (rest := .ref q :: rest) S (hM q H1.size) cw ⟨fun a U g mk h => ⟨h.1, cPw_bl h.2.1, kAO.moved (u := U) (U := U.calling g mk a) (Vm.Alike.refl U.vm) h.2.2.1, kE.moved (u := U) (U := U.calling g mk a) (Vm.Alike.refl U.vm) h.2.2.2⟩, fun U hU hW => ⟨rfl, ⟨by rw [hU], by rw [hU]; exact hP.sub [ws.length] (by simp), va_K.moved hW.alike hK, (hD.sub [ws.length] rfl (by simp)).weaken (fun _ _ _ _ => trivial), kN_warm hW hN⟩, kAO.moved hW.alike hAO, cE_sub hE hS hF U hU hW⟩⟩ rfl rfl hls rfl (hR8 q) d3 hf) hS (fun q _ h => hF q h) hF (fun u t H2 locs2 ht hvm hu hB hz hk hS => ?_)
  obtain ⟨hP1, hK1, hD1⟩ := hB
  rw [ht] at hP1
  have hj := g_cj hP hD hk hF hP1 hD1
  have hu : u 0 = q := hu
  rw [← hu]
  exact kk u H2 locs2 hj.1 hj.2 hS
end MK
theorem vp_cell_cg {cA : ClassId} {n : Nat} {f g : Nat → Option Nat} (h : ∀ j, j < n → f j = g j) : vp_cell cA (n, .inr (.inr (.inr (.inr f)))) = vp_cell cA (n, .inr (.inr (.inr (.inr g)))) := by
  show arrV cA n (fun j => va_rf (f j)) = arrV cA n (fun j => va_rf (g j))
  unfold arrV
  have e : (fun j : Fin n => va_rf (f j.val)) = fun j : Fin n => va_rf (g j.val) := funext fun j => by rw [h j.val j.isLt]
  rw [e]
theorem va_P_cg {D : va_G} {cl : List vw_C} {pre suf : va_W} {q n : Nat} {cA : ClassId} {f g : Nat → Option Nat} {H : Heap} (h : ∀ j, j < n → f j = g j) (hP : va_P D cl (pre ++ ((q, .inl (cA, n, .inr (.inr (.inr (.inr f))))) :: suf)) H) : va_P D cl (pre ++ ((q, .inl (cA, n, .inr (.inr (.inr (.inr g))))) :: suf)) H := by
  have hm : ∀ z, z ∈ pre ++ ((q, .inl (cA, n, .inr (.inr (.inr (.inr f))))) :: suf) → va_at D cl z H := by
    intro z hz
    obtain ⟨k, hk⟩ := List.getElem?_of_mem hz
    exact hP k z hk
  intro k z hk
  have hz := List.mem_of_getElem? hk
  rw [List.mem_append, List.mem_cons] at hz
  rcases hz with hz | rfl | hz
  · exact hm z (List.mem_append_left _ hz)
  · have h1 := hm _ (List.mem_append_right pre List.mem_cons_self)
    show H[q]? = some (vp_cell cA (n, .inr (.inr (.inr (.inr g)))))
    rw [← vp_cell_cg h]
    exact h1
  · exact hm z (List.mem_append_right _ (List.mem_cons_of_mem _ hz))
theorem va_D_fst {A : Nat → Prop} {ws ws' : va_W} (he : ws.map Prod.fst = ws'.map Prod.fst) (hD : va_D A ws) : va_D A ws' := by
  have hk : ∀ (k : Nat) (q : Nat × va_E), ws'[k]? = some q → ∃ q0 : Nat × va_E, ws[k]? = some q0 ∧ q0.1 = q.1 := by
    intro k q hq
    have h1 : (ws'.map Prod.fst)[k]? = some q.1 := by rw [List.getElem?_map, hq]; rfl
    rw [← he, List.getElem?_map] at h1
    cases h2 : ws[k]? with
    | none => rw [h2] at h1; cases h1
    | some q0 => rw [h2] at h1; exact ⟨q0, rfl, Option.some.inj h1⟩
  refine ⟨fun i j x y hx hy e => ?_, fun k q hq => ?_⟩
  · obtain ⟨x0, hx0, ex⟩ := hk i x hx
    obtain ⟨y0, hy0, ey⟩ := hk j y hy
    exact hD.1 i j x0 y0 hx0 hy0 (by rw [ex, ey]; exact e)
  · obtain ⟨q0, h0, e0⟩ := hk k q hq
    rw [← e0]
    exact hD.2 k q0 h0
