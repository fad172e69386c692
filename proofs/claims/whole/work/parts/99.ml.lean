/-! an object made by a plain constructor (no nest), whatever its contract's start -/
section ML
variable {p : Program} {l : Launch} {e : Env} {R : Room} {s : State} {m : MethodId} {args : Array Value} {below : List Frame} {meth : Method} {c : Code} {H : Heap} {locs : List Loc} {cells slots : Nat} {Q : State → Prop}
variable {cc : ByteArray} {pc : Nat} {ls : Array Slot} {rest : List Value} {dC : Nat → ClassId} {dI : Nat → Nat → Nat} {cs : Nat → ClassId} {A : Nat → Prop} {Ts : List Cond} {ws : va_W}
theorem g_mkI {SS : Type} {post : Nat → SS → Prop} {w : SS → va_W} {PcS : Nat → Nat → State → Prop} {BB : Nat → Nat → SS → State → Prop} {own C : String} {T : u_T} {N ci index idx2 nL : Nat} {y : MethodName} {bytes : ByteArray} {maxL : Nat} {wsy : List Cond} {rm : Room} {mc ms : Nat} {fs : List Value} {tys : List (ClassId × FieldType)}
    (S : CallFix p m c cc nL s args Ts own) (hin : ∀ w ∈ u_ws C T N, w ∈ Ts) (ty : Nat → FieldType) (hty : ∀ k, k < N → parseFieldDescriptor (T k).2.2.1 = some (ty k)) (hcl : (Cond.classLink own index C).before args s = true) (hinst : (Cond.instantiable C N).before args s = true) (hini : (Cond.initialized C).before args s = true)
    (hK : va_K (dC, dI) vwCl tys s) (hP : va_P (dC, dI) vwCl ws H) (hD : va_D A ws) (hS : va_S A s.heap H locs) (hA : ∀ q, s.heap.size ≤ q → A q) (hc : vwCl[ci]? = some (C, T, N)) (hfs : ∀ j, j < N → defaultValue (ty j) = vp_V fs j) (hcells : cells + 1 ≤ R.cells) (hslots : slots + N ≤ R.slots) (d1 : decode cc pc = .ok (.new index, 3)) (d2 : decode cc (pc + 3) = .ok (.dup, 1)) (d3 : decode cc (pc + 3 + 1) = .ok (.invokespecial idx2, 3))
    (hM : ∀ q sz, Met l y wsy rm (va_Pc [.ref q] (PcS q sz)) (va_Qv (post q) (BB q sz) (va_A [(q, .inr (ci, fs))] sz)) mc ms (va_A [(q, .inr (ci, fs))] sz))
    (hBB : ∀ q sz u t, BB q sz u t → va_P (dC, dI) vwCl (w u) t.heap ∧ va_D (va_A [(q, .inr (ci, fs))] sz) (w u))
    (hbl : ∀ (q sz : Nat) (a : Array Value) (U : State) (g : JFrame) (mk : MethodId), PcS q sz U → PcS q sz (U.calling g mk a))
    (hpc : ∀ (q : Nat) (H1 : Heap), va_P (dC, dI) vwCl [(q, .inr (ci, fs))] H1 → va_D (fun _ => True) [(q, .inr (ci, fs))] → va_S A s.heap H1 locs → (∀ q1, va_A [(q, .inr (ci, fs))] H1.size q1 → A q1) → ∀ U : State, U.heap = H1 → s.WarmedH U.vm → PcS q H1.size U)
    (cw : CallB R s args own idx2 y bytes maxL none wsy rm mc ms 0 ∧ y.name = "<init>" ∧ (Cond.instanceMethod y).before args s = true)
    (hls : ls.size = nL) (hR8 : ∀ q : Nat, 2 * (F0 m (pc + 3 + 1) ls (.ref q :: .ref q :: rest)).monitorRoom + ((Value.ref q :: rest).map fun v => v.category).sum ≤ 8) (hf : cells + 1 + mc ≤ R.cells ∧ slots + N + ms ≤ R.slots)
    (kk : ∀ (q : Nat) (u : SS) (H1 : Heap) (locs1 : List Loc), post q u → va_P (dC, dI) vwCl (ws ++ w u) H1 → va_D A (ws ++ w u) → va_S A s.heap H1 locs1 → W p l e R s m args below meth c H1 locs1 (cells + 1 + mc) (slots + N + ms) Q (F0 m (pc + 7) ls (.ref q :: rest))) : W p l e R s m args below meth c H locs cells slots Q (F0 m pc ls rest) := by
  have S' := S
  obtain ⟨hx, hb, hml, hown, hts⟩ := S'
  refine va_new hx hb hts hin ty hty hown hcl hinst hini hK hP hD hS hA hc hfs hcells hslots d1 (fun q H1 hP hD hS => ?_)
  refine lv_dup hx hb d2 rfl ?_
  have hq : (ws ++ [(q, Sum.inr (ci, fs))])[ws.length]? = some (q, Sum.inr (ci, fs)) := by
    rw [List.getElem?_append_right (Nat.le_refl _), Nat.sub_self]; rfl
  have hF := va_free (wc := [(q, .inr (ci, fs))]) hD hS hA [ws.length] (by simp)
  refine va_callv (va_runI (As := []) (rest := .ref q :: rest) S (hM q H1.size) cw ⟨fun a U g mk h => ⟨h.1, hbl q H1.size a U g mk h.2⟩, fun U hU hW => ⟨rfl, hpc q H1 (hP.sub [ws.length] (by simp)) ((hD.sub [ws.length] rfl (by simp)).weaken (fun _ _ _ _ => trivial)) hS hF U hU hW⟩⟩ rfl rfl hls rfl (hR8 q) d3 hf) hS (fun q _ h => hF q h) hF (fun u t H2 locs2 ht hvm hu hB hz hk hS => ?_)
  obtain ⟨hP1, hD1⟩ := hBB q H1.size u t hB
  rw [ht] at hP1
  have hj := g_cj hP hD hk hF hP1 hD1
  exact kk q u H2 locs2 hu hj.1 hj.2 hS
theorem g_mkN {SS : Type} {post : Nat → SS → Prop} {w : SS → va_W} {PcS : Nat → Nat → State → Prop} {BB : Nat → Nat → SS → State → Prop} {own C host : String} {T : u_T} {N ci index idx2 nL : Nat} {y : MethodName} {bytes : ByteArray} {maxL : Nat} {wsy : List Cond} {rm : Room} {mc ms : Nat} {fs : List Value} {tys : List (ClassId × FieldType)}
    (S : CallFix p m c cc nL s args Ts own) (hin : ∀ w ∈ u_ws C T N, w ∈ Ts) (ty : Nat → FieldType) (hty : ∀ k, k < N → parseFieldDescriptor (T k).2.2.1 = some (ty k)) (hcl : (Cond.classLink own index C).before args s = true) (hinst : (Cond.instantiable C N).before args s = true) (hini : (Cond.initialized C).before args s = true)
    (hK : va_K (dC, dI) vwCl tys s) (hP : va_P (dC, dI) vwCl ws H) (hD : va_D A ws) (hS : va_S A s.heap H locs) (hA : ∀ q, s.heap.size ≤ q → A q) (hc : vwCl[ci]? = some (C, T, N)) (hfs : ∀ j, j < N → defaultValue (ty j) = vp_V fs j) (hcells : cells + 1 ≤ R.cells) (hslots : slots + N ≤ R.slots) (d1 : decode cc pc = .ok (.new index, 3)) (d2 : decode cc (pc + 3) = .ok (.dup, 1)) (d3 : decode cc (pc + 3 + 1) = .ok (.invokespecial idx2, 3))
    (hM : ∀ q sz, Met l y wsy rm (va_Pc [.ref q] (PcS q sz)) (va_Qv (post q) (BB q sz) (va_A [(q, .inr (ci, fs))] sz)) mc ms (va_A [(q, .inr (ci, fs))] sz))
    (hBB : ∀ q sz u t, BB q sz u t → va_P (dC, dI) vwCl (w u) t.heap ∧ va_D (va_A [(q, .inr (ci, fs))] sz) (w u))
    (hbl : ∀ (q sz : Nat) (a : Array Value) (U : State) (g : JFrame) (mk : MethodId), PcS q sz U → PcS q sz (U.calling g mk a))
    (hpc : ∀ (q : Nat) (H1 : Heap), va_P (dC, dI) vwCl [(q, .inr (ci, fs))] H1 → va_D (fun _ => True) [(q, .inr (ci, fs))] → va_S A s.heap H1 locs → (∀ q1, va_A [(q, .inr (ci, fs))] H1.size q1 → A q1) → ∀ U : State, U.heap = H1 → s.WarmedH U.vm → PcS q H1.size U)
    (cw : va_CN R s args own idx2 y host bytes maxL none wsy rm mc ms 0 ∧ y.name = "<init>" ∧ (Cond.instanceMethod y).before args s = true)
    (hls : ls.size = nL) (hR8 : ∀ q : Nat, 2 * (F0 m (pc + 3 + 1) ls (.ref q :: .ref q :: rest)).monitorRoom + ((Value.ref q :: rest).map fun v => v.category).sum ≤ 8) (hf : cells + 1 + mc ≤ R.cells ∧ slots + N + ms ≤ R.slots)
    (kk : ∀ (q : Nat) (u : SS) (H1 : Heap) (locs1 : List Loc), post q u → va_P (dC, dI) vwCl (ws ++ w u) H1 → va_D A (ws ++ w u) → va_S A s.heap H1 locs1 → W p l e R s m args below meth c H1 locs1 (cells + 1 + mc) (slots + N + ms) Q (F0 m (pc + 7) ls (.ref q :: rest))) : W p l e R s m args below meth c H locs cells slots Q (F0 m pc ls rest) := by
  have S' := S
  obtain ⟨hx, hb, hml, hown, hts⟩ := S'
  refine va_new hx hb hts hin ty hty hown hcl hinst hini hK hP hD hS hA hc hfs hcells hslots d1 (fun q H1 hP hD hS => ?_)
  refine lv_dup hx hb d2 rfl ?_
  have hq : (ws ++ [(q, Sum.inr (ci, fs))])[ws.length]? = some (q, Sum.inr (ci, fs)) := by
    rw [List.getElem?_append_right (Nat.le_refl _), Nat.sub_self]; rfl
  have hF := va_free (wc := [(q, .inr (ci, fs))]) hD hS hA [ws.length] (by simp)
  refine va_callv (va_runIN (As := []) (rest := .ref q :: rest) S (hM q H1.size) cw ⟨fun a U g mk h => ⟨h.1, hbl q H1.size a U g mk h.2⟩, fun U hU hW => ⟨rfl, hpc q H1 (hP.sub [ws.length] (by simp)) ((hD.sub [ws.length] rfl (by simp)).weaken (fun _ _ _ _ => trivial)) hS hF U hU hW⟩⟩ rfl rfl hls rfl (hR8 q) d3 hf) hS (fun q _ h => hF q h) hF (fun u t H2 locs2 ht hvm hu hB hz hk hS => ?_)
  obtain ⟨hP1, hD1⟩ := hBB q H1.size u t hB
  rw [ht] at hP1
  have hj := g_cj hP hD hk hF hP1 hD1
  exact kk q u H2 locs2 hu hj.1 hj.2 hS
end ML
/-! rows of rows of ints: what the start says of their class, and that it stays -/
def kAA (t : FieldType) (U : State) : Prop := (Cond.arrayOver (.array t)).before #[] U = true
theorem kAA.use {t : FieldType} {a : Array Value} {U : State} (h : kAA t U) : (Cond.arrayOver (.array t)).before a U = true := h
theorem kAA.moved {t : FieldType} {u U : State} (hvm : u.vm.Alike U.vm) (h : kAA t u) : kAA t U := by
  obtain ⟨comp, c, k, h1, h2, h3, h4, h5⟩ := arrayOverA_spec h
  obtain ⟨k', hk', he⟩ := hvm.2.2 _ _ h3
  have hb : U.vm.bare = u.vm.bare := by first | exact hvm.bare_eq | exact hvm.bare_eq.symm
  have h9 := va_idx_bare U.vm comp
  rw [hb] at h9
  have hi := h9.symm.trans ((va_idx_bare u.vm comp).trans h2)
  have hkind : k'.kind = .array comp (.array t) := by rw [he]; exact h4
  have f1 : U.vm.findClass (FieldType.array t).toString = some comp := by rw [hvm.findClass]; exact h1
  have f2 : U.vm.findClass ("[" ++ (FieldType.array t).toString) = some c := by rw [hvm.findClass]; exact h5
  unfold kAA Cond.before Cond.holds
  simp only [Cond.value]
  rw [f1, Option.bind_some]
  refine (congrArg (fun o : Option Nat => (o.bind (fun c => (U.vm.classes[c]?).map fun (k : Class) => match k.kind with | .array _ ty => decide (ty = FieldType.array t) && decide (U.vm.findClass ("[" ++ (FieldType.array t).toString) = some c) | _ => false) == some true)) hi).trans ?_
  simp [hk', hkind, f2]
