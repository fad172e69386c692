/-! six words more: 'selects' of private methods of the class above StringBuilder, out of the tables' words -/
theorem lw_sel2 {C : String} {x0 y0 y : MethodName} {s : State} {args : Array Value} (h0 : (Cond.selects C x0 y0).before args s = true) (hc : y0.cls = y.cls) (hy : y.cls ≠ "java/lang/invoke/MethodHandle" ∧ y.cls ≠ "java/lang/invoke/VarHandle") (hp : (Cond.privateMethod y).before args s = true) (hi : (Cond.instanceMethod y).before args s = true) : (Cond.selects C y y).before args s = true := by
  obtain ⟨c2, r2, m2, q1, -, q3, -, k, hk1, hk2⟩ := Cond.selects_spec h0
  obtain ⟨mk, mm, hn, hm, -, -⟩ := Cond.instanceMethod_spec hi
  have hf : s.methodFound? y.cls y.name y.desc = some mk := State.methodFound?_of_named hn hy
  have hcl : mk.cls = m2.cls := Option.some.inj ((findClass_of_methodNamed hn).symm.trans (hc ▸ findClass_of_methodNamed q3))
  have hs : selectMethod {} s.vm c2 mk = .method mk := selectMethod_private hm (Cond.privateMethod_at hp mk mm hn hm)
  simp only [Cond.before, Cond.holds, Cond.value, q1, hf, hn, hs, hcl, hk1]
  simp; exact hk2
def lw_y2 : List MethodName := [yJ5_ensureCapacityInternal_d00df, yJ5_newCapacity_0f7a4, yJ5_inflate_da8c8, yJ5_appendNull_278bc, yJ5_putStringAt_47b60, yJ5_inflateIfNeededFor_a7421]
def lw_big : List Cond := (lw_y2.map fun y => Cond.selects RJ4 y y) ++ lw_tbl
set_option maxRecDepth 20000 in
theorem lw_y2_0 : Cond.selects RJ4 yJ5_isLatin1_aae02 yJ5_isLatin1_aae02 ∈ lw_tbl := by decide +kernel
set_option maxRecDepth 20000 in
theorem lw_y2_1 : ∀ y ∈ lw_y2, yJ5_isLatin1_aae02.cls = y.cls ∧ (y.cls ≠ "java/lang/invoke/MethodHandle" ∧ y.cls ≠ "java/lang/invoke/VarHandle") ∧ Cond.privateMethod y ∈ lw_tbl ∧ Cond.instanceMethod y ∈ lw_tbl := by decide +kernel
theorem lw_big_hts {args : Array Value} {s : State} (h : ∀ w ∈ lw_tbl, w.before args s = true) : ∀ w ∈ lw_big, w.before args s = true := by
  intro w hw
  rcases List.mem_append.mp hw with hw | hw
  · obtain ⟨y, hy, rfl⟩ := List.mem_map.mp hw
    obtain ⟨h1, h2, h3, h4⟩ := lw_y2_1 y hy
    exact lw_sel2 (h _ lw_y2_0) h1 h2 (h _ h3) (h _ h4)
  · exact h w hw
theorem lw_at_in {big ws : List Cond} (ps : List Nat) (h : ws.map some = ps.map (fun i => big[i]?)) : ∀ w ∈ ws, w ∈ big := by
  intro w hw
  have h1 : some w ∈ ws.map some := List.mem_map.mpr ⟨w, hw, rfl⟩
  rw [h] at h1
  obtain ⟨i, -, hi⟩ := List.mem_map.mp h1
  exact List.mem_of_getElem? hi
