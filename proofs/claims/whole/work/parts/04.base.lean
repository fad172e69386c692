/-! base: data of worlds as functions of two numbers; named lets and binds; loops by fuel; calls that leave the heap as it is -/
/-- an end that leaves the heap as it is -/
def kQ (v : Option Value) : Array Value → State → Outcome → State → Prop := fun _ st oc t => oc = .returned v ∧ t.heap = st.heap
def kF : Addr → Prop := fun _ => False
section KO
variable {p : Program} {l : Launch} {e : Env} {R : Room} {s : State} {m : MethodId} {args : Array Value} {below : List Frame} {meth : Method} {c : Code} {H : Heap} {locs : List Loc} {cells slots : Nat} {Q : State → Prop}
variable {pc : Nat} {ls : Array Slot} {rest st0 : List Value} {a : Array Value}
theorem ko_call {v : Option Value} (hr : va_Run p l e R s m args below meth c H locs cells slots 0 0 (F0 m pc ls st0) rest (kQ v a) kF) (kk : W p l e R s m args below meth c H locs cells slots Q (F0 m (pc + 3) ls (v.toList ++ rest))) : W p l e R s m args below meth c H locs cells slots Q (F0 m pc ls st0) := by
  intro T hT X
  obtain ⟨v', st₀, t, T', L, h0, X', hL, e1, e2, ⟨hv, hh⟩, st⟩ := hr T hT X
  cases hv
  have hLn : L = [] := by
    cases L with
    | nil => rfl
    | cons q L => exact (hL q List.mem_cons_self).elim
  subst hLn
  rw [List.append_nil] at X'
  obtain ⟨t2, a1, b1⟩ := kk T' (by rw [e1, hh, h0]) X'
  exact ⟨t2, st t2 a1, b1⟩
end KO
section KT
variable {p : Program} {l : Launch} {e : Env} {R : Room} {s : State} {m : MethodId} {args : Array Value} {below : List Frame} {meth : Method} {c : Code} {H : Heap} {locs : List Loc} {cells slots : Nat} {Q : State → Prop}
variable {cc : ByteArray} {pc : Nat} {ls : Array Slot} {rest : List Value}
theorem kt_i {x y : Int32} (h : y = x) (k : W p l e R s m args below meth c H locs cells slots Q (F0 m pc ls (.int y :: rest))) : W p l e R s m args below meth c H locs cells slots Q (F0 m pc ls (.int x :: rest)) := h ▸ k
theorem kt_j {x y : Int64} (h : y = x) (k : W p l e R s m args below meth c H locs cells slots Q (F0 m pc ls (.long y :: rest))) : W p l e R s m args below meth c H locs cells slots Q (F0 m pc ls (.long x :: rest)) := h ▸ k
theorem kt_inc {x v w : Int32} {n : Int} (h : Int32.ofInt n = w) (e : v = x + w) : x + Int32.ofInt n = v := by rw [h, e]
theorem kt_z {v : Int32} (h : v = 0 ∨ v = 1) : narrow .boolean (.int v) = .int v := by
  rcases h with rfl | rfl <;> rfl
end KT
/-! the world of the reference: its object and its rows; data by slot of the field; 0: the object's own fields -/
def mf (ra : Nat → Nat) (M : kD) : List Value := [.int (M.1 0 0), .ref (ra 1), .int (M.1 0 2), .int (M.1 0 3), .int (M.1 0 4), .int (M.1 0 5), .ref (ra 6), .ref (ra 7), .ref (ra 8), .ref (ra 9), .ref (ra 10), .int (M.1 0 11), .int (M.1 0 12), .int (M.1 0 13), .int (M.1 0 14), .int (M.1 0 15), .int (M.1 0 16), .long (M.2 0 17), .int (M.1 0 18), .int (M.1 0 19), .ref (ra 20), .ref (ra 21), .int (M.1 0 22), .ref (ra 23), .ref (ra 24), .int (M.1 0 25), .ref (ra 26), .ref (ra 27), .ref (ra 28), .int (M.1 0 29), .int (M.1 0 30), .int (M.1 0 31), .int (M.1 0 32), .ref (ra 33), .int (M.1 0 34), .int (M.1 0 35), .int (M.1 0 36), .ref (ra 37), .int (M.1 0 38), .ref (ra 39), .int (M.1 0 40), .int (M.1 0 41), .int (M.1 0 42), .int (M.1 0 43), .int (M.1 0 44), .ref (ra 45), .ref (ra 46), .ref (ra 47), .ref (ra 48)]
def mw (cB cI cJ cZ : ClassId) (ra : Nat → Nat) (M : kD) : va_W := [(ra 0, .inr (12, mf ra M)), (ra 1, .inl (cB, 940, .inl (M.1 1))), (ra 6, .inl (cI, 279, .inl (M.1 6))), (ra 7, .inl (cI, 39, .inl (M.1 7))), (ra 8, .inl (cI, 135, .inl (M.1 8))), (ra 9, .inl (cJ, 28, .inr (.inl (M.2 9)))), (ra 10, .inl (cJ, 21, .inr (.inl (M.2 10)))), (ra 20, .inl (cI, 472, .inl (M.1 20))), (ra 21, .inl (cI, 59, .inl (M.1 21))), (ra 23, .inl (cI, 48, .inl (M.1 23))), (ra 24, .inl (cI, 48, .inl (M.1 24))), (ra 26, .inl (cI, 54, .inl (M.1 26))), (ra 27, .inl (cI, 54, .inl (M.1 27))), (ra 28, .inl (cI, 9, .inl (M.1 28))), (ra 33, .inl (cB, 48, .inl (M.1 33))), (ra 37, .inl (cI, 4, .inl (M.1 37))), (ra 39, .inl (cI, 45, .inl (M.1 39))), (ra 45, .inl (cZ, 45, .inl (M.1 45))), (ra 46, .inl (cI, 558, .inl (M.1 46))), (ra 47, .inl (cJ, 28, .inr (.inl (M.2 47)))), (ra 48, .inl (cZ, 2, .inl (M.1 48)))]
def mt (cB cI cJ cZ : ClassId) : List (ClassId × FieldType) := [(cB, .byte), (cI, .int), (cJ, .long), (cZ, .boolean)]
theorem TX12_1 : ∀ k, (TX12 k).1 = "KeyLettersModel" := by intro k; unfold TX12; split <;> rfl
theorem mo_0 (cB cI cJ cZ : ClassId) (ra : Nat → Nat) (M : kD) (v : Int32) : (mw cB cI cJ cZ ra M).set 0 (ra 0, .inr (12, (mf ra M).set 0 (.int v))) = mw cB cI cJ cZ ra (kI M 0 0 v) := rfl
theorem ma_1 (cB cI cJ cZ : ClassId) (ra : Nat → Nat) (M : kD) (j : Nat) (v : Int32) : (mw cB cI cJ cZ ra M).set 1 (ra 1, .inl (cB, 940, .inl (upd (M.1 1) j v))) = mw cB cI cJ cZ ra (kI M 1 j v) := rfl
theorem mo_2 (cB cI cJ cZ : ClassId) (ra : Nat → Nat) (M : kD) (v : Int32) : (mw cB cI cJ cZ ra M).set 0 (ra 0, .inr (12, (mf ra M).set 2 (.int v))) = mw cB cI cJ cZ ra (kI M 0 2 v) := rfl
theorem mo_3 (cB cI cJ cZ : ClassId) (ra : Nat → Nat) (M : kD) (v : Int32) : (mw cB cI cJ cZ ra M).set 0 (ra 0, .inr (12, (mf ra M).set 3 (.int v))) = mw cB cI cJ cZ ra (kI M 0 3 v) := rfl
theorem mo_4 (cB cI cJ cZ : ClassId) (ra : Nat → Nat) (M : kD) (v : Int32) : (mw cB cI cJ cZ ra M).set 0 (ra 0, .inr (12, (mf ra M).set 4 (.int v))) = mw cB cI cJ cZ ra (kI M 0 4 v) := rfl
theorem mo_5 (cB cI cJ cZ : ClassId) (ra : Nat → Nat) (M : kD) (v : Int32) : (mw cB cI cJ cZ ra M).set 0 (ra 0, .inr (12, (mf ra M).set 5 (.int v))) = mw cB cI cJ cZ ra (kI M 0 5 v) := rfl
theorem ma_6 (cB cI cJ cZ : ClassId) (ra : Nat → Nat) (M : kD) (j : Nat) (v : Int32) : (mw cB cI cJ cZ ra M).set 2 (ra 6, .inl (cI, 279, .inl (upd (M.1 6) j v))) = mw cB cI cJ cZ ra (kI M 6 j v) := rfl
theorem ma_7 (cB cI cJ cZ : ClassId) (ra : Nat → Nat) (M : kD) (j : Nat) (v : Int32) : (mw cB cI cJ cZ ra M).set 3 (ra 7, .inl (cI, 39, .inl (upd (M.1 7) j v))) = mw cB cI cJ cZ ra (kI M 7 j v) := rfl
theorem ma_8 (cB cI cJ cZ : ClassId) (ra : Nat → Nat) (M : kD) (j : Nat) (v : Int32) : (mw cB cI cJ cZ ra M).set 4 (ra 8, .inl (cI, 135, .inl (upd (M.1 8) j v))) = mw cB cI cJ cZ ra (kI M 8 j v) := rfl
theorem ma_9 (cB cI cJ cZ : ClassId) (ra : Nat → Nat) (M : kD) (j : Nat) (v : Int64) : (mw cB cI cJ cZ ra M).set 5 (ra 9, .inl (cJ, 28, .inr (.inl (vp_updL (M.2 9) j v)))) = mw cB cI cJ cZ ra (kL M 9 j v) := rfl
theorem ma_10 (cB cI cJ cZ : ClassId) (ra : Nat → Nat) (M : kD) (j : Nat) (v : Int64) : (mw cB cI cJ cZ ra M).set 6 (ra 10, .inl (cJ, 21, .inr (.inl (vp_updL (M.2 10) j v)))) = mw cB cI cJ cZ ra (kL M 10 j v) := rfl
theorem mo_11 (cB cI cJ cZ : ClassId) (ra : Nat → Nat) (M : kD) (v : Int32) : (mw cB cI cJ cZ ra M).set 0 (ra 0, .inr (12, (mf ra M).set 11 (.int v))) = mw cB cI cJ cZ ra (kI M 0 11 v) := rfl
theorem mo_12 (cB cI cJ cZ : ClassId) (ra : Nat → Nat) (M : kD) (v : Int32) : (mw cB cI cJ cZ ra M).set 0 (ra 0, .inr (12, (mf ra M).set 12 (.int v))) = mw cB cI cJ cZ ra (kI M 0 12 v) := rfl
theorem mo_13 (cB cI cJ cZ : ClassId) (ra : Nat → Nat) (M : kD) (v : Int32) : (mw cB cI cJ cZ ra M).set 0 (ra 0, .inr (12, (mf ra M).set 13 (.int v))) = mw cB cI cJ cZ ra (kI M 0 13 v) := rfl
theorem mo_14 (cB cI cJ cZ : ClassId) (ra : Nat → Nat) (M : kD) (v : Int32) : (mw cB cI cJ cZ ra M).set 0 (ra 0, .inr (12, (mf ra M).set 14 (.int v))) = mw cB cI cJ cZ ra (kI M 0 14 v) := rfl
theorem mo_15 (cB cI cJ cZ : ClassId) (ra : Nat → Nat) (M : kD) (v : Int32) : (mw cB cI cJ cZ ra M).set 0 (ra 0, .inr (12, (mf ra M).set 15 (.int v))) = mw cB cI cJ cZ ra (kI M 0 15 v) := rfl
theorem mo_16 (cB cI cJ cZ : ClassId) (ra : Nat → Nat) (M : kD) (v : Int32) : (mw cB cI cJ cZ ra M).set 0 (ra 0, .inr (12, (mf ra M).set 16 (.int v))) = mw cB cI cJ cZ ra (kI M 0 16 v) := rfl
theorem mo_17 (cB cI cJ cZ : ClassId) (ra : Nat → Nat) (M : kD) (v : Int64) : (mw cB cI cJ cZ ra M).set 0 (ra 0, .inr (12, (mf ra M).set 17 (.long v))) = mw cB cI cJ cZ ra (kL M 0 17 v) := rfl
theorem mo_18 (cB cI cJ cZ : ClassId) (ra : Nat → Nat) (M : kD) (v : Int32) : (mw cB cI cJ cZ ra M).set 0 (ra 0, .inr (12, (mf ra M).set 18 (.int v))) = mw cB cI cJ cZ ra (kI M 0 18 v) := rfl
theorem mo_19 (cB cI cJ cZ : ClassId) (ra : Nat → Nat) (M : kD) (v : Int32) : (mw cB cI cJ cZ ra M).set 0 (ra 0, .inr (12, (mf ra M).set 19 (.int v))) = mw cB cI cJ cZ ra (kI M 0 19 v) := rfl
theorem ma_20 (cB cI cJ cZ : ClassId) (ra : Nat → Nat) (M : kD) (j : Nat) (v : Int32) : (mw cB cI cJ cZ ra M).set 7 (ra 20, .inl (cI, 472, .inl (upd (M.1 20) j v))) = mw cB cI cJ cZ ra (kI M 20 j v) := rfl
theorem ma_21 (cB cI cJ cZ : ClassId) (ra : Nat → Nat) (M : kD) (j : Nat) (v : Int32) : (mw cB cI cJ cZ ra M).set 8 (ra 21, .inl (cI, 59, .inl (upd (M.1 21) j v))) = mw cB cI cJ cZ ra (kI M 21 j v) := rfl
theorem mo_22 (cB cI cJ cZ : ClassId) (ra : Nat → Nat) (M : kD) (v : Int32) : (mw cB cI cJ cZ ra M).set 0 (ra 0, .inr (12, (mf ra M).set 22 (.int v))) = mw cB cI cJ cZ ra (kI M 0 22 v) := rfl
theorem ma_23 (cB cI cJ cZ : ClassId) (ra : Nat → Nat) (M : kD) (j : Nat) (v : Int32) : (mw cB cI cJ cZ ra M).set 9 (ra 23, .inl (cI, 48, .inl (upd (M.1 23) j v))) = mw cB cI cJ cZ ra (kI M 23 j v) := rfl
theorem ma_24 (cB cI cJ cZ : ClassId) (ra : Nat → Nat) (M : kD) (j : Nat) (v : Int32) : (mw cB cI cJ cZ ra M).set 10 (ra 24, .inl (cI, 48, .inl (upd (M.1 24) j v))) = mw cB cI cJ cZ ra (kI M 24 j v) := rfl
theorem mo_25 (cB cI cJ cZ : ClassId) (ra : Nat → Nat) (M : kD) (v : Int32) : (mw cB cI cJ cZ ra M).set 0 (ra 0, .inr (12, (mf ra M).set 25 (.int v))) = mw cB cI cJ cZ ra (kI M 0 25 v) := rfl
theorem ma_26 (cB cI cJ cZ : ClassId) (ra : Nat → Nat) (M : kD) (j : Nat) (v : Int32) : (mw cB cI cJ cZ ra M).set 11 (ra 26, .inl (cI, 54, .inl (upd (M.1 26) j v))) = mw cB cI cJ cZ ra (kI M 26 j v) := rfl
theorem ma_27 (cB cI cJ cZ : ClassId) (ra : Nat → Nat) (M : kD) (j : Nat) (v : Int32) : (mw cB cI cJ cZ ra M).set 12 (ra 27, .inl (cI, 54, .inl (upd (M.1 27) j v))) = mw cB cI cJ cZ ra (kI M 27 j v) := rfl
theorem ma_28 (cB cI cJ cZ : ClassId) (ra : Nat → Nat) (M : kD) (j : Nat) (v : Int32) : (mw cB cI cJ cZ ra M).set 13 (ra 28, .inl (cI, 9, .inl (upd (M.1 28) j v))) = mw cB cI cJ cZ ra (kI M 28 j v) := rfl
theorem mo_29 (cB cI cJ cZ : ClassId) (ra : Nat → Nat) (M : kD) (v : Int32) : (mw cB cI cJ cZ ra M).set 0 (ra 0, .inr (12, (mf ra M).set 29 (.int v))) = mw cB cI cJ cZ ra (kI M 0 29 v) := rfl
theorem mo_30 (cB cI cJ cZ : ClassId) (ra : Nat → Nat) (M : kD) (v : Int32) : (mw cB cI cJ cZ ra M).set 0 (ra 0, .inr (12, (mf ra M).set 30 (.int v))) = mw cB cI cJ cZ ra (kI M 0 30 v) := rfl
theorem mo_31 (cB cI cJ cZ : ClassId) (ra : Nat → Nat) (M : kD) (v : Int32) : (mw cB cI cJ cZ ra M).set 0 (ra 0, .inr (12, (mf ra M).set 31 (.int v))) = mw cB cI cJ cZ ra (kI M 0 31 v) := rfl
theorem mo_32 (cB cI cJ cZ : ClassId) (ra : Nat → Nat) (M : kD) (v : Int32) : (mw cB cI cJ cZ ra M).set 0 (ra 0, .inr (12, (mf ra M).set 32 (.int v))) = mw cB cI cJ cZ ra (kI M 0 32 v) := rfl
theorem ma_33 (cB cI cJ cZ : ClassId) (ra : Nat → Nat) (M : kD) (j : Nat) (v : Int32) : (mw cB cI cJ cZ ra M).set 14 (ra 33, .inl (cB, 48, .inl (upd (M.1 33) j v))) = mw cB cI cJ cZ ra (kI M 33 j v) := rfl
theorem mo_34 (cB cI cJ cZ : ClassId) (ra : Nat → Nat) (M : kD) (v : Int32) : (mw cB cI cJ cZ ra M).set 0 (ra 0, .inr (12, (mf ra M).set 34 (.int v))) = mw cB cI cJ cZ ra (kI M 0 34 v) := rfl
theorem mo_35 (cB cI cJ cZ : ClassId) (ra : Nat → Nat) (M : kD) (v : Int32) : (mw cB cI cJ cZ ra M).set 0 (ra 0, .inr (12, (mf ra M).set 35 (.int v))) = mw cB cI cJ cZ ra (kI M 0 35 v) := rfl
theorem mo_36 (cB cI cJ cZ : ClassId) (ra : Nat → Nat) (M : kD) (v : Int32) : (mw cB cI cJ cZ ra M).set 0 (ra 0, .inr (12, (mf ra M).set 36 (.int v))) = mw cB cI cJ cZ ra (kI M 0 36 v) := rfl
theorem ma_37 (cB cI cJ cZ : ClassId) (ra : Nat → Nat) (M : kD) (j : Nat) (v : Int32) : (mw cB cI cJ cZ ra M).set 15 (ra 37, .inl (cI, 4, .inl (upd (M.1 37) j v))) = mw cB cI cJ cZ ra (kI M 37 j v) := rfl
theorem mo_38 (cB cI cJ cZ : ClassId) (ra : Nat → Nat) (M : kD) (v : Int32) : (mw cB cI cJ cZ ra M).set 0 (ra 0, .inr (12, (mf ra M).set 38 (.int v))) = mw cB cI cJ cZ ra (kI M 0 38 v) := rfl
theorem ma_39 (cB cI cJ cZ : ClassId) (ra : Nat → Nat) (M : kD) (j : Nat) (v : Int32) : (mw cB cI cJ cZ ra M).set 16 (ra 39, .inl (cI, 45, .inl (upd (M.1 39) j v))) = mw cB cI cJ cZ ra (kI M 39 j v) := rfl
theorem mo_40 (cB cI cJ cZ : ClassId) (ra : Nat → Nat) (M : kD) (v : Int32) : (mw cB cI cJ cZ ra M).set 0 (ra 0, .inr (12, (mf ra M).set 40 (.int v))) = mw cB cI cJ cZ ra (kI M 0 40 v) := rfl
theorem mo_41 (cB cI cJ cZ : ClassId) (ra : Nat → Nat) (M : kD) (v : Int32) : (mw cB cI cJ cZ ra M).set 0 (ra 0, .inr (12, (mf ra M).set 41 (.int v))) = mw cB cI cJ cZ ra (kI M 0 41 v) := rfl
theorem mo_42 (cB cI cJ cZ : ClassId) (ra : Nat → Nat) (M : kD) (v : Int32) : (mw cB cI cJ cZ ra M).set 0 (ra 0, .inr (12, (mf ra M).set 42 (.int v))) = mw cB cI cJ cZ ra (kI M 0 42 v) := rfl
theorem mo_43 (cB cI cJ cZ : ClassId) (ra : Nat → Nat) (M : kD) (v : Int32) : (mw cB cI cJ cZ ra M).set 0 (ra 0, .inr (12, (mf ra M).set 43 (.int v))) = mw cB cI cJ cZ ra (kI M 0 43 v) := rfl
theorem mo_44 (cB cI cJ cZ : ClassId) (ra : Nat → Nat) (M : kD) (v : Int32) : (mw cB cI cJ cZ ra M).set 0 (ra 0, .inr (12, (mf ra M).set 44 (.int v))) = mw cB cI cJ cZ ra (kI M 0 44 v) := rfl
theorem ma_45 (cB cI cJ cZ : ClassId) (ra : Nat → Nat) (M : kD) (j : Nat) (v : Int32) : (mw cB cI cJ cZ ra M).set 17 (ra 45, .inl (cZ, 45, .inl (upd (M.1 45) j v))) = mw cB cI cJ cZ ra (kI M 45 j v) := rfl
theorem ma_46 (cB cI cJ cZ : ClassId) (ra : Nat → Nat) (M : kD) (j : Nat) (v : Int32) : (mw cB cI cJ cZ ra M).set 18 (ra 46, .inl (cI, 558, .inl (upd (M.1 46) j v))) = mw cB cI cJ cZ ra (kI M 46 j v) := rfl
theorem ma_47 (cB cI cJ cZ : ClassId) (ra : Nat → Nat) (M : kD) (j : Nat) (v : Int64) : (mw cB cI cJ cZ ra M).set 19 (ra 47, .inl (cJ, 28, .inr (.inl (vp_updL (M.2 47) j v)))) = mw cB cI cJ cZ ra (kL M 47 j v) := rfl
theorem ma_48 (cB cI cJ cZ : ClassId) (ra : Nat → Nat) (M : kD) (j : Nat) (v : Int32) : (mw cB cI cJ cZ ra M).set 20 (ra 48, .inl (cZ, 2, .inl (upd (M.1 48) j v))) = mw cB cI cJ cZ ra (kI M 48 j v) := rfl
section KM
variable {p : Program} {l : Launch} {e : Env} {R : Room} {s : State} {m : MethodId} {args : Array Value} {below : List Frame} {meth : Method} {c : Code} {H : Heap} {locs : List Loc} {cells slots : Nat} {Q : State → Prop}
variable {cc : ByteArray} {pc : Nat} {ls : Array Slot} {rest : List Value} {dC : Nat → ClassId} {dI : Nat → Nat → Nat} {cB cI cJ cZ : ClassId} {ra : Nat → Nat} {M : kD} {A : Nat → Prop} {H0 : Heap} {Ts : List Cond}
theorem km_get (hx : p.tables.exec = Jvm.exec) (hb : c.code = cc) (hts : ∀ w ∈ Ts, w.before args s = true) (hin : ∀ w ∈ wsX120, w ∈ Ts) (hown : s.vm.findClass RX12 = some m.cls) (hK : va_K (dC, dI) vwCl (mt cB cI cJ cZ) s) (hP : va_P (dC, dI) vwCl (mw cB cI cJ cZ ra M) H) (k : Nat) (hk : k < 49) {index : Nat} (hlink : (Cond.fieldLink RX12 index "KeyLettersModel" (TX12 k).2.1 (TX12 k).2.2.1).before args s = true) {v : Value} (hv : (mf ra M)[k]? = some v) (hdg : decode cc pc = .ok (.getfield index, 3)) (kk : W p l e R s m args below meth c H locs cells slots Q (F0 m (pc + 3) ls (v :: rest))) : W p l e R s m args below meth c H locs cells slots Q (F0 m pc ls (.ref (ra 0) :: rest)) :=
  va_get (D := (dC, dI)) (ci := 12) (C := RX12) (T := TX12) (N := 49) hx hb hts hin hown hK hP 0 rfl rfl k hk hlink (fun _ h9 => by rw [← TX12_1 k]; exact h9) hv hdg kk
theorem km_put (hx : p.tables.exec = Jvm.exec) (hb : c.code = cc) (hts : ∀ w ∈ Ts, w.before args s = true) (hin : ∀ w ∈ wsX120, w ∈ Ts) (hown : s.vm.findClass RX12 = some m.cls) (hK : va_K (dC, dI) vwCl (mt cB cI cJ cZ) s) (hP : va_P (dC, dI) vwCl (mw cB cI cJ cZ ra M) H) (hD : va_D A (mw cB cI cJ cZ ra M)) (hS : va_S A H0 H locs) (k : Nat) (hk : k < 49) {index : Nat} (hlink : (Cond.fieldLink RX12 index "KeyLettersModel" (TX12 k).2.1 (TX12 k).2.2.1).before args s = true) (hfin : (TX12 k).2.2.2 = false) {ty : FieldType} {v : Value} (hd : parseFieldDescriptor (TX12 k).2.2.1 = some ty) (hn : narrow ty v = v) (hfit : fits ty v = true) {M1 : kD} (hM : (mw cB cI cJ cZ ra M).set 0 (ra 0, .inr (12, (mf ra M).set k v)) = mw cB cI cJ cZ ra M1) (hdg : decode cc pc = .ok (.putfield index, 3))
    (kk : ∀ (H : Heap) (locs : List Loc), va_P (dC, dI) vwCl (mw cB cI cJ cZ ra M1) H → va_D A (mw cB cI cJ cZ ra M1) → va_S A H0 H locs → W p l e R s m args below meth c H locs cells slots Q (F0 m (pc + 3) ls rest)) : W p l e R s m args below meth c H locs cells slots Q (F0 m pc ls (v :: .ref (ra 0) :: rest)) :=
  va_put (D := (dC, dI)) (ci := 12) (C := RX12) (T := TX12) (N := 49) hx hb hts hin tyX12 tyX12_ok nmX12 hown hK hP hD hS 0 rfl rfl k hk hlink (fun _ h9 => by rw [← TX12_1 k]; exact h9) hfin hd hn hfit hk hdg (fun H1 locs1 h1 h2 h3 => kk H1 locs1 (by rw [← hM]; exact h1) (by rw [← hM]; exact h2) h3)
theorem km_run {y : MethodName} {bytes : ByteArray} {maxL nL n index : Nat} {ret : Option FieldType} {ws : List Cond} {rm : Room} {Qc : Array Value → State → Outcome → State → Prop} {free : Addr → Prop} {As : List Value} {g : JFrame} {Pc : State → Prop}
    (S : CallFix p m c cc nL s args Ts RX12) (hM : Met l y ws rm (va_Pc (.ref (ra 0) :: As) Pc) Qc 0 0 free) (cw : CallW R s args RX12 RX12 index y bytes maxL ret ws rm 0 0 n) (hK : va_K (dC, dI) vwCl (mt cB cI cJ cZ) s) (hP : va_P (dC, dI) vwCl (mw cB cI cJ cZ ra M) H)
    (hbl : ∀ (a : Array Value) (U : State) (g : JFrame) (mk : MethodId), Pc U → Pc (U.calling g mk a)) (hPc : ∀ U : State, U.heap = H → s.WarmedH U.vm → Pc U)
    (hg : g.method = m) (hn : As.length = n) (hsize : g.locals.size = nL) (hstack : g.stack = As.reverse ++ .ref (ra 0) :: rest) (hW : 2 * g.monitorRoom + (rest.map fun v => v.category).sum ≤ 8) (hdg : decode cc g.pc = .ok (.invokevirtual index, 3)) (hf : cells + 0 ≤ R.cells ∧ slots + 0 ≤ R.slots) :
    va_Run p l e R s m args below meth c H locs cells slots 0 0 g rest (Qc (Value.ref (ra 0) :: As).toArray) free :=
  va_runV S hM cw ⟨fun a U g mk q => ⟨q.1, hbl a U g mk q.2⟩, va_recv hK hP (ci := 12) (q0 := 0) rfl rfl, fun U hU hW => ⟨rfl, hPc U hU hW⟩⟩ hg hn hsize hstack hW hdg hf
/-- what a method of the reference that writes nothing starts from -/
def mPr (dC : Nat → ClassId) (dI : Nat → Nat → Nat) (cB cI cJ cZ : ClassId) (ra : Nat → Nat) (M : kD) : State → Prop := fun U => va_P (dC, dI) vwCl (mw cB cI cJ cZ ra M) U.heap ∧ va_K (dC, dI) vwCl (mt cB cI cJ cZ) U
/-- .. and one that writes -/
def mPw (dC : Nat → ClassId) (dI : Nat → Nat → Nat) (cB cI cJ cZ : ClassId) (ra : Nat → Nat) (sz : Nat) (M : kD) : State → Prop := fun U => U.heap.size = sz ∧ va_P (dC, dI) vwCl (mw cB cI cJ cZ ra M) U.heap ∧ va_K (dC, dI) vwCl (mt cB cI cJ cZ) U ∧ va_D (fun _ => True) (mw cB cI cJ cZ ra M)
/-- the cells that one may write: the world's, and new ones -/
def mA (ra : Nat → Nat) (sz : Nat) : Nat → Prop := va_A (mw 0 0 0 0 ra (fun _ _ => 0, fun _ _ => 0)) sz
def mB (dC : Nat → ClassId) (dI : Nat → Nat → Nat) (cB cI cJ cZ : ClassId) (ra : Nat → Nat) (sz : Nat) (M : kD) (t : State) : Prop := va_P (dC, dI) vwCl (mw cB cI cJ cZ ra M) t.heap ∧ va_K (dC, dI) vwCl (mt cB cI cJ cZ) t ∧ va_D (mA ra sz) (mw cB cI cJ cZ ra M)
def mQi (dC : Nat → ClassId) (dI : Nat → Nat → Nat) (cB cI cJ cZ : ClassId) (ra : Nat → Nat) (sz : Nat) (r : Int32 × kD) : Array Value → State → Outcome → State → Prop := va_Qi (fun v M => (v, M) = r) (mB dC dI cB cI cJ cZ ra sz) (mA ra sz)
def mQv (dC : Nat → ClassId) (dI : Nat → Nat → Nat) (cB cI cJ cZ : ClassId) (ra : Nat → Nat) (sz : Nat) (r : kD) : Array Value → State → Outcome → State → Prop := va_Qv (fun M => M = r) (mB dC dI cB cI cJ cZ ra sz) (mA ra sz)
theorem mPr_bl {a : Array Value} {U : State} {g : JFrame} {mk : MethodId} (q : mPr dC dI cB cI cJ cZ ra M U) : mPr dC dI cB cI cJ cZ ra M (U.calling g mk a) := ⟨q.1, va_K.moved (u := U) (U := U.calling g mk a) (Vm.Alike.refl U.vm) q.2⟩
theorem mPw_bl {sz : Nat} {a : Array Value} {U : State} {g : JFrame} {mk : MethodId} (q : mPw dC dI cB cI cJ cZ ra sz M U) : mPw dC dI cB cI cJ cZ ra sz M (U.calling g mk a) := ⟨q.1, q.2.1, va_K.moved (u := U) (U := U.calling g mk a) (Vm.Alike.refl U.vm) q.2.2.1, q.2.2.2⟩
theorem mw_fst (M M2 : kD) (cB2 cI2 cJ2 cZ2 : ClassId) : (mw cB cI cJ cZ ra M).map Prod.fst = (mw cB2 cI2 cJ2 cZ2 ra M2).map Prod.fst := rfl
theorem mA_in {sz : Nat} {k : Nat} {q : Nat × va_E} (h : (mw cB cI cJ cZ ra M)[k]? = some q) : mA ra sz q.1 := by
  have h1 : ((mw cB cI cJ cZ ra M).map Prod.fst)[k]? = some q.1 := by rw [List.getElem?_map, h]; rfl
  rw [mw_fst M (fun _ _ => 0, fun _ _ => 0) 0 0 0 0, List.getElem?_map] at h1
  cases hq : (mw 0 0 0 0 ra (fun _ _ => 0, fun _ _ => 0))[k]? with
  | none => rw [hq] at h1; cases h1
  | some q2 =>
    rw [hq] at h1
    have h2 : q2.1 = q.1 := Option.some.inj h1
    rw [← h2]
    exact va_A.in hq
theorem mA_free {A0 : Nat → Prop} (hD : va_D A0 (mw cB cI cJ cZ ra M)) (hS : va_S A0 H0 H locs) (hA : ∀ q, H0.size ≤ q → A0 q) : ∀ q, mA ra H.size q → A0 q := by
  intro q h
  rcases h with ⟨k, e, h⟩ | h
  · have h1 : ((mw 0 0 0 0 ra (fun _ _ => 0, fun _ _ => 0)).map Prod.fst)[k]? = some q := by rw [List.getElem?_map, h]; rfl
    rw [← mw_fst (cB := cB) (cI := cI) (cJ := cJ) (cZ := cZ) M (fun _ _ => 0, fun _ _ => 0) 0 0 0 0, List.getElem?_map] at h1
    cases hq : (mw cB cI cJ cZ ra M)[k]? with
    | none => rw [hq] at h1; cases h1
    | some q2 =>
      rw [hq] at h1
      have h2 : q2.1 = q := Option.some.inj h1
      rw [← h2]
      exact hD.2 k q2 hq
  · exact hA q (Nat.le_trans hS.1 h)
/-- a call of a method that writes, int -/
theorem km_callw {A0 : Nat → Prop} {st0 : List Value} {a : Array Value} {r : Int32 × kD} {v : Int32} {M1 : kD} (hrr : r = (v, M1)) (hr : va_Run p l e R s m args below meth c H locs cells slots 0 0 (F0 m pc ls st0) rest (mQi dC dI cB cI cJ cZ ra H.size r a) (mA ra H.size)) (hD : va_D A0 (mw cB cI cJ cZ ra M)) (hS : va_S A0 H0 H locs) (hA : ∀ q, H0.size ≤ q → A0 q)
    (kk : ∀ (H : Heap) (locs : List Loc), va_P (dC, dI) vwCl (mw cB cI cJ cZ ra M1) H → va_D A0 (mw cB cI cJ cZ ra M1) → va_S A0 H0 H locs → W p l e R s m args below meth c H locs cells slots Q (F0 m (pc + 3) ls (.int v :: rest))) : W p l e R s m args below meth c H locs cells slots Q (F0 m pc ls st0) := by
  have hF := mA_free hD hS hA
  refine va_calli hr hS (fun q _ h => hF q h) hF (fun w M2 t H1 locs1 ht hvm hw hB hz hk hS1 => ?_)
  rw [hrr] at hw
  cases hw
  refine kk H1 locs1 (by rw [← ht]; exact hB.1) (hB.2.2.weaken (fun k q _ h => hF q.1 h)) hS1
theorem km_callwv {A0 : Nat → Prop} {st0 : List Value} {a : Array Value} {M1 : kD} (hr : va_Run p l e R s m args below meth c H locs cells slots 0 0 (F0 m pc ls st0) rest (mQv dC dI cB cI cJ cZ ra H.size M1 a) (mA ra H.size)) (hD : va_D A0 (mw cB cI cJ cZ ra M)) (hS : va_S A0 H0 H locs) (hA : ∀ q, H0.size ≤ q → A0 q)
    (kk : ∀ (H : Heap) (locs : List Loc), va_P (dC, dI) vwCl (mw cB cI cJ cZ ra M1) H → va_D A0 (mw cB cI cJ cZ ra M1) → va_S A0 H0 H locs → W p l e R s m args below meth c H locs cells slots Q (F0 m (pc + 3) ls rest)) : W p l e R s m args below meth c H locs cells slots Q (F0 m pc ls st0) := by
  have hF := mA_free hD hS hA
  refine va_callv hr hS (fun q _ h => hF q h) hF (fun M2 t H1 locs1 ht hvm hw hB hz hk hS1 => ?_)
  cases hw
  refine kk H1 locs1 (by rw [← ht]; exact hB.1) (hB.2.2.weaken (fun k q _ h => hF q.1 h)) hS1
end KM
section KM2
variable {p : Program} {l : Launch} {e : Env} {R : Room} {s : State} {m : MethodId} {args : Array Value} {below : List Frame} {meth : Method} {c : Code} {H : Heap} {locs : List Loc} {cc : ByteArray} {pc : Nat} {ls : Array Slot} {dC : Nat → ClassId} {dI : Nat → Nat → Nat} {cB cI cJ cZ : ClassId} {ra : Nat → Nat} {M : kD}
theorem m_iret {v : Int32} (hx : p.tables.exec = Jvm.exec) (hb : c.code = cc) (hr : meth.sig.returnType = some .int) (hlocks : meth.locks = false) (hP : va_P (dC, dI) vwCl (mw cB cI cJ cZ ra M) H) (hK : va_K (dC, dI) vwCl (mt cB cI cJ cZ) s) (hD : va_D (mA ra s.heap.size) (mw cB cI cJ cZ ra M)) (hS : va_S (mA ra s.heap.size) s.heap H locs) (hdg : decode cc pc = .ok (.ireturn, 1)) : W p l e R s m args below meth c H locs 0 0 (MQ below (mQi dC dI cB cI cJ cZ ra s.heap.size (v, M)) args s 0 0 (mA ra s.heap.size)) (F0 m pc ls [.int v]) :=
  W.iret (v := v) hx hb hr (fun t ht hW => ⟨⟨v, M, rfl, rfl, by rw [ht]; exact hP, va_K.moved hW.alike hK, hD⟩, hS.F ht⟩) hS.2.2 hdg hlocks
theorem m_zret {v : Int32} (hx : p.tables.exec = Jvm.exec) (hb : c.code = cc) (hr : meth.sig.returnType = some .boolean) (hn : narrow .boolean (.int v) = .int v) (hlocks : meth.locks = false) (hP : va_P (dC, dI) vwCl (mw cB cI cJ cZ ra M) H) (hK : va_K (dC, dI) vwCl (mt cB cI cJ cZ) s) (hD : va_D (mA ra s.heap.size) (mw cB cI cJ cZ ra M)) (hS : va_S (mA ra s.heap.size) s.heap H locs) (hdg : decode cc pc = .ok (.ireturn, 1)) : W p l e R s m args below meth c H locs 0 0 (MQ below (mQi dC dI cB cI cJ cZ ra s.heap.size (v, M)) args s 0 0 (mA ra s.heap.size)) (F0 m pc ls [.int v]) :=
  W.zret (v := v) (ty := .boolean) hx hb hr hn (fun t ht hW => ⟨⟨v, M, rfl, rfl, by rw [ht]; exact hP, va_K.moved hW.alike hK, hD⟩, hS.F ht⟩) hS.2.2 hdg hlocks
theorem m_vret (hx : p.tables.exec = Jvm.exec) (hb : c.code = cc) (hr : meth.sig.returnType = none) (hlocks : meth.locks = false) (hP : va_P (dC, dI) vwCl (mw cB cI cJ cZ ra M) H) (hK : va_K (dC, dI) vwCl (mt cB cI cJ cZ) s) (hD : va_D (mA ra s.heap.size) (mw cB cI cJ cZ ra M)) (hS : va_S (mA ra s.heap.size) s.heap H locs) (hdg : decode cc pc = .ok (.return_, 1)) : W p l e R s m args below meth c H locs 0 0 (MQ below (mQv dC dI cB cI cJ cZ ra s.heap.size M) args s 0 0 (mA ra s.heap.size)) (F0 m pc ls []) :=
  W.vret hx hb hr (fun t ht hW => ⟨⟨M, rfl, rfl, by rw [ht]; exact hP, va_K.moved hW.alike hK, hD⟩, hS.F ht⟩) hS.2.2 hdg hlocks
end KM2

