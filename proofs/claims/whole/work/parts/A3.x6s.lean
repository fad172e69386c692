/-! Rows: stated here while the round is narrow; its proof (99.x6) wants the whole library (multianewarray) -/
def iX6 : kD := (fun a k => if a = 0 ∧ k = 4 then (-1) else 0, fun _ _ => 0)
abbrev rm_X6_init : Room := { frames := 1, cells := 21, slots := 135, locals := 12 }
set_option maxHeartbeats 8000000 in
set_option maxRecDepth 100000 in
theorem c_X6_init (l : Launch) (dC : Nat → ClassId) (dI : Nat → Nat → Nat) (cs : Nat → ClassId) (ad : Nat → Nat) (h : Nat) (sz : Nat) : Met l yX6_init wsX6_init rm_X6_init (va_Pc [.ref h] (fun U => cPw dC dI cs sz [(h, .inr (7, [.null, .null, .null, .int 0, .int 0]))] U ∧ kAA .int U)) (cQn dC dI cs (va_A [(h, .inr (7, [.null, .null, .null, .int 0, .int 0]))] sz) (fun ra => ra 0 = h) (fun ra => wX6 cs ad ra (ra 1000) (ra 2000) iX6 ++ ([(ra 1000, .inl (cs 7, 9, .inr (.inr (.inr (.inr (fun j => some (ra (1001 + j))))))))] ++ (wF1x9 cs (fun k => ra (1001 + k)) (fun _ _ => 0) ++ ([(ra 2000, .inl (cs 7, 9, .inr (.inr (.inr (.inr (fun j => some (ra (2001 + j))))))))] ++ wF1x9 cs (fun k => ra (2001 + k)) (fun _ _ => 0)))))) 21 135 (va_A [(h, .inr (7, [.null, .null, .null, .int 0, .int 0]))] sz) := by
  sorry
