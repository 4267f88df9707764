/-! THE START: both sides as their constructors leave them -/
def in_o1 : tp_O := fx_X4_startAnew 5 (fun _ _ => 0)
theorem in_s1 : in_o1.isSome = true := by decide +kernel
def in_r1 : Int × tp_M := in_o1.get in_s1
theorem in_h1 : fx_X4_startAnew 5 (fun _ _ => 0) = some in_r1 := (Option.some_get in_s1).symm
def in_o2 : tp_O := fx_X10_fillColdPartners 63 31 in_r1.2
theorem in_s2 : in_o2.isSome = true := by decide +kernel
def in_r2 : Int × tp_M := in_o2.get in_s2
theorem in_h2 : fx_X10_fillColdPartners 63 31 in_r1.2 = some in_r2 := (Option.some_get in_s2).symm
def in_C : tp_M := in_r2.2
def in_M : tp_M := tp_up (tp_up (fun _ _ => 0) 0 3 2) 2 1 1
theorem in_net : in_C 5 4 = 2 ∧ in_C 5 5 = 1 ∧ in_C 6 1 = 1 ∧ in_C 7 4 = 0 ∧ in_C 8 1 = 1 ∧ in_C 9 0 = 0 ∧ in_C 9 1 = 1 := by decide +kernel
theorem in_cold : ∀ j : Nat, j < 31 → in_C 63 (j : Int) = [0, 2, 1, 5, 7, 3, 10, 4, 13, 15, 6, 18, 20, 8, 23, 9, 26, 28, 11, 31, 12, 34, 36, 14, 39, 41, 16, 44, 17, 47, 49].getD j 0 := by decide +kernel
