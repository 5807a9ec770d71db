-- ===== the start: what the constructors leave =====
def M_a : Option (Unit × Mem) := L_X10_init (some 0) (nw M_in 10 0 9)
def mOf (x : Option (Unit × Mem)) : Mem := match x with
  | some w => w.2
  | none => M_in
def M_1 : Mem := mOf M_a
def M_b : Option (Unit × Mem) := L_X11_init (some 181) (nw M_1 11 0 85)
def M_s : Mem := mOf M_b
set_option maxRecDepth 100000 in
theorem a_some : M_a.isSome = true := by decide +kernel
set_option maxRecDepth 100000 in
theorem nc_1 : nc M_1 = 181 := by decide +kernel
set_option maxRecDepth 100000 in
theorem b_some : M_b.isSome = true := by decide +kernel
set_option maxRecDepth 100000 in
theorem st_nc : nc M_s = 231 := by decide +kernel
set_option maxRecDepth 100000 in
theorem st_ns : ns M_s ≤ 400000 := by decide +kernel
theorem opt_get {x : Option (Unit × Mem)} (h : x.isSome = true) : ∃ w, x = some w ∧ mOf x = w.2 := by
  cases x with
  | none => cases h
  | some w => exact ⟨w, rfl, rfl⟩
theorem get_1 : ∃ w, L_X10_init (some 0) (nw M_in 10 0 9) = some w ∧ M_1 = w.2 := opt_get a_some
theorem get_s : ∃ w, L_X11_init (some 181) (nw M_1 11 0 85) = some w ∧ M_s = w.2 := opt_get b_some
