-- ===== the start: what the constructors leave =====
def M_a : Option (Unit × Mem) := L_X10_init (some 0) (nw M_in 10 0 9)
def M_1 : Mem := match M_a with
  | some w => w.2
  | none => M_in
def M_b : Option (Unit × Mem) := L_X11_init (some 181) (nw M_1 11 0 85)
def M_s : Mem := match M_b with
  | some w => w.2
  | none => M_in
set_option maxRecDepth 100000 in
theorem a_some : M_a.isSome = true := by decide +kernel
set_option maxRecDepth 100000 in
theorem nc_1 : nc M_1 = 181 := by decide +kernel
set_option maxRecDepth 100000 in
theorem b_some : M_b.isSome = true := by decide +kernel
set_option maxRecDepth 100000 in
theorem st_nc : nc M_s = 231 := by decide +kernel
set_option maxRecDepth 100000 in
theorem st_ns : ns M_s ≤ 400000 := by decide +kernel
theorem opt_get {α : Type} {x : Option α} (h : x.isSome = true) : ∃ w, x = some w := by
  cases x with
  | none => cases h
  | some w => exact ⟨w, rfl⟩
