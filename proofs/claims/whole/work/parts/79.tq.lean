-- ===== a bill: what it writes beside the machine =====
theorem frv_kg {I L : Nat → Nat → Prop} {A B : Mem} (h : FrV (fun _ _ => False) I L A B) : KG A B := ⟨h.1, h.2.1, funext fun a => funext fun j => h.2.2.1 a j (fun q => q)⟩
def WQ (q : Nat) (A A' : Mem) : Prop := FrV (fun a _ => 146 ≤ a ∧ a < 177) (fun a j => (a = 144 ∧ (j = 2 ∨ j = 4 ∨ j = 8)) ∨ (146 ≤ a ∧ a < 177) ∨ a = 179 ∨ (21 ≤ a ∧ a < 141 ∧ a % 4 = 1 ∧ (j = 1 ∨ j = 3 ∨ j = 4)) ∨ (a = q ∧ j = 8)) (fun a j => (a = 144 ∧ j = 6) ∨ a = 177 ∨ a = 178 ∨ (24 ≤ a ∧ a < 141 ∧ a % 4 = 0) ∨ (a = q ∧ j = 7) ∨ a = q + 4) A A'
def WP (v : Nat) (B B' : Mem) : Prop := FrV (fun _ _ => False) (fun a j => (a = 181 ∧ (j = 63 ∨ j = 64 ∨ j = 66 ∨ (67 ≤ j ∧ j ≤ 70))) ∨ a = 212 ∨ a = 214 ∨ a = 215 ∨ a = 217 ∨ a = 218 ∨ a = 219 ∨ a = 220 ∨ a = 221 ∨ (a = 228 ∧ j = v)) (fun a j => (a = 181 ∧ (j = 64 ∨ j = 71)) ∨ a = 216 ∨ a = 217 ∨ a = 218 ∨ a = 219 ∨ (a = 229 ∧ j = v) ∨ (a = 230 ∧ 8 * v ≤ j ∧ j < 8 * v + 8)) B B'
theorem WA.wq {q : Nat} {A A' : Mem} (h : WA A A') : WQ q A A' := FrV.mono h (fun a j z => z) (fun a j z => by omega) (fun a j z => by omega)
theorem WB2.wp {v : Nat} {B B' : Mem} (h : WB2 B B') : WP v B B' := FrV.mono h (fun a j z => z) (fun a j z => by omega) (fun a j z => by omega)
/-- the voyage's own cells -/
def Mv (q : Nat) (A A' : Mem) : Prop := FrV (fun _ _ => False) (fun a j => a = q ∧ j = 8) (fun a j => (a = q ∧ j = 7) ∨ a = q + 4) A A'
def Mw (v : Nat) (B B' : Mem) : Prop := FrV (fun _ _ => False) (fun a j => a = 228 ∧ j = v) (fun a j => (a = 229 ∧ j = v) ∨ (a = 230 ∧ 8 * v ≤ j ∧ j < 8 * v + 8)) B B'
theorem Mv.wq {q : Nat} {A A' : Mem} (h : Mv q A A') : WQ q A A' := FrV.mono h (fun a j z => z.elim) (fun a j z => by omega) (fun a j z => by omega)
theorem Mw.wp {v : Nat} {B B' : Mem} (h : Mw v B B') : WP v B B' := FrV.mono h (fun a j z => z) (fun a j z => by omega) (fun a j z => by omega)
/-- the voyage lies apart from the classes' sheets -/
def Apt (A : Mem) (q : Nat) : Prop := 231 ≤ q ∧ ∀ y s, y < 30 → gr A (21 + 4 * y) 0 = some s → q + 5 ≤ s ∨ s + 10 ≤ q
theorem Apt.wq {A A' : Mem} {q : Nat} (h : Apt A q) (g : WQ q A A') : Apt A' q := ⟨h.1, fun y s hy hs => h.2 y s hy (by rw [g.2.2.1 (21 + 4 * y) 0 (by omega)] at hs; exact hs)⟩
theorem mi_v {L q : Nat} {A A' B : Mem} (m : Mi L A B) (ha : Apt A q) (g : Mv q A A') : Mi L A' B := by
  obtain ⟨m1, m2, m3, m4, m5, m6, n, m7, m8, m9, m10⟩ := m
  have q1 := ha.1
  have sm : ∀ a, a < q ∨ q + 5 ≤ a → Sm a A A' := fun a h => FrV.sm g (fun j z => z) (fun j z => by omega) (fun j z => by omega)
  have kT : KpT A A' := ⟨fun y hy => by rw [(sm (21 + 4 * y) (by omega)).r], fun y s hy hs a a1 a2 => sm a (by have := ha.2 y s hy hs; omega)⟩
  have kM : ∀ y, y < 30 → gi A' (22 + 4 * y) = gi A (22 + 4 * y) ∧ gl A' (23 + 4 * y) = gl A (23 + 4 * y) := fun y hy => ⟨(sm _ (by omega)).i, (sm _ (by omega)).j⟩
  refine ⟨m1.kg (frv_kg g), m2, fun y hy => ?_, cnA_cg m4 kT kM, cnB_cg m5 kT kM rfl rfl rfl rfl, fun y hy => ?_, n, m7, by rw [(sm 144 (by omega)).i]; exact m8, m9, by rw [(sm 179 (by omega)).i]; exact m10⟩
  · rw [kT.1 y hy]
    exact shr_cg (m3 y hy) (fun s hs => kT.2 y s hy hs) (Nat.le_of_eq (FrV.nc g).symm) (fun _ _ _ => Sm.rf)
  · unfold Dy1
    rw [(sm (21 + 4 * y) (by omega)).i, (sm (21 + 4 * y) (by omega)).r, (sm (24 + 4 * y) (by omega)).j]; exact m6 y hy
theorem mi_w {L v : Nat} {A B B' : Mem} (m : Mi L A B) (g : Mw v B B') : Mi L A B' := by
  obtain ⟨m1, m2, m3, m4, m5, m6, n, m7, m8, m9, m10⟩ := m
  have sm : ∀ a, a < 228 → Sm a B B' := fun a h => FrV.sm g (fun j z => z) (fun j z => by omega) (fun j z => by omega)
  have e181 := (sm 181 (by omega)).i
  have kT : KpT A A := ⟨fun y hy => rfl, fun y s hy hs a ha hb => Sm.rf⟩
  refine ⟨m1, ⟨m2.1.kg (frv_kg g), m2.2.cg (by rw [e181]) (by rw [e181])⟩, fun y hy => ?_, m4, cnB_cg m5 kT (fun _ _ => ⟨rfl, rfl⟩) (by rw [e181]) (by rw [e181]) (sm 217 (by omega)).i (sm 218 (by omega)).j, fun y hy => ?_, n, by rw [nst_eq (sm 212 (by omega)).i]; exact m7, m8, by rw [e181]; exact m9, by rw [(sm 220 (by omega)).i]; exact m10⟩
  · exact shr_cg (m3 y hy) (fun s hs _ _ _ => Sm.rf) (Nat.le_refl _) (fun a a1 a2 => sm a (by omega))
  · unfold Dy1
    rw [(sm 212 (by omega)).i, (sm 214 (by omega)).i, (sm 215 (by omega)).i, (sm 216 (by omega)).j]; exact m6 y hy
