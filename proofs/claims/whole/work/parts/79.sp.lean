-- ===== the machine: what it leaves =====
/-- kinds and lengths stay; references, ints, longs change only where told -/
def FrV (R I L : Nat → Nat → Prop) (A A' : Mem) : Prop := A'.1 = A.1 ∧ A'.2.1 = A.2.1 ∧ (∀ a j, ¬ R a j → gr A' a j = gr A a j) ∧ (∀ a j, ¬ I a j → gi A' a j = gi A a j) ∧ ∀ a j, ¬ L a j → gl A' a j = gl A a j
section Fv
variable {R I L R' I' L' : Nat → Nat → Prop} {A B C : Mem}
theorem FrV.rf : FrV R I L A A := ⟨rfl, rfl, fun _ _ _ => rfl, fun _ _ _ => rfl, fun _ _ _ => rfl⟩
theorem FrV.tr (h : FrV R I L A B) (g : FrV R I L B C) : FrV R I L A C := ⟨g.1.trans h.1, g.2.1.trans h.2.1, fun a j q => (g.2.2.1 a j q).trans (h.2.2.1 a j q), fun a j q => (g.2.2.2.1 a j q).trans (h.2.2.2.1 a j q), fun a j q => (g.2.2.2.2 a j q).trans (h.2.2.2.2 a j q)⟩
theorem FrV.mono (h : FrV R I L A B) (hR : ∀ a j, R a j → R' a j) (hI : ∀ a j, I a j → I' a j) (hL : ∀ a j, L a j → L' a j) : FrV R' I' L' A B := ⟨h.1, h.2.1, fun a j q => h.2.2.1 a j fun z => q (hR a j z), fun a j q => h.2.2.2.1 a j fun z => q (hI a j z), fun a j q => h.2.2.2.2 a j fun z => q (hL a j z)⟩
theorem frv_si {a j : Nat} {x : Int32} (h : I a j) : FrV R I L A (si A a j x) := ⟨rfl, rfl, fun _ _ _ => rfl, fun p q z => by rw [gi_si, if_neg]; rintro ⟨rfl, rfl⟩; exact z h, fun _ _ _ => rfl⟩
theorem frv_sl {a j : Nat} {x : Int64} (h : L a j) : FrV R I L A (sl A a j x) := ⟨rfl, rfl, fun _ _ _ => rfl, fun _ _ _ => rfl, fun p q z => by rw [gl_sl, if_neg]; rintro ⟨rfl, rfl⟩; exact z h⟩
theorem frv_sr {a j : Nat} {x : Option Nat} (h : R a j) : FrV R I L A (sr A a j x) := ⟨rfl, rfl, fun p q z => by rw [gr_sr, if_neg]; rintro ⟨rfl, rfl⟩; exact z h, fun _ _ _ => rfl, fun _ _ _ => rfl⟩
theorem FrV.sm (h : FrV R I L A B) {a : Nat} (hR : ∀ j, ¬ R a j) (hI : ∀ j, ¬ I a j) (hL : ∀ j, ¬ L a j) : Sm a A B := ⟨congrArg (fun f => (f a).1) h.2.1, congrArg (fun f => (f a).2) h.2.1, funext fun j => h.2.2.2.1 a j (hI j), funext fun j => h.2.2.2.2 a j (hL j), funext fun j => h.2.2.1 a j (hR j)⟩
theorem FrV.kd (h : FrV R I L A B) (a : Nat) : kd B a = kd A a := congrArg (fun f => (f a).1) h.2.1
theorem FrV.ln (h : FrV R I L A B) (a : Nat) : ln B a = ln A a := congrArg (fun f => (f a).2) h.2.1
theorem FrV.nc (h : FrV R I L A B) : nc B = nc A := congrArg Prod.fst h.1
theorem frw_v {S : Nat → Nat → Prop} (h : FrW S A B) (hI : ∀ a j, S a j → I a j) (hL : ∀ a j, S a j → L a j) : FrV R I L A B := ⟨h.1.1, h.1.2.1, fun a j _ => congrArg (fun f => f a j) h.1.2.2, fun a j q => (h.2 a j fun z => q (hI a j z)).1, fun a j q => (h.2 a j fun z => q (hL a j z)).2⟩
end Fv
/-- all that the class's machine may change -/
def WA (A A' : Mem) : Prop := FrV (fun a _ => 146 ≤ a ∧ a < 177) (fun a j => (a = 144 ∧ (j = 2 ∨ j = 4 ∨ j = 8)) ∨ (146 ≤ a ∧ a < 177) ∨ a = 179 ∨ (21 ≤ a ∧ a < 141 ∧ a % 4 = 1 ∧ (j = 1 ∨ j = 3 ∨ j = 4))) (fun a j => (a = 144 ∧ j = 6) ∨ a = 177 ∨ a = 178 ∨ (24 ≤ a ∧ a < 141 ∧ a % 4 = 0)) A A'
/-- frames from d on and the pile from sp on -/
def FA (d sp : Nat) (A A' : Mem) : Prop := FrV (fun a _ => 146 + d ≤ a ∧ a < 177) (fun a j => (a = 144 ∧ (j = 2 ∨ j = 4 ∨ j = 8)) ∨ (146 + d ≤ a ∧ a < 177) ∨ a = 179 ∨ (21 ≤ a ∧ a < 141 ∧ a % 4 = 1 ∧ (j = 1 ∨ j = 3 ∨ j = 4))) (fun a j => (a = 144 ∧ j = 6) ∨ (a = 177 ∧ sp ≤ j) ∨ (24 ≤ a ∧ a < 141 ∧ a % 4 = 0)) A A'
/-- what is the class's machine's own -/
def PA (A A' : Mem) : Prop := FrV (fun a _ => 146 ≤ a ∧ a < 177) (fun a j => (a = 144 ∧ (j = 2 ∨ j = 4)) ∨ (146 ≤ a ∧ a < 177)) (fun a j => (a = 144 ∧ j = 6) ∨ a = 177 ∨ a = 178) A A'
def WB2 (B B' : Mem) : Prop := FrV (fun _ _ => False) (fun a j => (a = 181 ∧ (j = 63 ∨ j = 64 ∨ j = 66 ∨ (67 ≤ j ∧ j ≤ 70))) ∨ a = 212 ∨ a = 214 ∨ a = 215 ∨ a = 217 ∨ a = 218 ∨ a = 219 ∨ a = 220 ∨ a = 221) (fun a j => (a = 181 ∧ (j = 64 ∨ j = 71)) ∨ a = 216 ∨ a = 217 ∨ a = 218 ∨ a = 219) B B'
def FB (sp : Nat) (B B' : Mem) : Prop := FrV (fun _ _ => False) (fun a j => (a = 181 ∧ (j = 63 ∨ j = 64 ∨ j = 66)) ∨ a = 212 ∨ a = 214 ∨ a = 215 ∨ a = 217 ∨ a = 218 ∨ a = 219 ∨ a = 220 ∨ a = 221) (fun a j => (a = 181 ∧ (j = 64 ∨ j = 71)) ∨ a = 216 ∨ a = 217 ∨ a = 218 ∨ (a = 219 ∧ sp ≤ j)) B B'
def PB (B B' : Mem) : Prop := FrV (fun _ _ => False) (fun a j => (a = 181 ∧ (j = 63 ∨ (67 ≤ j ∧ j ≤ 70))) ∨ a = 221) (fun a j => (a = 181 ∧ j = 71) ∨ a = 219) B B'
theorem FA.q {d sp : Nat} {A A' : Mem} (h : FA d sp A A') : WA A A' := FrV.mono h (fun a j q => by omega) (fun a j q => by omega) (fun a j q => by omega)
theorem PA.q {A A' : Mem} (h : PA A A') : WA A A' := FrV.mono h (fun a j q => by omega) (fun a j q => by omega) (fun a j q => by omega)
theorem FB.q {sp : Nat} {B B' : Mem} (h : FB sp B B') : WB2 B B' := FrV.mono h (fun a j q => q) (fun a j q => by omega) (fun a j q => by omega)
theorem PB.q {B B' : Mem} (h : PB B B') : WB2 B B' := FrV.mono h (fun a j q => q) (fun a j q => by omega) (fun a j q => by omega)
theorem FA.mono {d sp d' sp' : Nat} {A A' : Mem} (h : FA d sp A A') (hd : d' ≤ d) (hs : sp' ≤ sp) : FA d' sp' A A' := FrV.mono h (fun a j q => by omega) (fun a j q => by omega) (fun a j q => by omega)
theorem FB.mono {sp sp' : Nat} {A A' : Mem} (h : FB sp A A') (hs : sp' ≤ sp) : FB sp' A A' := FrV.mono h (fun a j q => q) (fun a j q => by omega) (fun a j q => by omega)
theorem fxL_fr : ∀ q ∈ fxL, ¬ (146 ≤ q.1 ∧ q.1 < 177) := by decide
theorem fsc_q {A A' : Mem} (h : FSC A) (g : WA A A') : FSC A' := by
  obtain ⟨h1, h2, h3, h4, h5⟩ := h
  refine ⟨by rw [FrV.nc g]; exact h1, fun a ha hk => ?_, fun q hq => ?_, fun n hn => ?_, fun n hn => ?_⟩
  · rw [FrV.kd g, FrV.ln g]; exact h2 a ha hk
  · rw [g.2.2.1 q.1 q.2.1 (fxL_fr q hq)]; exact h3 q hq
  · rw [g.2.2.1 20 n (by omega), g.2.2.1 (21 + 4 * n) 5 (by omega), g.2.2.1 (21 + 4 * n) 6 (by omega), g.2.2.1 (21 + 4 * n) 7 (by omega), FrV.kd g, FrV.kd g, FrV.kd g, FrV.kd g, FrV.ln g, FrV.ln g, FrV.ln g]
    exact h4 n hn
  · rw [g.2.2.1 145 n (by omega), FrV.kd g]; exact h5 n hn
theorem fsr_q {B B' : Mem} (h : FSR B) (g : WB2 B B') : FSR B' := by
  obtain ⟨h1, h2, h3⟩ := h
  refine ⟨fun a a1 a2 => ?_, fun a a1 a2 => ?_, fun j => ?_⟩
  · rw [FrV.kd g]; exact h1 a a1 a2
  · rw [FrV.ln g]; exact h2 a a1 a2
  · rw [g.2.2.1 181 j (fun z => z)]; exact h3 j
theorem WA.sm {A A' : Mem} (g : WA A A') {a : Nat} (h : a < 21 ∨ (a < 141 ∧ (a % 4 = 2 ∨ a % 4 = 3)) ∨ (141 ≤ a ∧ a < 144) ∨ a = 145 ∨ 180 ≤ a) : Sm a A A' := FrV.sm g (fun j q => by omega) (fun j q => by omega) (fun j q => by omega)
theorem WB2.sm {B B' : Mem} (g : WB2 B B') {a : Nat} (h : a < 181 ∨ (181 < a ∧ a < 212) ∨ a = 213 ∨ 221 < a) : Sm a B B' := FrV.sm g (fun j q => q) (fun j q => by omega) (fun j q => by omega)
theorem WA.kpT {A A' B : Mem} (g : WA A A') (hS : SlR A B) : KpT A A' := ⟨fun y hy => g.2.2.1 (21 + 4 * y) 0 (by omega), fun y s hy hs a ha hb => g.sm (by have := shr_ge (hS y hy) hs; omega)⟩
theorem slr_q {A A' B B' : Mem} (h : SlR A B) (g : WA A A') (k : WB2 B B') : SlR A' B' := fun y hy => by
  have t := g.kpT h
  rw [t.1 y hy]
  exact shr_cg (h y hy) (fun s hs => t.2 y s hy hs) (Nat.le_of_eq (FrV.nc g).symm) (fun a a1 a2 => k.sm (by omega))
theorem cnA_q {A A' B : Mem} (h : CnA A) (hS : SlR A B) (g : WA A A') : CnA A' := cnA_cg h (g.kpT hS) fun y hy => ⟨(g.sm (by omega)).i, (g.sm (by omega)).j⟩
theorem cnB_q {A A' B B' : Mem} (h : CnB A B) (hS : SlR A B) (g : WA A A') (k : WB2 B B') (e1 : gi B' 181 64 = gi B 181 64) (e2 : gi B' 217 = gi B 217) (e3 : gl B' 218 = gl B 218) : CnB A' B' := cnB_cg h (g.kpT hS) (fun y hy => ⟨(g.sm (by omega)).i, (g.sm (by omega)).j⟩) e1 (k.2.2.2.1 181 59 (by omega)) e2 e3
-- ===== what is the same in both while a call works =====
/-- how many classes are not started -/
def nst (B : Mem) : Nat := cnt (fun y => decide (gi B 212 y = 1)) 30
def Dy1 (A B : Mem) (y : Nat) : Prop := (gi A (21 + 4 * y) 1 = gi B 212 y ∧ gi A (21 + 4 * y) 3 = gi B 214 y ∧ gi A (21 + 4 * y) 4 = gi B 215 y) ∧ (∀ k, k < 72 → gl A (24 + 4 * y) k = gl B 216 (72 * y + k)) ∧
  (gr A (21 + 4 * y) 0 ≠ none → (gi B 212 y = 1 ∧ gi B 214 y = 0) ∨ gi B 212 y = 2 ∨ gi B 212 y = 3 ∨ (gi B 212 y = 4 ∧ gi B 214 y = 0))
def StR (L : Nat) (A B : Mem) : Prop := ∃ n, n + nst B ≤ L ∧ gi A 144 8 = ni n ∧ gi B 181 66 = ni n ∧ ∀ k, k < n → k < 300 → ∃ y, y < 30 ∧ gi A 179 k = ni y ∧ gi B 220 k = ni (1700 + y)
/-- the edition for which the reference has worked the consts -/
def E64 (B : Mem) : Prop := ∃ e, e ≤ 600 ∧ gi B 181 59 = ni e ∧ (gi B 181 64 = -1 ∨ ∃ f, f ≤ e ∧ gi B 181 64 = ni f)
theorem E64.cg {B B' : Mem} (h : E64 B) (e1 : gi B' 181 59 = gi B 181 59) (e2 : gi B' 181 64 = gi B 181 64) : E64 B' := by
  unfold E64; rw [e1, e2]; exact h
def Mi (L : Nat) (A B : Mem) : Prop := FSC A ∧ (FSR B ∧ E64 B) ∧ SlR A B ∧ CnA A ∧ CnB A B ∧ (∀ y, y < 30 → Dy1 A B y) ∧ StR L A B
/-- between a call's start and its end only classes that were not started change, and come to an end -/
def Ph (B B' : Mem) : Prop := ∀ y, y < 30 → (gi B' 212 y = gi B 212 y ∧ gi B' 214 y = gi B 214 y ∧ ∀ j, j < 3 → gi B' 221 (3 * y + j) = gi B 221 (3 * y + j)) ∨ (gi B 212 y = 1 ∧ (gi B' 212 y = 2 ∨ gi B' 212 y = 3))
theorem Ph.rf {B : Mem} : Ph B B := fun y _ => Or.inl ⟨rfl, rfl, fun _ _ => rfl⟩
theorem Ph.tr {A B C : Mem} (h : Ph A B) (g : Ph B C) : Ph A C := fun y hy => by
  rcases h y hy with ⟨h1, h2, h3⟩ | ⟨h1, h2⟩ <;> rcases g y hy with ⟨g1, g2, g3⟩ | ⟨g1, g2⟩
  · exact Or.inl ⟨g1.trans h1, g2.trans h2, fun j hj => (g3 j hj).trans (h3 j hj)⟩
  · exact Or.inr ⟨h1.symm.trans g1, g2⟩
  · exact Or.inr ⟨h1, by rw [g1]; exact h2⟩
  · exfalso; rw [g1] at h2; revert h2; decide
theorem Ph.nst {B B' : Mem} (h : Ph B B') : nst B' ≤ nst B := cnt_mono fun y hy e => by
  have e := of_decide_eq_true e
  rcases h y hy with ⟨h1, -⟩ | ⟨h1, h2⟩
  · exact decide_eq_true (h1.symm.trans e)
  · exact decide_eq_true h1
theorem nst_eq {B B' : Mem} (h : gi B' 212 = gi B 212) : nst B' = nst B := by unfold nst; rw [h]
theorem ph_pb {B B' : Mem} (h : PB B B') (e : gi B' 221 = gi B 221) : Ph B B' := fun y _ => Or.inl ⟨h.2.2.2.1 212 y (by omega), h.2.2.2.1 214 y (by omega), fun j _ => by rw [e]⟩
theorem PB.nst {B B' : Mem} (h : PB B B') : nst B' = nst B := nst_eq (funext fun y => h.2.2.2.1 212 y (by omega))
theorem mi_p {L : Nat} {A A' B B' : Mem} (h : Mi L A B) (g : PA A A') (k : PB B B') : Mi L A' B' := by
  obtain ⟨h1, h2, h3, h4, h5, h6, n, h7, h8, h9, h10⟩ := h
  refine ⟨fsc_q h1 g.q, ⟨fsr_q h2.1 k.q, h2.2.cg (k.2.2.2.1 181 59 (by omega)) (k.2.2.2.1 181 64 (by omega))⟩, slr_q h3 g.q k.q, cnA_q h4 h3 g.q, cnB_q h5 h3 g.q k.q (k.2.2.2.1 181 64 (by omega)) (funext fun j => k.2.2.2.1 217 j (by omega)) (funext fun j => k.2.2.2.2 218 j (by omega)), fun y hy => ?_, n, by rw [k.nst]; exact h7, (g.2.2.2.1 144 8 (by omega)).trans h8, (k.2.2.2.1 181 66 (by omega)).trans h9, fun i i1 i2 => ?_⟩
  · unfold Dy1
    rw [g.2.2.2.1 (21 + 4 * y) 1 (by omega), g.2.2.2.1 (21 + 4 * y) 3 (by omega), g.2.2.2.1 (21 + 4 * y) 4 (by omega), k.2.2.2.1 212 y (by omega), k.2.2.2.1 214 y (by omega), k.2.2.2.1 215 y (by omega), g.2.2.1 (21 + 4 * y) 0 (by omega)]
    refine ⟨(h6 y hy).1, fun i hi => ?_, (h6 y hy).2.2⟩
    rw [g.2.2.2.2 (24 + 4 * y) i (by omega), k.2.2.2.2 216 (72 * y + i) (by omega)]
    exact (h6 y hy).2.1 i hi
  · rw [g.2.2.2.1 179 i (by omega), k.2.2.2.1 220 i (by omega)]
    exact h10 i i1 i2
