-- ===== a start, in both: its beginning =====
/-- the class's memory once a frame is open -/
def opA (M : Mem) (D Y s pc sp : Nat) (st : Int32) : Mem := si (si (si (si (si (sr (si M (146 + D) 0 (ni Y)) (146 + D) 1 (some s)) (146 + D) 2 (ni pc)) (146 + D) 3 (ni sp)) (146 + D) 4 0) (146 + D) 5 st) 144 2 (ni (D + 1))
section Op
variable {M : Mem} {D Y s pc sp : Nat} {st : Int32}
theorem open_eq (h2 : gi M 144 2 = ni D) (h4 : gi M 144 4 = ni sp) (hD : D < 31) (hs : st = 0 ∨ st = 1) : S_X3_open (ni Y) (some s) (ni pc) st M = some ((), opA M D Y s pc sp st) := by
  unfold S_X3_open opA
  have e4 : gi (si (sr (si M (146 + D) 0 (ni Y)) (146 + D) 1 (some s)) (146 + D) 2 (ni pc)) 144 4 = ni sp := by
    rw [gi_ne (by omega), gi_sr, gi_ne (by omega)]; exact h4
  have e2 : gi (si (si (si (si (sr (si M (146 + D) 0 (ni Y)) (146 + D) 1 (some s)) (146 + D) 2 (ni pc)) (146 + D) 3 (ni sp)) (146 + D) 4 0) (146 + D) 5 st) 144 2 = ni D := by
    rw [gi_ne (by omega), gi_ne (by omega), gi_ne (by omega), gi_ne (by omega), gi_sr, gi_ne (by omega)]; exact h2
  rw [h2, if_pos (show ni D < 31 from (ni_lt (b := 31) (by omega) (by omega)).mpr hD), gdT ((ni_inb (by omega)).mpr hD), gdT hs]
  simp only [show (ni D).toNatClampNeg = D from ni_tn (by omega)]
  rw [e4, e2, show ni D + 1 = ni (D + 1) from ni_add D 1]
theorem opA_fr (hD : D < 31) : FrAt (opA M D Y s pc sp st) D Y s pc sp 0 st := by
  unfold opA FrAt
  rw [gi_ne (show 146 + D ≠ 144 by omega)]
  refine ⟨?_, ?_, ?_, ?_, ?_, si_eq⟩
  · rw [si_ff' (by omega), si_ff' (by omega), si_ff' (by omega), si_ff' (by omega), gi_sr, si_eq]
  · rw [gr_si, gr_si, gr_si, gr_si, gr_si, gr_sr, if_pos ⟨rfl, rfl⟩]
  · rw [si_ff' (by omega), si_ff' (by omega), si_ff' (by omega), si_eq]
  · rw [si_ff' (by omega), si_ff' (by omega), si_eq]
  · rw [si_ff' (by omega), si_eq]; rfl
theorem opA_pa (hD : D < 31) : PA M (opA M D Y s pc sp st) := by
  unfold opA
  exact ((((((frv_si (by omega)).tr (frv_sr (by omega))).tr (frv_si (by omega))).tr (frv_si (by omega))).tr (frv_si (by omega))).tr (frv_si (by omega))).tr (frv_si (by omega))
theorem opA_fa {b : Nat} (hD : D < 31) : FA D b M (opA M D Y s pc sp st) := by
  unfold opA
  exact ((((((frv_si (by omega)).tr (frv_sr (by omega))).tr (frv_si (by omega))).tr (frv_si (by omega))).tr (frv_si (by omega))).tr (frv_si (by omega))).tr (frv_si (by omega))
theorem opA_2 : gi (opA M D Y s pc sp st) 144 2 = ni (D + 1) := by unfold opA; exact si_eq
theorem opA_4 (hD : D < 31) : gi (opA M D Y s pc sp st) 144 4 = gi M 144 4 := by
  unfold opA
  rw [si_ff' (by omega), gi_ne (by omega), gi_ne (by omega), gi_ne (by omega), gi_ne (by omega), gi_sr, gi_ne (by omega)]
theorem opA_gl : gl (opA M D Y s pc sp st) = gl M := rfl
theorem dm_start {A : Mem} {n : Nat} (hY : Y < 30) (hg : gr A (21 + 4 * Y) 0 = some s) (h1 : gi A (21 + 4 * Y) 1 = 1) (hn : gi A 144 8 = ni n) (hnb : n < 1000000) (h2 : gi A 144 2 = ni D) (h4 : gi A 144 4 = ni sp) (hD : D < 31) : S_X3_demand (ni Y) A = some (-1, opA (bgA A Y n) D Y s 0 sp 1) := by
  unfold S_X3_demand
  rw [if_neg (ni_n0 (by omega)), if_neg (show ¬ (30 : Int32) ≤ ni Y from fun e => by have := (ni_le (a := 30) (by omega) (by omega)).mp e; omega), gdT ((ni_inb (by omega)).mpr hY), gdT ((ni_inb (by omega)).mpr hY)]
  simp only [show (ni Y).toNatClampNeg = Y from ni_tn (by omega)]
  rw [if_pos (by rw [hg]; simp), h1, if_pos (by decide), if_pos rfl, gi_ne (show 144 ≠ 21 + 4 * Y by omega), hn]
  have key : ∀ M' : Mem, gi M' 144 8 = ni n → gi M' 144 2 = ni D → gi M' 144 4 = ni sp → gr M' (21 + 4 * Y) 0 = some s → SJ_X3_demand_86 (ni Y) Y M' = some (-1, opA (si M' 144 8 (ni (n + 1))) D Y s 0 sp 1) := by
    intro M' k1 k2 k3 k4
    unfold SJ_X3_demand_86
    rw [k1, show ni n + 1 = ni (n + 1) from ni_add n 1, gr_si, k4]
    have := open_eq (M := si M' 144 8 (ni (n + 1))) (Y := Y) (s := s) (pc := 0) (st := 1) ((si_ff' (by omega)).trans k2) ((si_ff' (by omega)).trans k3) hD (Or.inr rfl)
    have this : S_X3_open (ni Y) (some s) 0 1 (si M' 144 8 (ni (n + 1))) = _ := this
    rw [this, bS]
  unfold bgA
  by_cases e : n < 300
  · rw [if_neg (show ¬ (300 : Int32) ≤ ni n from fun e' => by have := (ni_le (a := 300) (by omega) (by omega)).mp e'; omega), gdT ((ni_inb (by omega)).mpr e), ni_tn (by omega), if_pos e]
    refine key _ ?_ ?_ ?_ hg
    · rw [gi_ne (by omega), gi_ne (by omega)]; exact hn
    · rw [gi_ne (by omega), gi_ne (by omega)]; exact h2
    · rw [gi_ne (by omega), gi_ne (by omega)]; exact h4
  · rw [if_pos (show (300 : Int32) ≤ ni n from (ni_le (a := 300) (by omega) (by omega)).mpr (by omega)), if_neg e]
    refine key _ ?_ ?_ ?_ hg
    · rw [gi_ne (by omega)]; exact hn
    · rw [gi_ne (by omega)]; exact h2
    · rw [gi_ne (by omega)]; exact h4
end Op
theorem nd_start {rS : Int32 → Mem → Option (Int32 × Mem)} {B : Mem} {Y n : Nat} (hY : Y < 30) (h194 : gi B 194 (30 + Y) = 1) (h1 : gi B 212 Y = 1) (hn : gi B 181 66 = ni n) (hnb : n < 1000000) : SB_X11_needs rS (ni Y) B = if gi B 195 (30 + Y) < 0 then SJ_X11_needs_122 rS (ni Y) 0 (bgB B Y n) else (rS (gi B 195 (30 + Y)) (bgB B Y n)).bind fun w2 => SJ_X11_needs_122 rS (ni Y) w2.1 w2.2 := by
  unfold SB_X11_needs
  rw [show (30 : Int32) + ni Y = ni (30 + Y) from ni_add 30 Y, gdT ((ni_inb (by omega)).mpr (by omega))]
  simp only [show (ni (30 + Y)).toNatClampNeg = 30 + Y from ni_tn (by omega), show (ni Y).toNatClampNeg = Y from ni_tn (by omega)]
  have i30 : inb (ni Y) 30 := (ni_inb (by omega)).mpr hY
  rw [h194, if_pos (by decide), gdT i30, h1, if_neg (by decide), gdT i30, if_pos (by decide), gdT i30, if_pos (by decide), gdT i30, gi_ne (show 181 ≠ 212 by omega), hn]
  have key : ∀ M' : Mem, gi M' 181 66 = ni n → gi M' 195 = gi B 195 → SJ_X11_needs_83 rS (ni Y) M' = if gi B 195 (30 + Y) < 0 then SJ_X11_needs_122 rS (ni Y) 0 (si M' 181 66 (ni (n + 1))) else (rS (gi B 195 (30 + Y)) (si M' 181 66 (ni (n + 1)))).bind fun w2 => SJ_X11_needs_122 rS (ni Y) w2.1 w2.2 := by
    intro M' k1 k2
    unfold SJ_X11_needs_83
    rw [show (30 : Int32) + ni Y = ni (30 + Y) from ni_add 30 Y, gdT ((ni_inb (by omega)).mpr (by omega)), gdT ((ni_inb (by omega)).mpr (by omega))]
    simp only [show (ni (30 + Y)).toNatClampNeg = 30 + Y from ni_tn (by omega)]
    rw [k1, show ni n + 1 = ni (n + 1) from ni_add n 1, gi_ne (show 195 ≠ 181 by omega), k2]
  unfold bgB
  by_cases e : n < 300
  · rw [if_neg (show ¬ (300 : Int32) ≤ ni n from fun e' => by have := (ni_le (a := 300) (by omega) (by omega)).mp e'; omega), gdT ((ni_inb (by omega)).mpr e), ni_tn (by omega), if_pos e, show (1700 : Int32) + ni Y = ni (1700 + Y) from ni_add 1700 Y]
    refine key _ ?_ ?_
    · rw [gi_ne (by omega), gi_ne (by omega)]; exact hn
    · rw [gi_ne (by omega), gi_ne (by omega)]
  · rw [if_pos (show (300 : Int32) ≤ ni n from (ni_le (a := 300) (by omega) (by omega)).mpr (by omega)), if_neg e]
    refine key _ ?_ ?_
    · rw [gi_ne (by omega)]; exact hn
    · rw [gi_ne (by omega)]
