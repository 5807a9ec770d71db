-- ===== all years of issue(), in both =====
def cr (p : Nat → Bool) : Nat → Nat → Nat
  | 0, _ => 0
  | j + 1, y => (if p y then 1 else 0) + cr p j (y + 1)
theorem cr_s {p : Nat → Bool} {j y : Nat} : cr p (j + 1) y = (if p y then 1 else 0) + cr p j (y + 1) := rfl
theorem cr_cg {p q : Nat → Bool} : ∀ {j y : Nat}, (∀ x, y ≤ x → x < y + j → p x = q x) → cr p j y = cr q j y := by
  intro j
  induction j with
  | zero => intro y _; rfl
  | succ j ih => intro y h; rw [cr_s, cr_s, h y (by omega) (by omega), ih (fun x h1 h2 => h x (by omega) (by omega))]
theorem cr_le {p : Nat → Bool} : ∀ {j y : Nat}, cr p j y ≤ j := by
  intro j
  induction j with
  | zero => intro y; exact Nat.le_refl _
  | succ j ih =>
    intro y
    have := ih (y := y + 1)
    rw [cr_s]
    split <;> omega
theorem RvE.trans {U V W : RV} (h : RvE U V) (g : RvE V W) : RvE U W := by
  obtain ⟨⟨h1, h2, h3⟩, h4, h5, h6, h7, h8, h9, h10⟩ := h
  obtain ⟨⟨g1, g2, g3⟩, g4, g5, g6, g7, g8, g9, g10⟩ := g
  exact ⟨⟨g1.trans h1, g2.trans h2, g3.trans h3⟩, fun j hj => ⟨(g4 j hj).1.trans (h4 j hj).1, (g4 j hj).2.1.trans (h4 j hj).2.1, (g4 j hj).2.2.trans (h4 j hj).2.2⟩, fun j hj => ⟨(g5 j hj).1.trans (h5 j hj).1, (g5 j hj).2.1.trans (h5 j hj).2.1, (g5 j hj).2.2.trans (h5 j hj).2.2⟩, g6.trans h6, fun j hj => ⟨(g7 j hj).1.trans (h7 j hj).1, (g7 j hj).2.trans (h7 j hj).2⟩, g8.trans h8, fun j hj => ⟨(g9 j hj).1.trans (h9 j hj).1, (g9 j hj).2.trans (h9 j hj).2⟩, g10.trans h10⟩
theorem rve_fr {S : Nat → Nat → Prop} {B B' : Mem} {x : Nat} (f : FrW S B B') (h : ∀ a i, Slt x a i → ¬ S a i) : RvE (svR B x) (svR B' x) := by
  have e : ∀ a i, Slt x a i → gi B' a i = gi B a i ∧ gl B' a i = gl B a i := fun a i q => f.2 a i (h a i q)
  exact rve_of ⟨(e 195 x (by unfold Slt; omega)).1, (e 196 x (by unfold Slt; omega)).1, (e 207 x (by unfold Slt; omega)).1, (e 203 x (by unfold Slt; omega)).1, (e 197 x (by unfold Slt; omega)).1, (e 200 x (by unfold Slt; omega)).1⟩ (fun j hj => ⟨(e 208 _ (by unfold Slt; omega)).1, (e 209 _ (by unfold Slt; omega)).2, (e 210 _ (by unfold Slt; omega)).1⟩) (fun j hj => ⟨(e 204 _ (by unfold Slt; omega)).1, (e 205 _ (by unfold Slt; omega)).1, (e 206 _ (by unfold Slt; omega)).1⟩) (fun j hj => ⟨(e 198 _ (by unfold Slt; omega)).2, (e 199 _ (by unfold Slt; omega)).1⟩) (fun j hj => ⟨(e 201 _ (by unfold Slt; omega)).2, (e 202 _ (by unfold Slt; omega)).1⟩)
/-- the class of year x as it was made, in the reference -/
def IsP (x : Nat) (B B' : Mem) : Prop := gi B' 212 x = gi B 194 x ∧ gi B' 213 x = (if gi B 194 x = 0 then 0 else gi B 181 59) ∧ gi B' 214 x = 0 ∧ gi B' 215 x = 0 ∧ (∀ i, i < 72 → gl B' 216 (72 * x + i) = 0) ∧ gi B' 194 (30 + x) = gi B 194 x ∧ (gi B 194 x = 1 → (gi B' 203 (30 + x) = gi B 203 x ∧ gi B' 197 (30 + x) = gi B 197 x ∧ gi B' 200 (30 + x) = gi B 200 x) ∧ RvE (svR B x) (svR B' (30 + x)))
def IsU (T : Int32) (y a i : Nat) : Prop := ∃ x, y ≤ x ∧ x < 30 ∧ ((a = 211 ∧ i = x) ∨ (bt T x = true ∧ IsS x a i))
theorem isU_no {T : Int32} {y a i x : Nat} (hx : x < y) (h : IsS x a i) : ¬ IsU T y a i := by
  rintro ⟨x', h1, h2, h3 | ⟨-, h3⟩⟩ <;> unfold IsS Slt at * <;> omega
theorem slt_no {T : Int32} {y a i x : Nat} (hx : x < 30) (h : Slt x a i) : ¬ IsU T y a i := by
  rintro ⟨x', h1, h2, h3 | ⟨-, h3⟩⟩
  · unfold Slt at h; omega
  · unfold IsS at h3; unfold Slt at h h3; omega
theorem is_lp {T : Int32} : ∀ {j y F v : Nat} {B : Mem}, y + j = 30 → j < F → v + j < 1000 → (∀ x, x < 30 → gi B 194 x = 0 ∨ gi B 194 x = 1) → ∃ B', SJ_X11_issue_103 F T (ni v) (ni y) B = some (ni (v + cr (fun x => bt T x && decide (gi B 194 x = 1)) j y), B') ∧ FrW (IsU T y) B B' ∧ (∀ x, y ≤ x → x < 30 → gi B' 211 x = 0) ∧ (∀ x, y ≤ x → x < 30 → bt T x = true → IsP x B B') := by
  intro j
  induction j with
  | zero =>
    intro y F v B hy hF hv _
    obtain ⟨F, rfl⟩ : ∃ u, F = u + 1 := ⟨F - 1, by omega⟩
    rw [SJ_X11_issue_103]; dsimp only
    rw [if_pos (show (30 : Int32) ≤ ni y from (ni_le (a := 30) (by omega) (by omega)).mpr (by omega))]
    exact ⟨B, rfl, FrW.rf, fun x h1 h2 => by omega, fun x h1 h2 => by omega⟩
  | succ j ih =>
    intro y F v B hy hF hv h01
    obtain ⟨F, rfl⟩ : ∃ u, F = u + 1 := ⟨F - 1, by omega⟩
    rw [SJ_X11_issue_103]; dsimp only
    rw [if_neg (show ¬ (30 : Int32) ≤ ni y from fun e => by have := (ni_le (a := 30) (by omega) (by omega)).mp e; omega), gdT ((ni_inb (by omega)).mpr (by omega)), gdT ((ni_inb (by omega)).mpr (by omega)), bt_sshr (by omega), ni_tn (by omega), nar0]
    -- this year
    obtain ⟨B1, w, a1, a2, a3, a4, a5⟩ : ∃ B1 w, (if ¬ (if bt T y then (1 : Int32) else 0) = 0 then
        (if (gi (si B 211 y 0) 194 y) = 0 then (SJ_X11_issue_146 (SJ_X11_issue_103 F) T (ni v) (ni y) (ni y) (0 : Int32) (si B 211 y 0)) else (SJ_X11_issue_146 (SJ_X11_issue_103 F) T (ni v) (ni y) (ni y) (1 : Int32) (si B 211 y 0)))
        else (SJ_X11_issue_243 (SJ_X11_issue_103 F) T (ni v) (ni y) (si B 211 y 0))) = SJ_X11_issue_103 F T (ni (v + w)) (ni (y + 1)) B1 ∧ w = (if bt T y && decide (gi B 194 y = 1) then 1 else 0) ∧ FrW (fun a i => (a = 211 ∧ i = y) ∨ (bt T y = true ∧ IsS y a i)) B B1 ∧ gi B1 211 y = 0 ∧ (bt T y = true → IsP y B B1) := by
      cases hb : bt T y
      · refine ⟨si B 211 y 0, 0, ?_, ?_, ?_, si_eq, fun q => by cases q⟩
        · rw [if_neg (by simp)]; unfold SJ_X11_issue_243; rw [show ni y + 1 = ni (y + 1) from ni_add y 1]; rfl
        · simp
        · exact ⟨kg_si, fun a i h => ⟨by rw [gi_si, if_neg (fun e => h (Or.inl e))], rfl⟩⟩
      · obtain ⟨B1, b1, b2, b3, b4, b5, b6, b7, b8, b9, b10⟩ := is_y (k := SJ_X11_issue_103 F) (T := T) (v := ni v) (y := y) (B := B) (by omega) (h01 y (by omega))
        rw [if_pos (show ¬ (if true = true then (1 : Int32) else 0) = 0 by simp), b1, show ni y + 1 = ni (y + 1) from ni_add y 1]
        refine ⟨B1, (if gi B 194 y = 1 then 1 else 0), ?_, ?_, ⟨b2.1, fun a i h => b2.2 a i (fun q => h (Or.inr ⟨rfl, q⟩))⟩, b3, fun _ => ⟨b4, b5, b6, b7, b8, b9, fun q => ⟨⟨(b10 q).1.2.2.2.1, (b10 q).1.2.2.2.2.1, (b10 q).1.2.2.2.2.2⟩, (b10 q).2⟩⟩⟩
        · rcases h01 y (by omega) with q | q
          · rw [q, Int32.add_zero, if_neg (by decide)]; rfl
          · rw [q, if_pos rfl]; exact congrArg (fun z => SJ_X11_issue_103 F T z (ni (y + 1)) B1) (ni_add v 1)
        · rcases h01 y (by omega) with q | q <;> rw [q] <;> decide
    rw [a1]
    have e194 : ∀ x, x < 30 → gi B1 194 x = gi B 194 x := fun x hx => (a3.2 194 x (by rintro (q | ⟨-, q⟩) <;> unfold IsS Slt at * <;> omega)).1
    have w1 : w ≤ 1 := by rw [a2]; split <;> omega
    obtain ⟨B', g1, g2, g3, g4⟩ := ih (y := y + 1) (F := F) (v := v + w) (B := B1) (by omega) (by omega) (by omega) (fun x hx => by rw [e194 x hx]; exact h01 x hx)
    refine ⟨B', ?_, ?_, ?_, ?_⟩
    · rw [g1, cr_s, ← a2, cr_cg (p := fun x => bt T x && decide (gi B1 194 x = 1)) (q := fun x => bt T x && decide (gi B 194 x = 1)) (fun x h1 h2 => by rw [e194 x (by omega)]), Nat.add_assoc]
    · refine a3.tr g2 (fun a i u => ⟨?_, ?_⟩)
      · exact fun q => u ⟨y, Nat.le_refl _, by omega, q⟩
      · rintro ⟨x, h1, h2, h3⟩; exact u ⟨x, by omega, h2, h3⟩
    · intro x h1 h2
      by_cases e : x = y
      · subst e
        rw [(g2.2 211 x (isU_no (x := x) (by omega) (by unfold IsS; omega))).1]; exact a4
      · exact g3 x (by omega) h2
    · intro x h1 h2 h3
      by_cases e : x = y
      · subst e
        have f : ∀ a i, IsS x a i → gi B' a i = gi B1 a i ∧ gl B' a i = gl B1 a i := fun a i q => g2.2 a i (isU_no (by omega) q)
        obtain ⟨p1, p2, p3, p4, p5, p6, p7⟩ := a5 h3
        refine ⟨(f 212 x (by unfold IsS; omega)).1.trans p1, (f 213 x (by unfold IsS; omega)).1.trans p2, (f 214 x (by unfold IsS; omega)).1.trans p3, (f 215 x (by unfold IsS; omega)).1.trans p4, fun i hi => (f 216 _ (by unfold IsS; omega)).2.trans (p5 i hi), (f 194 _ (by unfold IsS Slt; omega)).1.trans p6, fun q => ?_⟩
        refine ⟨⟨(f 203 _ (by unfold IsS Slt; omega)).1.trans (p7 q).1.1, (f 197 _ (by unfold IsS Slt; omega)).1.trans (p7 q).1.2.1, (f 200 _ (by unfold IsS Slt; omega)).1.trans (p7 q).1.2.2⟩, (p7 q).2.trans (rve_fr g2 (fun a i z => isU_no (x := x) (by omega) (Or.inr (Or.inr z))))⟩
      · obtain ⟨p1, p2, p3, p4, p5, p6, p7⟩ := g4 x (by omega) h2 h3
        have s : ∀ a i, Slt x a i → ¬ ((a = 211 ∧ i = y) ∨ (bt T y = true ∧ IsS y a i)) := by
          rintro a i z (q | ⟨-, q⟩) <;> unfold IsS at * <;> unfold Slt at * <;> omega
        have e59 : gi B1 181 59 = gi B 181 59 := (a3.2 181 59 (by rintro (q | ⟨-, q⟩) <;> unfold IsS Slt at * <;> omega)).1
        have f : ∀ a i, Slt x a i → gi B1 a i = gi B a i ∧ gl B1 a i = gl B a i := fun a i z => a3.2 a i (s a i z)
        rw [e194 x h2] at p1 p2 p6 p7
        rw [e59] at p2
        refine ⟨p1, p2, p3, p4, p5, p6, fun q => ⟨⟨(p7 q).1.1.trans (f 203 x (by unfold Slt; omega)).1, (p7 q).1.2.1.trans (f 197 x (by unfold Slt; omega)).1, (p7 q).1.2.2.trans (f 200 x (by unfold Slt; omega)).1⟩, (rve_fr a3 s).trans (p7 q).2⟩⟩
-- the class
theorem fl_I {q l : Nat} (hl2 : l < 1000) : ∀ {j i F : Nat} {M : Mem}, kd M q = 20 → ln M q = l → i + j = l → j < F → ∃ M', J_J7_fill_53178_5 F (some q) 0 (ni i) (ni l) M = some ((), M') ∧ KG M M' ∧ (∀ a, a ≠ q → gi M' a = gi M a) ∧ gl M' = gl M ∧ (∀ k, k < i → gi M' q k = gi M q k) ∧ ∀ k, i ≤ k → k < l → gi M' q k = 0 := by
  intro j
  induction j with
  | zero =>
    intro i F M hk hl hi hF
    obtain ⟨F, rfl⟩ : ∃ u, F = u + 1 := ⟨F - 1, by omega⟩
    rw [J_J7_fill_53178_5]; dsimp only
    rw [if_pos ((ni_le (by omega) (by omega)).mpr (by omega))]
    exact ⟨M, rfl, KG.rf, fun _ _ => rfl, rfl, fun _ _ => rfl, fun k h1 h2 => by omega⟩
  | succ j ih =>
    intro i F M hk hl hi hF
    obtain ⟨F, rfl⟩ : ∃ u, F = u + 1 := ⟨F - 1, by omega⟩
    rw [J_J7_fill_53178_5]; dsimp only
    rw [if_neg (fun e => by have := (ni_le (by omega) (by omega)).mp e; omega), bi_uI hk hl, gdT ((ni_inb (by omega)).mpr (by omega)), ni_tn (by omega), show ni i + 1 = ni (i + 1) from ni_add i 1]
    obtain ⟨M', g1, g2, g3, g4, g5, g6⟩ := ih (i := i + 1) (F := F) (M := si M q i 0) hk hl (by omega) (by omega)
    refine ⟨M', g1, kg_si.trans g2, fun a ha => (g3 a ha).trans (gi_ne ha), g4, fun k hk => (g5 k (by omega)).trans (si_ff' (by omega)), fun k h1 h2 => ?_⟩
    by_cases e : k = i
    · subst e; rw [g5 k (by omega), si_eq]
    · exact g6 k (by omega) h2
theorem fl_L {q l : Nat} (hl2 : l < 1000) : ∀ {j i F : Nat} {M : Mem}, kd M q = 21 → ln M q = l → i + j = l → j < F → ∃ M', J_J7_fill_d0a16_6 F (some q) 0 (ni i) (ni l) M = some ((), M') ∧ KG M M' ∧ (∀ a, a ≠ q → gl M' a = gl M a) ∧ gi M' = gi M ∧ (∀ k, k < i → gl M' q k = gl M q k) ∧ ∀ k, i ≤ k → k < l → gl M' q k = 0 := by
  intro j
  induction j with
  | zero =>
    intro i F M hk hl hi hF
    obtain ⟨F, rfl⟩ : ∃ u, F = u + 1 := ⟨F - 1, by omega⟩
    rw [J_J7_fill_d0a16_6]; dsimp only
    rw [if_pos ((ni_le (by omega) (by omega)).mpr (by omega))]
    exact ⟨M, rfl, KG.rf, fun _ _ => rfl, rfl, fun _ _ => rfl, fun k h1 h2 => by omega⟩
  | succ j ih =>
    intro i F M hk hl hi hF
    obtain ⟨F, rfl⟩ : ∃ u, F = u + 1 := ⟨F - 1, by omega⟩
    rw [J_J7_fill_d0a16_6]; dsimp only
    rw [if_neg (fun e => by have := (ni_le (by omega) (by omega)).mp e; omega), bi_uL hk hl, gdT ((ni_inb (by omega)).mpr (by omega)), ni_tn (by omega), show ni i + 1 = ni (i + 1) from ni_add i 1]
    obtain ⟨M', g1, g2, g3, g4, g5, g6⟩ := ih (i := i + 1) (F := F) (M := sl M q i 0) hk hl (by omega) (by omega)
    refine ⟨M', g1, kg_sl.trans g2, fun a ha => (g3 a ha).trans (gl_ne ha), g4, fun k hk => (g5 k (by omega)).trans (by rw [gl_sl, if_neg (by omega)]), fun k h1 h2 => ?_⟩
    by_cases e : k = i
    · subst e; rw [g5 k (by omega), sl_eq]
    · exact g6 k (by omega) h2
/-- the class of year y as it was made -/
def MkP (y : Nat) (r : Option Nat) (e : Int32) (M' : Mem) : Prop := gr M' (21 + 4 * y) 0 = r ∧ gi M' (21 + 4 * y) 1 = (if r = none then 0 else 1) ∧ gi M' (21 + 4 * y) 2 = (if r = none then 0 else e) ∧ gi M' (21 + 4 * y) 3 = 0 ∧ gi M' (21 + 4 * y) 4 = 0 ∧ (∀ k, k < 8 → gi M' (22 + 4 * y) k = 0) ∧ ∀ k, k < 72 → gl M' (24 + 4 * y) k = 0
theorem make_ok {M : Mem} {y : Nat} {r : Option Nat} {e : Int32} (hF : FSC M) (hy : y < 30) : ∃ M', S_X8_make y r e M = some ((), M') ∧ nc M' = nc M ∧ ns M' = ns M ∧ FSC M' ∧ (∀ a, a ≠ 21 + 4 * y → a ≠ 22 + 4 * y → a ≠ 24 + 4 * y → Sm a M M') ∧ MkP y r e M' := by
  have k0 := hF.kdT21 hy
  have main : ∀ (p d : Int32), ∃ M', SJ_X8_make_28 y y d (si (sr M (21 + 4 * y) 0 r) (21 + 4 * y) 1 p) = some ((), M') ∧ nc M' = nc M ∧ ns M' = ns M ∧ FSC M' ∧ (∀ a, a ≠ 21 + 4 * y → a ≠ 22 + 4 * y → a ≠ 24 + 4 * y → Sm a M M') ∧ gr M' (21 + 4 * y) 0 = r ∧ gi M' (21 + 4 * y) 1 = p ∧ gi M' (21 + 4 * y) 2 = d ∧ gi M' (21 + 4 * y) 3 = 0 ∧ gi M' (21 + 4 * y) 4 = 0 ∧ (∀ k, k < 8 → gi M' (22 + 4 * y) k = 0) ∧ ∀ k, k < 72 → gl M' (24 + 4 * y) k = 0 := by
    intro p d
    have f1 : FSC (sr M (21 + 4 * y) 0 r) := hF.kc (kc_srk k0 (by decide))
    have kg1 : KG (sr M (21 + 4 * y) 0 r) (si (si (si (si (sr M (21 + 4 * y) 0 r) (21 + 4 * y) 1 p) (21 + 4 * y) 2 d) (21 + 4 * y) 3 0) (21 + 4 * y) 4 0) := ((kg_si.trans kg_si).trans kg_si).trans kg_si
    have s1 : ∀ a, a ≠ 21 + 4 * y → Sm a M (si (si (si (si (sr M (21 + 4 * y) 0 r) (21 + 4 * y) 1 p) (21 + 4 * y) 2 d) (21 + 4 * y) 3 0) (21 + 4 * y) 4 0) := fun a ha => ((((sm_sr ha).trans (sm_si ha)).trans (sm_si ha)).trans (sm_si ha)).trans (sm_si ha)
    have v1 : gi (si (si (si (si (sr M (21 + 4 * y) 0 r) (21 + 4 * y) 1 p) (21 + 4 * y) 2 d) (21 + 4 * y) 3 0) (21 + 4 * y) 4 0) (21 + 4 * y) 1 = p ∧ gi (si (si (si (si (sr M (21 + 4 * y) 0 r) (21 + 4 * y) 1 p) (21 + 4 * y) 2 d) (21 + 4 * y) 3 0) (21 + 4 * y) 4 0) (21 + 4 * y) 2 = d ∧ gi (si (si (si (si (sr M (21 + 4 * y) 0 r) (21 + 4 * y) 1 p) (21 + 4 * y) 2 d) (21 + 4 * y) 3 0) (21 + 4 * y) 4 0) (21 + 4 * y) 3 = 0 ∧ gi (si (si (si (si (sr M (21 + 4 * y) 0 r) (21 + 4 * y) 1 p) (21 + 4 * y) 2 d) (21 + 4 * y) 3 0) (21 + 4 * y) 4 0) (21 + 4 * y) 4 = 0 := by
      refine ⟨?_, ?_, ?_, si_eq⟩
      · rw [si_ff' (by omega), si_ff' (by omega), si_ff' (by omega), si_eq]
      · rw [si_ff' (by omega), si_ff' (by omega), si_eq]
      · rw [si_ff' (by omega), si_eq]
    have r1 : gr (si (si (si (si (sr M (21 + 4 * y) 0 r) (21 + 4 * y) 1 p) (21 + 4 * y) 2 d) (21 + 4 * y) 3 0) (21 + 4 * y) 4 0) (21 + 4 * y) 0 = r := by
      show gr (sr M (21 + 4 * y) 0 r) (21 + 4 * y) 0 = r
      rw [gr_sr, if_pos ⟨rfl, rfl⟩]
    unfold SJ_X8_make_28
    generalize si (si (si (si (sr M (21 + 4 * y) 0 r) (21 + 4 * y) 1 p) (21 + 4 * y) 2 d) (21 + 4 * y) 3 0) (21 + 4 * y) 4 0 = M1 at *
    have g1 : FSC M1 := f1.kg kg1
    obtain ⟨M2, a1, a2, a3, a4, a5, a6⟩ := fl_I (q := 22 + 4 * y) (l := 8) (by omega) (j := 8) (i := 0) (F := FU) (M := M1) (g1.kdT22 hy) (g1.lnT22 hy) (by omega) (by have : FU = 4000000 := rfl; omega)
    have g2 : FSC M2 := g1.kg a2
    obtain ⟨M3, b1, b2, b3, b4, b5, b6⟩ := fl_L (q := 24 + 4 * y) (l := 72) (by omega) (j := 72) (i := 0) (F := FU) (M := M2) (g2.kdT24 hy) (g2.lnT24 hy) (by omega) (by have : FU = 4000000 := rfl; omega)
    have a1' : L_J7_fill_53178 (some (22 + 4 * y)) 0 M1 = some ((), M2) := by
      unfold L_J7_fill_53178
      rw [bi_aN (g1.kdT22 hy) (by omega) (by omega) (g1.lnT22 hy)]; exact a1
    have b1' : L_J7_fill_d0a16 (some (24 + 4 * y)) 0 M2 = some ((), M3) := by
      unfold L_J7_fill_d0a16
      rw [bi_aN (g2.kdT24 hy) (by omega) (by omega) (g2.lnT24 hy)]; exact b1
    rw [a1', bS]; dsimp only
    rw [b1', bS]
    have kg3 : KG M1 M3 := a2.trans b2
    refine ⟨M3, rfl, kg3.nc.trans kg1.nc, kg3.ns.trans kg1.ns, g2.kg b2, fun a q1 q2 q3 => (s1 a q1).trans (kg3.sm (by rw [b4]; exact a3 a q2) ((b3 a q3).trans (by rw [a4]))), ?_, ?_, ?_, ?_, ?_, ?_, ?_⟩
    · have : gr M3 = gr M1 := kg3.2.2
      rw [this]; exact r1
    · rw [b4, a3 _ (by omega)]; exact v1.1
    · rw [b4, a3 _ (by omega)]; exact v1.2.1
    · rw [b4, a3 _ (by omega)]; exact v1.2.2.1
    · rw [b4, a3 _ (by omega)]; exact v1.2.2.2
    · intro k hk; rw [b4]; exact a6 k (by omega) hk
    · exact fun k hk => b6 k (by omega) hk
  unfold S_X8_make SJ_X8_make_15 MkP
  by_cases hr : r = none
  · rw [if_neg (fun q => q hr), if_neg (fun q => q hr), if_pos hr, if_pos hr]; exact main 0 0
  · rw [if_pos hr, if_pos hr, if_neg hr, if_neg hr]; exact main 1 e
/-- the cells of classes that are made -/
def Mkc (T : Int32) (y a : Nat) : Prop := ∃ x, y ≤ x ∧ x < 30 ∧ bt T x = true ∧ (a = 21 + 4 * x ∨ a = 22 + 4 * x ∨ a = 24 + 4 * x)
theorem rn_lp {T : Int32} : ∀ {j y F v : Nat} {A : Mem}, FSC A → y + j = 30 → j < F → v + j < 1000 → ∃ A', SJ_X1_renew_19 F T (ni v) (ni y) A = some (ni (v + cr (fun x => bt T x && (gr A 19 x).isSome) j y), A') ∧ FSC A' ∧ nc A' = nc A ∧ ns A' = ns A ∧ (∀ a, a ≠ 18 → ¬ Mkc T y a → Sm a A A') ∧ (gi A' 18 2 = 0 ∧ (∀ j, j ≠ 2 → gi A' 18 j = gi A 18 j) ∧ gl A' 18 = gl A 18 ∧ gr A' 18 = gr A 18 ∧ kd A' 18 = kd A 18 ∧ ln A' 18 = ln A 18) ∧ (∀ x, y ≤ x → x < 30 → bt T x = true → MkP x (gr A 19 x) (gi A 18 3) A') := by
  intro j
  induction j with
  | zero =>
    intro y F v A hF hy hF' hv
    obtain ⟨F, rfl⟩ : ∃ u, F = u + 1 := ⟨F - 1, by omega⟩
    rw [SJ_X1_renew_19]; dsimp only
    rw [if_pos (show (30 : Int32) ≤ ni y from (ni_le (a := 30) (by omega) (by omega)).mpr (by omega))]
    exact ⟨_, rfl, hF.kg kg_si, rfl, rfl, fun a ha _ => sm_si ha, ⟨si_eq, fun j hj => si_ff' hj, rfl, rfl, rfl, rfl⟩, fun x h1 h2 => by omega⟩
  | succ j ih =>
    intro y F v A hF hy hF' hv
    obtain ⟨F, rfl⟩ : ∃ u, F = u + 1 := ⟨F - 1, by omega⟩
    rw [SJ_X1_renew_19]; dsimp only
    rw [if_neg (show ¬ (30 : Int32) ≤ ni y from fun e => by have := (ni_le (a := 30) (by omega) (by omega)).mp e; omega), bt_ushr (by omega)]
    cases hb : bt T y
    · rw [if_pos (by decide)]
      unfold SJ_X1_renew_70
      rw [show ni y + 1 = ni (y + 1) from ni_add y 1]
      obtain ⟨A', g1, g2, g3, g4, g5, g6, g7⟩ := ih (y := y + 1) (F := F) (v := v) hF (by omega) (by omega) (by omega)
      refine ⟨A', ?_, g2, g3, g4, fun a h1 h2 => g5 a h1 (fun ⟨x, q1, q2, q3⟩ => h2 ⟨x, by omega, q2, q3⟩), g6, fun x h1 h2 h3 => ?_⟩
      · rw [g1, cr_s, hb]; simp
      · by_cases e : x = y
        · subst e; rw [hb] at h3; cases h3
        · exact g7 x (by omega) h2 h3
    · rw [if_neg (by decide), gdT ((ni_inb (by omega)).mpr (by omega)), gdT ((ni_inb (by omega)).mpr (by omega))]
      simp only [show (ni y).toNatClampNeg = y from ni_tn (by omega)]
      obtain ⟨M, a1, a2, a3, a4, a5, a6⟩ := make_ok (M := A) (y := y) (r := gr A 19 y) (e := gi A 18 3) hF (by omega)
      rw [a1, bS]; dsimp only
      have e19 : gr M 19 = gr A 19 := (a5 19 (by omega) (by omega) (by omega)).r
      have e18 := a5 18 (by omega) (by omega) (by omega)
      rw [gdT ((ni_inb (by omega)).mpr (by omega)), e19]
      unfold SJ_X1_renew_68 SJ_X1_renew_70
      obtain ⟨A', g1, g2, g3, g4, g5, g6, g7⟩ := ih (y := y + 1) (F := F) (v := v + (if (gr A 19 y).isSome then 1 else 0)) a4 (by omega) (by omega) (by split <;> omega)
      have eg : (if ¬ gr A 19 y = none then SJ_X1_renew_19 F T (ni v + 1) (ni y + 1) M else SJ_X1_renew_19 F T (ni v + 0) (ni y + 1) M) = SJ_X1_renew_19 F T (ni (v + (if (gr A 19 y).isSome then 1 else 0))) (ni (y + 1)) M := by
        rw [show ni y + 1 = ni (y + 1) from ni_add y 1]
        cases hr : gr A 19 y with
        | none => rw [if_neg (fun q => q rfl), Int32.add_zero]; rfl
        | some s => rw [if_pos (by simp), show ni v + 1 = ni (v + 1) from ni_add v 1]; rfl
      rw [eg]
      refine ⟨A', ?_, g2, g3.trans a2, g4.trans a3, fun a h1 h2 => ?_, ⟨g6.1, fun j hj => (g6.2.1 j hj).trans (by rw [e18.i]), g6.2.2.1.trans e18.j, g6.2.2.2.1.trans e18.r, g6.2.2.2.2.1.trans e18.k, g6.2.2.2.2.2.trans e18.l⟩, fun x h1 h2 h3 => ?_⟩
      · rw [g1, cr_s, hb, e19, Bool.true_and, Nat.add_assoc]
      · exact (a5 a (fun q => h2 ⟨y, by omega, by omega, hb, Or.inl q⟩) (fun q => h2 ⟨y, by omega, by omega, hb, Or.inr (Or.inl q)⟩) (fun q => h2 ⟨y, by omega, by omega, hb, Or.inr (Or.inr q)⟩)).trans (g5 a h1 (fun ⟨x, q1, q2, q3⟩ => h2 ⟨x, by omega, q2, q3⟩))
      · by_cases e : x = y
        · subst e
          have f : ∀ a, a = 21 + 4 * x ∨ a = 22 + 4 * x ∨ a = 24 + 4 * x → Sm a M A' := fun a ha => g5 a (by omega) (by rintro ⟨x', q1, q2, q3, q4⟩; omega)
          have s1 := f (21 + 4 * x) (by omega)
          have s2 := f (22 + 4 * x) (by omega)
          have s3 := f (24 + 4 * x) (by omega)
          unfold MkP at a6 ⊢
          rw [s1.r, s1.i, s2.i, s3.j]; exact a6
        · have q := g7 x (by omega) h2 h3
          rw [e19, e18.i] at q; exact q
