-- ===== a const is worked out: the reference =====
def kn (B : Mem) (y k : Nat) : Option Int64 := if gi B 217 (8 * y + k) = 0 then none else some (gl B 218 (8 * y + k))
def FrP (sp : Nat) (B B' : Mem) : Prop := FrW (fun a i => a = 219 ∧ sp ≤ i) B B'
theorem FrP.trans {sp : Nat} {A B C : Mem} (h : FrP sp A B) (g : FrP sp B C) : FrP sp A C := FrW.tr h g (fun a i u => ⟨u, u⟩)
theorem FrP.mono {sp sp' : Nat} {B B' : Mem} (h : FrP sp' B B') (e : sp ≤ sp') : FrP sp B B' := ⟨h.1, fun a i u => h.2 a i (fun q => u ⟨q.1, by omega⟩)⟩
theorem frp_sl {sp i : Nat} {B : Mem} {x : Int64} (h : sp ≤ i) : FrP sp B (sl B 219 i x) := ⟨kg_sl, fun a j u => ⟨rfl, by rw [gl_sl, if_neg (fun q => u ⟨q.1, by omega⟩)]⟩⟩
theorem FrP.slr {sp : Nat} {A B B' : Mem} (f : FrP sp B B') (h : SlR A B) : SlR A B' := fun y hy => shr_cg (h y hy) (fun _ _ _ _ _ => Sm.rf) (Nat.le_refl _) (fun a a1 a2 => f.1.sm (funext fun i => (f.2 a i (by omega)).1) (funext fun i => (f.2 a i (by omega)).2))
theorem small_y {x : Int64} {M : Mem} (h : smallV x) : L_X11_isSmall x M = some (1, M) := by
  unfold L_X11_isSmall
  rw [if_neg (Int64.not_lt.mpr h.1), if_neg (Int64.not_lt.mpr h.2)]; rfl
theorem small_n {x : Int64} {M : Mem} (h : ¬ smallV x) : L_X11_isSmall x M = some (0, M) := by
  unfold L_X11_isSmall
  by_cases h1 : (1000000000000000 : Int64) < x
  · rw [if_pos h1]; rfl
  · rw [if_neg h1]
    by_cases h2 : x < (-1000000000000000 : Int64)
    · rw [if_pos h2]; rfl
    · exact absurd ⟨Int64.not_lt.mp h1, Int64.not_lt.mp h2⟩ h
def RcC (A : Mem) (f : Nat → Nat → Option Int64) (s c n h : Nat) (o : Option Int64) : Prop := ∀ N st, st.length + h ≤ 4 → evR A f s (N + n) c st = (match o with
  | none => none
  | some x => evR A f s N (c + n) (x :: st))
def RcR (B : Mem) (v1 v2 v3 : Int32) (r n h : Nat) (o : Option Int64) : Prop := ∀ F sp B', FrP 0 B B' → sp + h ≤ 3000 → (match o with
  | none => ∃ B'', SJ_X11_comesOut_39 (F + n) v1 v2 v3 (ni sp) (ni r) B' = some (0, B'') ∧ FrP sp B' B''
  | some x => ∃ B'', SJ_X11_comesOut_39 (F + n) v1 v2 v3 (ni sp) (ni r) B' = SJ_X11_comesOut_39 F v1 v2 v3 (ni (sp + 1)) (ni (r + n)) B'' ∧ FrP sp B' B'' ∧ gl B'' 219 sp = x)
section Rc
variable {A B : Mem} {f : Nat → Nat → Option Int64} {s : Nat} {v1 : Int32} {y : Nat}
/-- a piece that makes one value of st -/
theorem rcC_1 {c h : Nat} {o : Option Int64} (hl : c < ln A (s + 1)) (h20 : ¬ gi A (s + 1) c = 20) (e : ∀ st : List Int64, st.length + h ≤ 4 → ev1 A f (gi A (s + 1) c) (gl A (s + 2) c) st = (match o with
    | none => none
    | some x => some (x :: st))) : RcC A f s c 1 h o := by
  intro N st hs
  rw [evR_s hl h20, e st hs]
  cases o <;> rfl
theorem r333 {k : Int32 → Int32 → Int32 → Int32 → Int32 → Mem → Option (Int32 × Mem)} {v2 v3 : Int32} {sp r : Nat} {M : Mem} (hsp : sp < 4000) : (smallV (gl M 219 sp) → SJ_X11_comesOut_333 k v1 v2 v3 (ni (sp + 1)) (ni r) M = k v1 v2 v3 (ni (sp + 1)) (ni (r + 1)) M) ∧ (¬ smallV (gl M 219 sp) → SJ_X11_comesOut_333 k v1 v2 v3 (ni (sp + 1)) (ni r) M = some (0, M)) := by
  unfold SJ_X11_comesOut_333
  rw [show ni (sp + 1) - 1 = ni sp from (ni_sub (a := sp + 1) (b := 1) (by omega)).trans (by rw [show sp + 1 - 1 = sp by omega]), gdT ((ni_inb (by omega)).mpr hsp), ni_tn (by omega), show ni r + 1 = ni (r + 1) from ni_add r 1]
  refine ⟨fun h => ?_, fun h => ?_⟩
  · rw [small_y h, bS, if_pos (show ¬ (1 : Int32) = 0 by decide)]
  · rw [small_n h, bS, if_neg (fun q => q rfl)]
theorem hdr {y r : Nat} : ni (1200 * (30 + y)) + ni r = ni (1200 * (30 + y) + r) := ni_add _ _
section S39
variable {F r : Nat} {v4 : Int32} {M : Mem}
theorem s39_push (hy : y < 30) (hr : r < 1200) (h : gi M 208 (1200 * (30 + y) + r) = 0) : SJ_X11_comesOut_39 (F + 1) v1 (ni y) (ni (1200 * (30 + y))) v4 (ni r) M = gd (inb v4 4000) (SJ_X11_comesOut_333 (SJ_X11_comesOut_39 F) v1 (ni y) (ni (1200 * (30 + y))) (v4 + 1) (ni r) (sl M 219 v4.toNatClampNeg (gl M 209 (1200 * (30 + y) + r)))) := by
  obtain ⟨w, hw, e⟩ : ∃ w, gi M 208 (1200 * (30 + y) + r) = w ∧ w = 0 := ⟨_, rfl, h⟩
  rw [SJ_X11_comesOut_39]; dsimp only
  rw [hdr, gdT ((ni_inb (by omega)).mpr (by omega)), gdT ((ni_inb (by omega)).mpr (by omega))]
  simp only [show (ni (1200 * (30 + y) + r)).toNatClampNeg = 1200 * (30 + y) + r from ni_tn (by omega), hw]
  rw [if_neg (show ¬ w = 11 by rw [e]; decide), if_neg (show ¬ ¬ w = 0 from fun q => q e), gdT ((ni_inb (by omega)).mpr (by omega))]
theorem s39_const (hy : y < 30) (hr : r < 1200) (h : gi M 208 (1200 * (30 + y) + r) = 6) : SJ_X11_comesOut_39 (F + 1) v1 (ni y) (ni (1200 * (30 + y))) v4 (ni r) M = if 0 ≤ (gi M 210 (1200 * (30 + y) + r)) then SJ_X11_comesOut_124 (SJ_X11_comesOut_39 F) v1 (ni y) (ni (1200 * (30 + y))) v4 (ni r) (gi M 210 (1200 * (30 + y) + r)) M else SJ_X11_comesOut_124 (SJ_X11_comesOut_39 F) v1 (ni y) (ni (1200 * (30 + y))) v4 (ni r) (ni y) M := by
  obtain ⟨w, hw, e⟩ : ∃ w, gi M 208 (1200 * (30 + y) + r) = w ∧ w = 6 := ⟨_, rfl, h⟩
  rw [SJ_X11_comesOut_39]; dsimp only
  rw [hdr, gdT ((ni_inb (by omega)).mpr (by omega)), gdT ((ni_inb (by omega)).mpr (by omega))]
  simp only [show (ni (1200 * (30 + y) + r)).toNatClampNeg = 1200 * (30 + y) + r from ni_tn (by omega), hw]
  rw [if_neg (show ¬ w = 11 by rw [e]; decide), if_pos (show ¬ w = 0 by rw [e]; decide), if_neg (show ¬ ¬ w = 6 from fun q => q e), gdT ((ni_inb (by omega)).mpr (by omega)), gdT ((ni_inb (by omega)).mpr (by omega))]
theorem s39_neg (hy : y < 30) (hr : r < 1200) (h : gi M 208 (1200 * (30 + y) + r) = 8) : SJ_X11_comesOut_39 (F + 1) v1 (ni y) (ni (1200 * (30 + y))) v4 (ni r) M = gd (inb (v4 - 1) 4000) (gd (inb (v4 - 1) 4000) (SJ_X11_comesOut_333 (SJ_X11_comesOut_39 F) v1 (ni y) (ni (1200 * (30 + y))) v4 (ni r) (sl M 219 (v4 - 1).toNatClampNeg (-(gl M 219 (v4 - 1).toNatClampNeg))))) := by
  obtain ⟨w, hw, e⟩ : ∃ w, gi M 208 (1200 * (30 + y) + r) = w ∧ w = 8 := ⟨_, rfl, h⟩
  rw [SJ_X11_comesOut_39]; dsimp only
  rw [hdr, gdT ((ni_inb (by omega)).mpr (by omega)), gdT ((ni_inb (by omega)).mpr (by omega))]
  simp only [show (ni (1200 * (30 + y) + r)).toNatClampNeg = 1200 * (30 + y) + r from ni_tn (by omega), hw]
  rw [if_neg (show ¬ w = 11 by rw [e]; decide), if_pos (show ¬ w = 0 by rw [e]; decide), if_pos (show ¬ w = 6 by rw [e]; decide), if_neg (show ¬ ¬ w = 8 from fun q => q e)]
theorem s39_stop (hy : y < 30) (hr : r < 1200) (h : gi M 208 (1200 * (30 + y) + r) = 11) : SJ_X11_comesOut_39 (F + 1) v1 (ni y) (ni (1200 * (30 + y))) v4 (ni r) M = gd (inb (v4 - 1) 4000) (gd (inb v1 240) (some (1, sl M 218 v1.toNatClampNeg (gl M 219 (v4 - 1).toNatClampNeg)))) := by
  obtain ⟨w, hw, e⟩ : ∃ w, gi M 208 (1200 * (30 + y) + r) = w ∧ w = 11 := ⟨_, rfl, h⟩
  rw [SJ_X11_comesOut_39]; dsimp only
  rw [hdr, gdT ((ni_inb (by omega)).mpr (by omega)), gdT ((ni_inb (by omega)).mpr (by omega))]
  simp only [show (ni (1200 * (30 + y) + r)).toNatClampNeg = 1200 * (30 + y) + r from ni_tn (by omega), hw]
  rw [if_pos e]
end S39
theorem abs_r (b : Int64) : (if (0 : Int64) ≤ b then b else -b) = (if b < 0 then -b else b) := by
  by_cases h : b < 0
  · rw [if_pos h, if_neg (Int64.not_le.mpr h)]
  · rw [if_neg h, if_pos (Int64.not_lt.mp h)]
theorem abs_r0 {b : Int64} (h : ¬ b = 0) : ¬ (if b < 0 then -b else b) = 0 := by
  rw [← abs_eq]; exact abs_n0 h
noncomputable def smS (v : Int64) : Option Int64 := by
  classical
  exact if smallV v then some v else none
theorem smS_y {v : Int64} (h : smallV v) : smS v = some v := by unfold smS; rw [if_pos h]
theorem smS_n {v : Int64} (h : ¬ smallV v) : smS v = none := by unfold smS; rw [if_neg h]
noncomputable def pdS (x z : Int64) : Option Int64 := by
  classical
  exact if prodF x z then smS (x * z) else none
theorem pdS_y {x z : Int64} (h : prodF x z) : pdS x z = smS (x * z) := by unfold pdS; rw [if_pos h]
theorem pdS_n {x z : Int64} (h : ¬ prodF x z) : pdS x z = none := by unfold pdS; rw [if_neg h]
/-- what a sum, a difference, a product comes to -/
noncomputable def bres (w : Int32) (x z : Int64) : Option Int64 := if w = 43 then smS (x + z) else if w = 45 then smS (x - z) else pdS x z
theorem r_bin {F sp r : Nat} {w : Int32} {x z : Int64} {M : Mem} (hy : y < 30) (hr : r < 1200) (hsp : sp + 2 ≤ 3000) (hw : gi M 208 (1200 * (30 + y) + r) = w) (hw3 : w = 43 ∨ w = 45 ∨ w = 42) (hx : gl M 219 sp = x) (hz : gl M 219 (sp + 1) = z) : (match bres w x z with
    | none => ∃ M', SJ_X11_comesOut_39 (F + 1) v1 (ni y) (ni (1200 * (30 + y))) (ni (sp + 2)) (ni r) M = some (0, M') ∧ FrP sp M M'
    | some v => SJ_X11_comesOut_39 (F + 1) v1 (ni y) (ni (1200 * (30 + y))) (ni (sp + 2)) (ni r) M = SJ_X11_comesOut_39 F v1 (ni y) (ni (1200 * (30 + y))) (ni (sp + 1)) (ni (r + 1)) (sl M 219 sp v)) := by
  have e1 : ni (sp + 2) + (-1) = ni (sp + 1) := by
    rw [show (-1 : Int32) = -(ni 1) from rfl, ← Int32.sub_eq_add_neg]
    exact (ni_sub (a := sp + 2) (b := 1) (by omega)).trans (by rw [show sp + 2 - 1 = sp + 1 by omega])
  have e2 : ni (sp + 1) - 1 = ni sp := (ni_sub (a := sp + 1) (b := 1) (by omega)).trans (by rw [show sp + 1 - 1 = sp by omega])
  -- the last part: the value is laid
  have lay : ∀ v, (smallV v → SJ_X11_comesOut_332 (SJ_X11_comesOut_39 F) v1 (ni y) (ni (1200 * (30 + y))) (ni (sp + 1)) (ni r) (ni sp) v M = SJ_X11_comesOut_39 F v1 (ni y) (ni (1200 * (30 + y))) (ni (sp + 1)) (ni (r + 1)) (sl M 219 sp v)) ∧ (¬ smallV v → SJ_X11_comesOut_332 (SJ_X11_comesOut_39 F) v1 (ni y) (ni (1200 * (30 + y))) (ni (sp + 1)) (ni r) (ni sp) v M = some (0, sl M 219 sp v)) := fun v => by
    unfold SJ_X11_comesOut_332
    rw [gdT ((ni_inb (by omega)).mpr (by omega)), ni_tn (by omega)]
    have q := r333 (v1 := v1) (k := SJ_X11_comesOut_39 F) (v2 := ni y) (v3 := ni (1200 * (30 + y))) (sp := sp) (r := r) (M := sl M 219 sp v) (by omega)
    rw [sl_eq] at q; exact q
  have h289 : ∀ v, v = (if w = 43 then x + z else if w = 45 then x - z else x * z) → SJ_X11_comesOut_289 (SJ_X11_comesOut_39 F) v1 (ni y) (ni (1200 * (30 + y))) (ni (sp + 1)) (ni r) w x z M = SJ_X11_comesOut_332 (SJ_X11_comesOut_39 F) v1 (ni y) (ni (1200 * (30 + y))) (ni (sp + 1)) (ni r) (ni sp) v M := fun v hv => by
    unfold SJ_X11_comesOut_289
    rw [e2, hv]
    rcases hw3 with rfl | rfl | rfl
    · rw [if_pos (by decide), if_neg (fun q => q rfl), if_pos rfl]
    · rw [if_pos (by decide), if_pos (by decide), if_neg (by decide), if_pos rfl]
    · rw [if_neg (fun q => q rfl), if_neg (by decide), if_neg (by decide)]
  have start : SJ_X11_comesOut_39 (F + 1) v1 (ni y) (ni (1200 * (30 + y))) (ni (sp + 2)) (ni r) M = SJ_X11_comesOut_259 (SJ_X11_comesOut_39 F) v1 (ni y) (ni (1200 * (30 + y))) (ni (sp + 1)) (ni r) w x z (if z < 0 then -z else z) (if x < 0 then -x else x) M := by
    rw [SJ_X11_comesOut_39]; dsimp only
    rw [hdr, gdT ((ni_inb (by omega)).mpr (by omega)), gdT ((ni_inb (by omega)).mpr (by omega))]
    simp only [show (ni (1200 * (30 + y) + r)).toNatClampNeg = 1200 * (30 + y) + r from ni_tn (by omega), hw]
    rw [if_neg (show ¬ w = 11 by rcases hw3 with rfl | rfl | rfl <;> decide), if_pos (show ¬ w = 0 by rcases hw3 with rfl | rfl | rfl <;> decide), if_pos (show ¬ w = 6 by rcases hw3 with rfl | rfl | rfl <;> decide), if_pos (show ¬ w = 8 by rcases hw3 with rfl | rfl | rfl <;> decide)]
    rw [e1, e2, gdT ((ni_inb (by omega)).mpr (by omega)), gdT ((ni_inb (by omega)).mpr (by omega)), ni_tn (a := sp + 1) (by omega), ni_tn (a := sp) (by omega), hx, hz]
    unfold SJ_X11_comesOut_242
    rw [← abs_r z, ← abs_r x]
    by_cases z0 : (0 : Int64) ≤ z
    · rw [if_pos z0, if_pos z0]
      by_cases x0 : (0 : Int64) ≤ x
      · rw [if_pos x0, if_pos x0]
      · rw [if_neg x0, if_neg x0]
    · rw [if_neg z0, if_neg z0]
      by_cases x0 : (0 : Int64) ≤ x
      · rw [if_pos x0, if_pos x0]
      · rw [if_neg x0, if_neg x0]
  rw [start]
  unfold SJ_X11_comesOut_259
  have fin : ∀ v, v = (if w = 43 then x + z else if w = 45 then x - z else x * z) → (match smS v with
      | none => ∃ M', SJ_X11_comesOut_289 (SJ_X11_comesOut_39 F) v1 (ni y) (ni (1200 * (30 + y))) (ni (sp + 1)) (ni r) w x z M = some (0, M') ∧ FrP sp M M'
      | some v => SJ_X11_comesOut_289 (SJ_X11_comesOut_39 F) v1 (ni y) (ni (1200 * (30 + y))) (ni (sp + 1)) (ni r) w x z M = SJ_X11_comesOut_39 F v1 (ni y) (ni (1200 * (30 + y))) (ni (sp + 1)) (ni (r + 1)) (sl M 219 sp v)) := fun v hv => by
    have q := h289 v hv
    by_cases hsm : smallV v
    · rw [smS_y hsm]; exact q.trans ((lay _).1 hsm)
    · rw [smS_n hsm]; exact ⟨_, q.trans ((lay _).2 hsm), frp_sl (Nat.le_refl _)⟩
  by_cases w42 : w = 42
  · have b42 : bres w x z = pdS x z := by
      unfold bres; rw [if_neg (by rw [w42]; decide), if_neg (by rw [w42]; decide)]
    have fv := fin (x * z) (by rw [if_neg (by rw [w42]; decide), if_neg (by rw [w42]; decide)])
    rw [if_neg (fun q => q w42), b42]
    by_cases x0 : x = 0
    · rw [if_pos x0, pdS_y (Or.inl x0)]; exact fv
    · rw [if_neg x0, if_neg (abs_r0 x0)]
      by_cases le : (if z < 0 then -z else z) ≤ (1000000000000000 : Int64) / (if x < 0 then -x else x)
      · rw [if_pos le, pdS_y (Or.inr le)]; exact fv
      · rw [if_neg le, pdS_n (show ¬ prodF x z from fun q => by
          rcases q with q | q
          · exact x0 q
          · exact le q)]
        exact ⟨M, rfl, FrW.rf⟩
  · rw [if_pos w42]
    rcases hw3 with rfl | rfl | rfl
    · have b : bres 43 x z = smS (x + z) := by unfold bres; rw [if_pos rfl]
      rw [b]; exact fin (x + z) (by rw [if_pos rfl])
    · have b : bres 45 x z = smS (x - z) := by unfold bres; rw [if_neg (by decide), if_pos rfl]
      rw [b]; exact fin (x - z) (by rw [if_neg (by decide), if_pos rfl])
    · exact absurd rfl w42
theorem c_bin {op w : Int32} {arg x z : Int64} {st : List Int64} (hb : Bop true op w) (hs : st.length < 4) : ev1 A f op arg (z :: x :: st) = (match bres w x z with
    | none => none
    | some v => some (v :: st)) ∧ ¬ op = 20 ∧ (w = 43 ∨ w = 45 ∨ w = 42) := by
  unfold ev1 bres
  rcases hb with ⟨rfl, rfl⟩ | ⟨rfl, rfl⟩ | ⟨rfl, rfl⟩ | ⟨h, -⟩
  · refine ⟨?_, by decide, Or.inl rfl⟩
    rw [if_neg (by decide), if_neg (by decide)]; dsimp only
    rw [if_neg (by decide), if_pos rfl, if_pos rfl]
    by_cases hsm : smallV (x + z)
    · rw [smS_y hsm, putV_y ⟨hs, hsm⟩]
    · rw [smS_n hsm, putV_n (fun q => hsm q.2)]
  · refine ⟨?_, by decide, Or.inr (Or.inl rfl)⟩
    rw [if_neg (by decide), if_neg (by decide)]; dsimp only
    rw [if_neg (by decide), if_neg (by decide), if_pos rfl, if_neg (by decide), if_pos rfl]
    by_cases hsm : smallV (x - z)
    · rw [smS_y hsm, putV_y ⟨hs, hsm⟩]
    · rw [smS_n hsm, putV_n (fun q => hsm q.2)]
  · refine ⟨?_, by decide, Or.inr (Or.inr rfl)⟩
    rw [if_neg (by decide), if_neg (by decide)]; dsimp only
    rw [if_neg (by decide), if_neg (by decide), if_neg (by decide), if_pos rfl, if_neg (show ¬ (42 : Int32) = 43 by decide), if_neg (show ¬ (42 : Int32) = 45 by decide)]
    by_cases hp : prodF x z
    · rw [if_pos hp, pdS_y hp]
      by_cases hsm : smallV (x * z)
      · rw [smS_y hsm, putV_y ⟨hs, hsm⟩]
      · rw [smS_n hsm, putV_n (fun q => hsm q.2)]
    · rw [if_neg hp, pdS_n hp]
  · cases h
theorem small_nl {m : Nat} (h : m < 1000000000) : smallV (nl m) := by
  refine ⟨(nl_le (b := 1000000000000000) (by omega) (by omega)).mpr (by omega), ?_⟩
  rw [Int64.le_iff_toInt_le, nl_toInt (by omega)]
  have : (-1000000000000000 : Int64).toInt = -1000000000000000 := by decide
  omega
theorem rc_all (hy : y < 30) (hS : SlR A B) {own : Nat} (ho : own = y) {ld : Int32} {c r n h : Nat} (e : E2 true 0 own ld (gi A (s + 1)) (gl A (s + 2)) (fun k => gi B 208 (1200 * (30 + y) + k)) (fun k => gl B 209 (1200 * (30 + y) + k)) (fun k => gi B 210 (1200 * (30 + y) + k)) c r n h) (hc : c + n ≤ ln A (s + 1)) (hr : r + n ≤ 1200) :
    ∃ o, RcC A (kn B) s c n h o ∧ RcR B v1 (ni y) (ni (1200 * (30 + y))) r n h o := by
  subst ho
  have row : ∀ {sp : Nat} {B' : Mem}, FrP sp B B' → ∀ j, gi B' 208 j = gi B 208 j ∧ gl B' 209 j = gl B 209 j ∧ gi B' 210 j = gi B 210 j := fun f j => ⟨(f.2 208 j (by omega)).1, (f.2 209 j (by omega)).2, (f.2 210 j (by omega)).1⟩
  refine (e (fun c r n h => 1 ≤ h ∧ (c + n ≤ ln A (s + 1) → r + n ≤ 1200 → ∃ o, RcC A (kn B) s c n h o ∧ RcR B v1 (ni own) (ni (1200 * (30 + own))) r n h o)) ⟨?_, ?_, ?_, ?_, ?_, ?_, ?_, ?_⟩).2 hc hr
  · -- a number
    intro c r h m h1 h2 h3 h4 h5 h6
    refine ⟨h1, fun b1 b2 => ⟨some (nl m), rcC_1 (by omega) (by rw [h3]; decide) (fun st hs => ?_), fun F sp B' fp hsp => ?_⟩⟩
    · rw [h3, h4]
      unfold ev1
      rw [if_neg (by decide), if_pos rfl, putV_y ⟨by omega, small_nl h2⟩]
    · have w0 : gi B' 208 (1200 * (30 + own) + r) = 0 := (row fp _).1.trans h5
      have w1 : gl B' 209 (1200 * (30 + own) + r) = nl m := (row fp _).2.1.trans h6
      dsimp only
      rw [s39_push hy (by omega) w0, w1, gdT ((ni_inb (by omega)).mpr (by omega)), ni_tn (a := sp) (by omega), show ni sp + 1 = ni (sp + 1) from ni_add sp 1]
      have q := r333 (v1 := v1) (k := SJ_X11_comesOut_39 F) (v2 := ni own) (v3 := ni (1200 * (30 + own))) (sp := sp) (r := r) (M := sl B' 219 sp (nl m)) (by omega)
      rw [sl_eq] at q
      exact ⟨_, q.1 (small_nl h2), frp_sl (Nat.le_refl _), sl_eq⟩
  · intro c r h h1 h2; cases h2
  · intro c r h j h1 h2; cases h2
  · -- a const
    intro c r h h1 h2 h3 h4
    refine ⟨h1, fun b1 b2 => ?_⟩
    obtain ⟨Y, nm, y1, y2, y3, y4, y5, y6⟩ := h4
    have e1 : ∀ st, ev1 A (kn B) 3 (nl (Y * 1099511627776 + nm)) st = (match fdC A 0 (nl nm) 30 Y with
        | none => none
        | some q => match kn B q.1 q.2 with
          | none => none
          | some x => putV x st) := by
      intro st
      unfold ev1
      rw [if_pos rfl, unp_nm y1 y2, unp_s y1 y2, show tn (ni Y) = Y from ni_tn (by omega)]
      cases fdC A 0 (nl nm) 30 Y with
      | none => rfl
      | some q => dsimp only; cases kn B q.1 q.2 <;> rfl
    -- the reference comes to the look-up
    have go : ∀ F sp B', FrP 0 B B' → sp + h ≤ 3000 → SJ_X11_comesOut_39 (F + 1) v1 (ni own) (ni (1200 * (30 + own))) (ni sp) (ni r) B' = SJ_X11_comesOut_124 (SJ_X11_comesOut_39 F) v1 (ni own) (ni (1200 * (30 + own))) (ni sp) (ni r) (ni Y) B' := by
      intro F sp B' fp hsp
      have w0 : gi B' 208 (1200 * (30 + own) + r) = 6 := (row fp _).1.trans h3
      have w2 : gi B' 210 (1200 * (30 + own) + r) = if Y = own then -1 else ni Y := (row fp _).2.2.trans y5
      rw [s39_const hy (by omega) w0, w2]
      by_cases eY : Y = own
      · rw [if_pos eY, if_neg (by decide), eY]
      · rw [if_neg eY, if_pos (show (0 : Int32) ≤ ni Y from (ni_le (a := 0) (by omega) (by omega)).mpr (by omega))]
    have look : ∀ F sp B', FrP 0 B B' → SJ_X11_comesOut_124 (SJ_X11_comesOut_39 F) v1 (ni own) (ni (1200 * (30 + own))) (ni sp) (ni r) (ni Y) B' = (if fdI (fdC A 0 (nl nm) 30 Y) < 0 then some (0, B') else gd (inb (fdI (fdC A 0 (nl nm) 30 Y)) 240) (if ¬ (gi B' 217 (fdI (fdC A 0 (nl nm) 30 Y)).toNatClampNeg) = 0 then (gd (inb (fdI (fdC A 0 (nl nm) 30 Y)) 240) (gd (inb (ni sp) 4000) (SJ_X11_comesOut_333 (SJ_X11_comesOut_39 F) v1 (ni own) (ni (1200 * (30 + own))) (ni sp + 1) (ni r) (sl B' 219 (ni sp).toNatClampNeg (gl B' 218 (fdI (fdC A 0 (nl nm) 30 Y)).toNatClampNeg))))) else (some ((0 : Int32), B')))) := by
      intro F sp B' fp
      have w1 : gl B' 209 (1200 * (30 + own) + r) = nl nm := (row fp _).2.1.trans y4
      unfold SJ_X11_comesOut_124
      rw [hdr, gdT ((ni_inb (by omega)).mpr (by omega)), ni_tn (a := 1200 * (30 + own) + r) (by omega), w1, constOf_eq (fp.slr hS) y1, bS]
    cases hq : fdC A 0 (nl nm) 30 Y with
    | none =>
      refine ⟨none, rcC_1 (by omega) (by rw [h2]; decide) (fun st hs => by rw [h2, y3, e1, hq]), fun F sp B' fp hsp => ?_⟩
      dsimp only
      rw [go F sp B' fp hsp, look F sp B' fp, hq, if_pos (show fdI none < 0 by decide)]
      exact ⟨B', rfl, FrW.rf⟩
    | some q =>
      obtain ⟨q1, s', q2, q3⟩ := fdC_lt hq
      have q4 : q.2 < 8 := by
        have g := hS q.1 q1
        rw [q2] at g
        have : ln A (s' + 3) ≤ 8 := g.2.2.1.2.2.1.2.1
        have q3 : q.2 < ln A (s' + 3) := q3
        omega
      have ef : fdI (some q) = ni (8 * q.1 + q.2) := rfl
      have k7 : ∀ {B' : Mem}, FrP 0 B B' → gi B' 217 (8 * q.1 + q.2) = gi B 217 (8 * q.1 + q.2) ∧ gl B' 218 (8 * q.1 + q.2) = gl B 218 (8 * q.1 + q.2) := fun fp => ⟨(fp.2 217 _ (by omega)).1, (fp.2 218 _ (by omega)).2⟩
      by_cases k0 : gi B 217 (8 * q.1 + q.2) = 0
      · have ek : kn B q.1 q.2 = none := if_pos k0
        refine ⟨none, rcC_1 (by omega) (by rw [h2]; decide) (fun st hs => by rw [h2, y3, e1, hq]; dsimp only; rw [ek]), fun F sp B' fp hsp => ?_⟩
        dsimp only
        rw [go F sp B' fp hsp, look F sp B' fp, hq, ef, if_neg (ni_n0 (by omega)), gdT ((ni_inb (by omega)).mpr (by omega))]
        simp only [show (ni (8 * q.1 + q.2)).toNatClampNeg = 8 * q.1 + q.2 from ni_tn (by omega), (k7 fp).1]
        rw [if_neg (fun z => z k0)]
        exact ⟨B', rfl, FrW.rf⟩
      · have ek : kn B q.1 q.2 = some (gl B 218 (8 * q.1 + q.2)) := if_neg k0
        have step : ∀ F sp B', FrP 0 B B' → sp + h ≤ 3000 → SJ_X11_comesOut_39 (F + 1) v1 (ni own) (ni (1200 * (30 + own))) (ni sp) (ni r) B' = SJ_X11_comesOut_333 (SJ_X11_comesOut_39 F) v1 (ni own) (ni (1200 * (30 + own))) (ni (sp + 1)) (ni r) (sl B' 219 sp (gl B 218 (8 * q.1 + q.2))) := fun F sp B' fp hsp => by
          rw [go F sp B' fp hsp, look F sp B' fp, hq, ef, if_neg (ni_n0 (by omega)), gdT ((ni_inb (by omega)).mpr (by omega))]
          simp only [show (ni (8 * q.1 + q.2)).toNatClampNeg = 8 * q.1 + q.2 from ni_tn (by omega), (k7 fp).1, (k7 fp).2]
          rw [if_pos k0, gdT ((ni_inb (by omega)).mpr (by omega)), gdT ((ni_inb (by omega)).mpr (by omega)), ni_tn (a := sp) (by omega), show ni sp + 1 = ni (sp + 1) from ni_add sp 1]
        by_cases hsm : smallV (gl B 218 (8 * q.1 + q.2))
        · refine ⟨some (gl B 218 (8 * q.1 + q.2)), rcC_1 (by omega) (by rw [h2]; decide) (fun st hs => by rw [h2, y3, e1, hq]; dsimp only; rw [ek]; dsimp only; rw [putV_y ⟨by omega, hsm⟩]), fun F sp B' fp hsp => ?_⟩
          dsimp only
          rw [step F sp B' fp hsp]
          have z := r333 (v1 := v1) (k := SJ_X11_comesOut_39 F) (v2 := ni own) (v3 := ni (1200 * (30 + own))) (sp := sp) (r := r) (M := sl B' 219 sp (gl B 218 (8 * q.1 + q.2))) (by omega)
          rw [sl_eq] at z
          exact ⟨_, z.1 hsm, frp_sl (Nat.le_refl _), sl_eq⟩
        · refine ⟨none, rcC_1 (by omega) (by rw [h2]; decide) (fun st hs => by rw [h2, y3, e1, hq]; dsimp only; rw [ek]; dsimp only; rw [putV_n (fun z => hsm z.2)]), fun F sp B' fp hsp => ?_⟩
          dsimp only
          rw [step F sp B' fp hsp]
          have z := r333 (v1 := v1) (k := SJ_X11_comesOut_39 F) (v2 := ni own) (v3 := ni (1200 * (30 + own))) (sp := sp) (r := r) (M := sl B' 219 sp (gl B 218 (8 * q.1 + q.2))) (by omega)
          rw [sl_eq] at z
          exact ⟨_, z.2 hsm, frp_sl (Nat.le_refl _)⟩
  · intro c r n h h1; cases h1
  · -- a minus
    rintro c r n h ⟨h1, hP⟩ h2 h3
    refine ⟨h1, fun b1 b2 => ?_⟩
    obtain ⟨o, oC, oR⟩ := hP (by omega) (by omega)
    cases o with
    | none =>
      refine ⟨none, fun N st hs => ?_, fun F sp B' fp hsp => ?_⟩
      · rw [show N + (n + 1) = N + 1 + n by omega]; exact oC (N + 1) st hs
      · dsimp only
        rw [show F + (n + 1) = F + 1 + n by omega]; exact oR (F + 1) sp B' fp hsp
    | some x =>
      have cC : ∀ N (st : List Int64), st.length + h ≤ 4 → evR A (kn B) s (N + (n + 1)) c st = (match putV (-x) st with
          | none => none
          | some st1 => evR A (kn B) s N (c + (n + 1)) st1) := fun N st hs => by
        rw [show N + (n + 1) = N + 1 + n by omega, oC (N + 1) st hs]; dsimp only
        rw [evR_s (by omega) (by rw [h2]; decide), h2]
        unfold ev1
        rw [if_neg (by decide), if_neg (by decide)]; dsimp only
        rw [if_pos rfl]
        cases putV (-x) st <;> rfl
      have cR : ∀ F sp B', FrP 0 B B' → sp + h ≤ 3000 → ∃ B'', SJ_X11_comesOut_39 (F + (n + 1)) v1 (ni own) (ni (1200 * (30 + own))) (ni sp) (ni r) B' = SJ_X11_comesOut_333 (SJ_X11_comesOut_39 F) v1 (ni own) (ni (1200 * (30 + own))) (ni (sp + 1)) (ni (r + n)) (sl B'' 219 sp (-x)) ∧ FrP sp B' B'' := fun F sp B' fp hsp => by
        obtain ⟨B'', d1, d2, d3⟩ := oR (F + 1) sp B' fp hsp
        have fp2 : FrP 0 B B'' := fp.trans (d2.mono (by omega))
        refine ⟨B'', ?_, d2⟩
        have w0 : gi B'' 208 (1200 * (30 + own) + (r + n)) = 8 := (row fp2 _).1.trans h3
        rw [show F + (n + 1) = F + 1 + n by omega, d1, s39_neg hy (by omega) w0, show ni (sp + 1) - 1 = ni sp from (ni_sub (a := sp + 1) (b := 1) (by omega)).trans (by rw [show sp + 1 - 1 = sp by omega]), gdT ((ni_inb (by omega)).mpr (by omega)), gdT ((ni_inb (by omega)).mpr (by omega)), ni_tn (a := sp) (by omega), d3]
      by_cases hsm : smallV (-x)
      · refine ⟨some (-x), fun N st hs => by rw [cC N st hs, putV_y ⟨by omega, hsm⟩], fun F sp B' fp hsp => ?_⟩
        obtain ⟨B'', d1, d2⟩ := cR F sp B' fp hsp
        have z := r333 (v1 := v1) (k := SJ_X11_comesOut_39 F) (v2 := ni own) (v3 := ni (1200 * (30 + own))) (sp := sp) (r := r + n) (M := sl B'' 219 sp (-x)) (by omega)
        rw [sl_eq] at z
        dsimp only
        rw [d1]
        exact ⟨_, z.1 hsm, d2.trans (frp_sl (Nat.le_refl _)), sl_eq⟩
      · refine ⟨none, fun N st hs => by rw [cC N st hs, putV_n (fun z => hsm z.2)], fun F sp B' fp hsp => ?_⟩
        obtain ⟨B'', d1, d2⟩ := cR F sp B' fp hsp
        have z := r333 (v1 := v1) (k := SJ_X11_comesOut_39 F) (v2 := ni own) (v3 := ni (1200 * (30 + own))) (sp := sp) (r := r + n) (M := sl B'' 219 sp (-x)) (by omega)
        rw [sl_eq] at z
        dsimp only
        rw [d1]
        exact ⟨_, z.2 hsm, d2.trans (frp_sl (Nat.le_refl _))⟩
  · -- two
    rintro c r n m h g ⟨h1, hP⟩ ⟨g1, hQ⟩ h3 h4
    refine ⟨h1, fun b1 b2 => ?_⟩
    obtain ⟨o, oC, oR⟩ := hP (by omega) (by omega)
    obtain ⟨p, pC, pR⟩ := hQ (by omega) (by omega)
    cases o with
    | none =>
      refine ⟨none, fun N st hs => ?_, fun F sp B' fp hsp => ?_⟩
      · rw [show N + (n + m + 1) = N + m + 1 + n by omega]; exact oC (N + m + 1) st hs
      · dsimp only
        rw [show F + (n + m + 1) = F + m + 1 + n by omega]; exact oR (F + m + 1) sp B' fp hsp
    | some x =>
      cases p with
      | none =>
        refine ⟨none, fun N st hs => ?_, fun F sp B' fp hsp => ?_⟩
        · rw [show N + (n + m + 1) = N + m + 1 + n by omega, oC (N + m + 1) st hs]; dsimp only
          rw [show N + m + 1 = N + 1 + m by omega]; exact pC (N + 1) (x :: st) (by show st.length + 1 + g ≤ 4; omega)
        · dsimp only
          obtain ⟨B1, d1, d2, d3⟩ := oR (F + m + 1) sp B' fp hsp
          obtain ⟨B2, d4, d5⟩ := pR (F + 1) (sp + 1) B1 (fp.trans (d2.mono (by omega))) (by omega)
          rw [show F + (n + m + 1) = F + m + 1 + n by omega, d1, show F + m + 1 = F + 1 + m by omega, d4]
          exact ⟨B2, rfl, d2.trans (d5.mono (by omega))⟩
      | some z =>
        obtain ⟨-, k20, kw⟩ := c_bin (A := A) (f := kn B) (arg := gl A (s + 2) (c + n + m)) (x := x) (z := z) (st := []) h4 (by decide)
        have cC : ∀ N (st : List Int64), st.length + h ≤ 4 → evR A (kn B) s (N + (n + m + 1)) c st = (match bres (gi B 208 (1200 * (30 + own) + (r + n + m))) x z with
            | none => none
            | some v => evR A (kn B) s N (c + (n + m + 1)) (v :: st)) := fun N st hs => by
          rw [show N + (n + m + 1) = N + m + 1 + n by omega, oC (N + m + 1) st hs]; dsimp only
          rw [show N + m + 1 = N + 1 + m by omega, pC (N + 1) (x :: st) (by show st.length + 1 + g ≤ 4; omega)]; dsimp only
          rw [evR_s (by omega) k20, (c_bin h4 (by omega)).1]
          rw [show c + (n + m + 1) = c + n + m + 1 by omega]
          cases bres (gi B 208 (1200 * (30 + own) + (r + n + m))) x z <;> rfl
        have cR : ∀ F sp B', FrP 0 B B' → sp + h ≤ 3000 → ∃ B2, SJ_X11_comesOut_39 (F + (n + m + 1)) v1 (ni own) (ni (1200 * (30 + own))) (ni sp) (ni r) B' = SJ_X11_comesOut_39 (F + 1) v1 (ni own) (ni (1200 * (30 + own))) (ni (sp + 2)) (ni (r + n + m)) B2 ∧ FrP sp B' B2 ∧ gl B2 219 sp = x ∧ gl B2 219 (sp + 1) = z := fun F sp B' fp hsp => by
          obtain ⟨B1, d1, d2, d3⟩ := oR (F + m + 1) sp B' fp hsp
          obtain ⟨B2, d4, d5, d6⟩ := pR (F + 1) (sp + 1) B1 (fp.trans (d2.mono (by omega))) (by omega)
          rw [show F + (n + m + 1) = F + m + 1 + n by omega, d1, show F + m + 1 = F + 1 + m by omega, d4]
          exact ⟨B2, rfl, d2.trans (d5.mono (by omega)), (d5.2 219 sp (by omega)).2.trans d3, d6⟩
        refine ⟨bres (gi B 208 (1200 * (30 + own) + (r + n + m))) x z, fun N st hs => cC N st hs, fun F sp B' fp hsp => ?_⟩
        obtain ⟨B2, d1, d2, d3, d4⟩ := cR F sp B' fp hsp
        have fp2 : FrP 0 B B2 := fp.trans (d2.mono (by omega))
        have q := r_bin (v1 := v1) (F := F) (sp := sp) (r := r + n + m) (M := B2) hy (by omega) (by omega) (row fp2 _).1 kw d3 d4
        cases hb : bres (gi B 208 (1200 * (30 + own) + (r + n + m))) x z with
        | none =>
          rw [hb] at q
          obtain ⟨B3, q1, q2⟩ := q
          dsimp only
          rw [d1]
          exact ⟨B3, q1, d2.trans q2⟩
        | some v =>
          rw [hb] at q
          dsimp only
          rw [d1, show r + (n + m + 1) = r + n + m + 1 by omega]
          exact ⟨_, q, d2.trans (frp_sl (Nat.le_refl _)), sl_eq⟩
  · intro c r n m l h h1; cases h1
end Rc
