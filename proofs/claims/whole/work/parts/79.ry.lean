-- ===== a text read off other rows =====
section Bd
variable {k : Bool} {mo own : Nat} {ld : Int32} {o : Nat → Int32} {a : Nat → Int64} {w w' : Nat → Int32} {v v' : Nat → Int64} {z z' : Nat → Int32}
theorem e2_bd (hw : ∀ j, j < 1200 → w' j = w j ∧ v' j = v j ∧ z' j = z j) {c r n h : Nat} (e : E2 k mo own ld o a w v z c r n h) (hr : r + n ≤ 1200) : E2 k mo own ld o a w' v' z' c r n h := by
  have K := e2_er k mo own ld o a w' v' z'
  refine e (fun c r n h => r + n ≤ 1200 → E2 k mo own ld o a w' v' z' c r n h) ⟨?_, ?_, ?_, ?_, ?_, ?_, ?_, ?_⟩ hr
  · intro c r h n h1 h2 h3 h4 h5 h6 b
    have q := hw r (by omega)
    exact K.1 c r h n h1 h2 h3 h4 (q.1.trans h5) (q.2.1.trans h6)
  · intro c r h h1 h2 h2' h3 h4 b
    exact K.2.1 c r h h1 h2 h2' h3 ((hw r (by omega)).1.trans h4)
  · intro c r h j h1 h2 h2' h3 h4 h5 h6 b
    exact K.2.2.1 c r h j h1 h2 h2' h3 h4 h5 ((hw r (by omega)).1.trans h6)
  · intro c r h h1 h2 h3 h4 b
    have q := hw r (by omega)
    exact K.2.2.2.1 c r h h1 h2 (q.1.trans h3) (by rw [q.2.1, q.2.2]; exact h4)
  · intro c r n h h1 h2 h3 h4 h5 b
    have q := hw (r + n) (by omega)
    exact K.2.2.2.2.1 c r n h h1 (h2 (by omega)) h3 (q.1.trans h4) (by rw [q.2.1, q.2.2]; exact h5)
  · intro c r n h h1 h2 h3 b
    exact K.2.2.2.2.2.1 c r n h (h1 (by omega)) h2 ((hw (r + n) (by omega)).1.trans h3)
  · intro c r n m h g h1 h2 h3 h4 b
    exact K.2.2.2.2.2.2.1 c r n m h g (h1 (by omega)) (h2 (by omega)) h3 (by rw [(hw (r + n + m) (by omega)).1]; exact h4)
  · intro c r n m l h h1 h2 h3 h4 h5 h6 h7 h8 h9 h10 h11 h12 b
    have q1 := hw (r + n) (by omega)
    have q2 := hw (r + n + m + 1) (by omega)
    exact K.2.2.2.2.2.2.2 c r n m l h h1 (h2 (by omega)) h3 h4 (q1.1.trans h5) (q1.2.1.trans h6) (h7 (by omega)) h8 h9 (q2.1.trans h10) (q2.2.1.trans h11) (h12 (by omega))
theorem t2_bd {sk sa sw sk' sa' sw' ts te es : Nat → Int32} {nt : Nat} (hw : ∀ j, j < 1200 → w' j = w j ∧ v' j = v j ∧ z' j = z j) (hs : ∀ j, j < 120 → sk' j = sk j ∧ sa' j = sa j ∧ sw' j = sw j) {d c c2 m m2 t t2 : Nat} (e : T2 own ld o a w v z sk sa sw ts te es nt d c c2 m m2 t t2) : m ≤ m2 ∧ (m2 ≤ 120 → T2 own ld o a w' v' z' sk' sa' sw' ts te es nt d c c2 m m2 t t2) := by
  have K := t2_tr own ld o a w' v' z' sk' sa' sw' ts te es nt
  refine e (fun d c c2 m m2 t t2 => m ≤ m2 ∧ (m2 ≤ 120 → T2 own ld o a w' v' z' sk' sa' sw' ts te es nt d c c2 m m2 t t2)) ⟨?_, ?_, ?_, ?_, ?_⟩
  · intro d c m t; exact ⟨Nat.le_refl _, fun _ => K.1 d c m t⟩
  · intro d c c1 c2 m m2 t t2 h1 h2 h3 h4; exact ⟨h4.1, fun b => K.2.1 d c c1 c2 m m2 t t2 h1 h2 h3 (h4.2 b)⟩
  · intro d c c2 m m2 t t2 r n q h1 h2 h3 h4 h5 h6 h7 h8 h9 h10 h11
    refine ⟨by omega, fun b => ?_⟩
    have q1 := hs m (by omega)
    exact K.2.2.1 d c c2 m m2 t t2 r n q h1 (e2_bd hw h2 (by omega)) h3 h4 h5 ((hw (r + n) h7).1.trans h6) h7 (q1.1.trans h8) (q1.2.1.trans h9) (q1.2.2.trans h10) (h11.2 b)
  · intro d c c2 m m2 t t2 r n q h1 h2 h3 h4 h5 h6 h7 h8 h9 h10 h11
    refine ⟨by omega, fun b => ?_⟩
    have q1 := hs m (by omega)
    exact K.2.2.2.1 d c c2 m m2 t t2 r n q (e2_bd hw h1 (by omega)) h2 h3 h4 h5 ((hw (r + n) h7).1.trans h6) h7 (q1.1.trans h8) (q1.2.1.trans h9) (q1.2.2.trans h10) (h11.2 b)
  · intro d c cb ce c2 m mb me m2 t tb t1 t2 h1 h2 h3 h4 h5 h6 h7 h8 h9 h10 h11 h12 h13
    have b1 := h2.1; have b2 := h7.1; have b3 := h13.1
    refine ⟨by omega, fun b => ?_⟩
    have q1 := hs m (by omega)
    have q2 := hs mb (by omega)
    have q3 := hs me (by omega)
    exact K.2.2.2.2 d c cb ce c2 m mb me m2 t tb t1 t2 h1 (h2.2 (by omega)) h3 h4 h5 h6 (h7.2 (by omega)) (q1.1.trans h8) (q1.2.2.trans h9) (q2.1.trans h10) (q2.2.2.trans h11) (q3.1.trans h12) (h13.2 b)
end Bd
/-- the same text in other rows of the reference -/
def RvE (W W' : RV) : Prop := (rUn W' = rUn W ∧ rLe W' = rLe W ∧ rRu W' = rRu W) ∧ (∀ j, j < 1200 → rW W' j = rW W j ∧ rV W' j = rV W j ∧ rZ W' j = rZ W j) ∧ (∀ j, j < 120 → rSk W' j = rSk W j ∧ rSa W' j = rSa W j ∧ rSw W' j = rSw W j) ∧ rNs W' = rNs W ∧ (∀ j, j < 8 → rCn W' j = rCn W j ∧ rCa W' j = rCa W j) ∧ rNc W' = rNc W ∧ (∀ j, j < 6 → rTn W' j = rTn W j ∧ rTz W' j = rTz W j) ∧ rNt W' = rNt W
theorem fml_bd {mo own : Nat} {kk : Bool} {V : CV} {W W' : RV} {h : Nat} {x y : Int32} (hw : ∀ j, j < 1200 → rW W' j = rW W j ∧ rV W' j = rV W j ∧ rZ W' j = rZ W j) (f : Fml kk mo own V W h x y) : Fml kk mo own V W' h x y := by
  obtain ⟨c, r, n, f1, f2, f3, f4, f5, f6, f7⟩ := f
  exact ⟨c, r, n, f1, f2, e2_bd hw f3 (by omega), f4, (hw _ f7).1.trans f5, f6, f7⟩
theorem txt_bd {own : Nat} {V : CV} {W W' : RV} (e : RvE W W') (h : Txt own V W) : Txt own V W' := by
  obtain ⟨⟨e1, e2, e3⟩, e4, e5, e6, e7, e8, e9, e10⟩ := e
  obtain ⟨⟨h1, h2⟩, h3, ⟨h4, h5, h6⟩, ⟨h7, h8, h9⟩, h10, h11, h12, c0, c1, h13, h14, h15⟩ := h
  refine ⟨⟨h1.trans e1.symm, h2.trans e2.symm⟩, ?_, ⟨h4.trans e8.symm, h5, fun j hj => ?_⟩, ⟨h7.trans e10.symm, h8, fun j hj => ?_⟩, by rw [e6]; exact h10, h11, h12, c0, c1, h13, ?_, h15⟩
  · rw [e3]
    rcases h3 with h3 | h3
    · exact Or.inl h3
    · exact Or.inr (fml_bd e4 h3)
  · rw [(e7 j (by omega)).1, (e7 j (by omega)).2]
    exact ⟨(h6 j hj).1, fml_bd e4 (h6 j hj).2⟩
  · rw [(e9 j (by omega)).1, (e9 j (by omega)).2]
    exact h9 j hj
  · rw [e6]; exact (t2_bd e4 e5 h14).2 h10
/-- what belongs to a slot of the reference -/
def Slt (y a j : Nat) : Prop := ((a = 194 ∨ a = 195 ∨ a = 196 ∨ a = 197 ∨ a = 200 ∨ a = 203 ∨ a = 207) ∧ j = y) ∨ ((a = 198 ∨ a = 199) ∧ 8 * y ≤ j ∧ j < 8 * y + 8) ∨ ((a = 201 ∨ a = 202) ∧ 6 * y ≤ j ∧ j < 6 * y + 6) ∨ ((a = 204 ∨ a = 205 ∨ a = 206) ∧ 120 * y ≤ j ∧ j < 120 * y + 120) ∨ ((a = 208 ∨ a = 209 ∨ a = 210) ∧ 1200 * y ≤ j ∧ j < 1200 * y + 1200)
/-- slot y' of B' is slot y of B -/
theorem rve_of {B B' : Mem} {y y' : Nat} (h1 : gi B' 195 y' = gi B 195 y ∧ gi B' 196 y' = gi B 196 y ∧ gi B' 207 y' = gi B 207 y ∧ gi B' 203 y' = gi B 203 y ∧ gi B' 197 y' = gi B 197 y ∧ gi B' 200 y' = gi B 200 y) (h2 : ∀ j, j < 1200 → gi B' 208 (1200 * y' + j) = gi B 208 (1200 * y + j) ∧ gl B' 209 (1200 * y' + j) = gl B 209 (1200 * y + j) ∧ gi B' 210 (1200 * y' + j) = gi B 210 (1200 * y + j)) (h3 : ∀ j, j < 120 → gi B' 204 (120 * y' + j) = gi B 204 (120 * y + j) ∧ gi B' 205 (120 * y' + j) = gi B 205 (120 * y + j) ∧ gi B' 206 (120 * y' + j) = gi B 206 (120 * y + j)) (h4 : ∀ j, j < 8 → gl B' 198 (8 * y' + j) = gl B 198 (8 * y + j) ∧ gi B' 199 (8 * y' + j) = gi B 199 (8 * y + j)) (h5 : ∀ j, j < 6 → gl B' 201 (6 * y' + j) = gl B 201 (6 * y + j) ∧ gi B' 202 (6 * y' + j) = gi B 202 (6 * y + j)) : RvE (svR B y) (svR B' y') := by
  refine ⟨⟨h1.1, h1.2.1, h1.2.2.1⟩, h2, h3, ?_, h4, ?_, h5, ?_⟩
  · show tn (gi B' 203 y') = tn (gi B 203 y); rw [h1.2.2.2.1]
  · show tn (gi B' 197 y') = tn (gi B 197 y); rw [h1.2.2.2.2.1]
  · show tn (gi B' 200 y') = tn (gi B 200 y); rw [h1.2.2.2.2.2]
theorem shr_rv {A B B' : Mem} {r : Option Nat} {y y' own : Nat} (h : ShR A B r y own) (h0 : gi B' 194 y' = gi B 194 y) (h1 : gi B' 203 y' = gi B 203 y ∧ gi B' 197 y' = gi B 197 y ∧ gi B' 200 y' = gi B 200 y) (e : RvE (svR B y) (svR B' y')) : ShR A B' r y' own := by
  cases r with
  | none => exact h0.trans h
  | some s =>
    obtain ⟨g1, g2, g3, g4, g5, g6⟩ := h
    refine ⟨h0.trans g1, g2, txt_bd e g3, ?_, ?_, ?_⟩
    · rw [h1.1]; exact g4
    · rw [h1.2.1]; exact g5
    · rw [h1.2.2]; exact g6
/-- all but slot q is the same -/
def FrS (q : Nat) (B B' : Mem) : Prop := ∀ a j, 194 ≤ a → a ≤ 210 → ¬ Slt q a j → gi B' a j = gi B a j ∧ gl B' a j = gl B a j
theorem shr_sl {A B B' : Mem} {r : Option Nat} {y q own : Nat} (h : ShR A B r y own) (f : FrS q B B') (hq : y ≠ q) : ShR A B' r y own := by
  refine shr_rv h (f 194 y (by omega) (by omega) (by unfold Slt; omega)).1 ⟨(f 203 y (by omega) (by omega) (by unfold Slt; omega)).1, (f 197 y (by omega) (by omega) (by unfold Slt; omega)).1, (f 200 y (by omega) (by omega) (by unfold Slt; omega)).1⟩ (rve_of ⟨(f 195 y (by omega) (by omega) (by unfold Slt; omega)).1, (f 196 y (by omega) (by omega) (by unfold Slt; omega)).1, (f 207 y (by omega) (by omega) (by unfold Slt; omega)).1, (f 203 y (by omega) (by omega) (by unfold Slt; omega)).1, (f 197 y (by omega) (by omega) (by unfold Slt; omega)).1, (f 200 y (by omega) (by omega) (by unfold Slt; omega)).1⟩ (fun j hj => ⟨(f 208 _ (by omega) (by omega) (by unfold Slt; omega)).1, (f 209 _ (by omega) (by omega) (by unfold Slt; omega)).2, (f 210 _ (by omega) (by omega) (by unfold Slt; omega)).1⟩) (fun j hj => ⟨(f 204 _ (by omega) (by omega) (by unfold Slt; omega)).1, (f 205 _ (by omega) (by omega) (by unfold Slt; omega)).1, (f 206 _ (by omega) (by omega) (by unfold Slt; omega)).1⟩) (fun j hj => ⟨(f 198 _ (by omega) (by omega) (by unfold Slt; omega)).2, (f 199 _ (by omega) (by omega) (by unfold Slt; omega)).1⟩) (fun j hj => ⟨(f 201 _ (by omega) (by omega) (by unfold Slt; omega)).2, (f 202 _ (by omega) (by omega) (by unfold Slt; omega)).1⟩))
/-- only numbers have changed, and only where S says -/
def FrW (S : Nat → Nat → Prop) (B B' : Mem) : Prop := KG B B' ∧ ∀ a j, ¬ S a j → gi B' a j = gi B a j ∧ gl B' a j = gl B a j
theorem frw_si {B : Mem} {a j : Nat} {x : Int32} : FrW (fun p q => p = a ∧ q = j) B (si B a j x) := ⟨kg_si, fun p q h => ⟨by rw [gi_si, if_neg h], rfl⟩⟩
theorem frw_sl {B : Mem} {a j : Nat} {x : Int64} : FrW (fun p q => p = a ∧ q = j) B (sl B a j x) := ⟨kg_sl, fun p q h => ⟨rfl, by rw [gl_sl, if_neg h]⟩⟩
theorem FrW.rf {S : Nat → Nat → Prop} {B : Mem} : FrW S B B := ⟨KG.rf, fun _ _ _ => ⟨rfl, rfl⟩⟩
theorem FrW.tr {S S' U : Nat → Nat → Prop} {A B C : Mem} (h : FrW S A B) (g : FrW S' B C) (i : ∀ a j, ¬ U a j → ¬ S a j ∧ ¬ S' a j) : FrW U A C := ⟨h.1.trans g.1, fun a j u => ⟨(g.2 a j (i a j u).2).1.trans (h.2 a j (i a j u).1).1, (g.2 a j (i a j u).2).2.trans (h.2 a j (i a j u).1).2⟩⟩
theorem kp_39 {y n : Nat} (hy : y < 60) (hn : n ≤ 8) : ∀ {j q F : Nat} {B : Mem}, gi B 181 15 = ni n → q + j = n → j < F → ∃ B', SJ_X11_keeps_39 F (ni y) (ni q) B = gd (inb (ni y) 60) (SJ_X11_keeps_99 FU (ni y) 0 (si B' 200 (ni y).toNatClampNeg (gi B' 181 18))) ∧ FrW (fun a i => (a = 198 ∨ a = 199) ∧ 8 * y + q ≤ i ∧ i < 8 * y + n) B B' ∧ ∀ i, q ≤ i → i < n → gl B' 198 (8 * y + i) = gl B 184 i ∧ gi B' 199 (8 * y + i) = gi B 185 i := by
  intro j
  induction j with
  | zero =>
    intro q F B hc hj hF
    obtain ⟨F, rfl⟩ : ∃ u, F = u + 1 := ⟨F - 1, by omega⟩
    rw [SJ_X11_keeps_39]; dsimp only
    rw [hc, if_pos ((ni_le (by omega) (by omega)).mpr (by omega))]
    exact ⟨B, rfl, FrW.rf, fun i h1 h2 => by omega⟩
  | succ j ih =>
    intro q F B hc hj hF
    obtain ⟨F, rfl⟩ : ∃ u, F = u + 1 := ⟨F - 1, by omega⟩
    have hI : (8 : Int32) * ni y + ni q = ni (8 * y + q) := by rw [show (8 : Int32) = ni 8 from rfl, ni_mul, ni_add]
    have f1 : FrW (fun a i => (a = 198 ∨ a = 199) ∧ i = 8 * y + q) B (si (sl B 198 (8 * y + q) (gl B 184 q)) 199 (8 * y + q) (gi B 185 q)) := by
      exact FrW.tr frw_sl frw_si (fun a i u => by omega)
    have hc1 : gi (si (sl B 198 (8 * y + q) (gl B 184 q)) 199 (8 * y + q) (gi B 185 q)) 181 15 = ni n := by rw [(f1.2 181 15 (by omega)).1]; exact hc
    rw [SJ_X11_keeps_39]; dsimp only
    rw [hc, if_neg (fun e => by have := (ni_le (by omega) (by omega)).mp e; omega), hI, gdT ((ni_inb (by omega)).mpr (by omega)), gdT ((ni_inb (by omega)).mpr (by omega)), gdT ((ni_inb (by omega)).mpr (by omega)), gdT ((ni_inb (by omega)).mpr (by omega)), ni_tn (a := 8 * y + q) (by omega), ni_tn (a := q) (by omega), (show gi (sl B 198 (8 * y + q) (gl B 184 q)) 185 q = gi B 185 q by repeat first | rw [gi_sl] | rw [gi_ne (by omega)]), show ni q + 1 = ni (q + 1) from ni_add q 1]
    obtain ⟨B', g1, g2, g3⟩ := ih (q := q + 1) (F := F) hc1 (by omega) (by omega)
    refine ⟨B', g1, f1.tr g2 (fun a i u => by omega), fun i h1 h2 => ?_⟩
    by_cases e : i = q
    · subst e
      refine ⟨?_, ?_⟩
      · rw [(g2.2 198 _ (by omega)).2, gl_si, sl_eq]
      · rw [(g2.2 199 _ (by omega)).1, si_eq]
    · have q3 := g3 i (by omega) h2
      refine ⟨q3.1.trans (f1.2 184 i (by omega)).2, q3.2.trans (f1.2 185 i (by omega)).1⟩
theorem kp_99 {y n : Nat} (hy : y < 60) (hn : n ≤ 6) : ∀ {j q F : Nat} {B : Mem}, gi B 181 18 = ni n → q + j = n → j < F → ∃ B', SJ_X11_keeps_99 F (ni y) (ni q) B = gd (inb (ni y) 60) (SJ_X11_keeps_159 FU (ni y) 0 (si B' 203 (ni y).toNatClampNeg (gi B' 181 21))) ∧ FrW (fun a i => (a = 201 ∨ a = 202) ∧ 6 * y + q ≤ i ∧ i < 6 * y + n) B B' ∧ ∀ i, q ≤ i → i < n → gl B' 201 (6 * y + i) = gl B 186 i ∧ gi B' 202 (6 * y + i) = gi B 187 i := by
  intro j
  induction j with
  | zero =>
    intro q F B hc hj hF
    obtain ⟨F, rfl⟩ : ∃ u, F = u + 1 := ⟨F - 1, by omega⟩
    rw [SJ_X11_keeps_99]; dsimp only
    rw [hc, if_pos ((ni_le (by omega) (by omega)).mpr (by omega))]
    exact ⟨B, rfl, FrW.rf, fun i h1 h2 => by omega⟩
  | succ j ih =>
    intro q F B hc hj hF
    obtain ⟨F, rfl⟩ : ∃ u, F = u + 1 := ⟨F - 1, by omega⟩
    have hI : (6 : Int32) * ni y + ni q = ni (6 * y + q) := by rw [show (6 : Int32) = ni 6 from rfl, ni_mul, ni_add]
    have f1 : FrW (fun a i => (a = 201 ∨ a = 202) ∧ i = 6 * y + q) B (si (sl B 201 (6 * y + q) (gl B 186 q)) 202 (6 * y + q) (gi B 187 q)) := by
      exact FrW.tr frw_sl frw_si (fun a i u => by omega)
    have hc1 : gi (si (sl B 201 (6 * y + q) (gl B 186 q)) 202 (6 * y + q) (gi B 187 q)) 181 18 = ni n := by rw [(f1.2 181 18 (by omega)).1]; exact hc
    rw [SJ_X11_keeps_99]; dsimp only
    rw [hc, if_neg (fun e => by have := (ni_le (by omega) (by omega)).mp e; omega), hI, gdT ((ni_inb (by omega)).mpr (by omega)), gdT ((ni_inb (by omega)).mpr (by omega)), gdT ((ni_inb (by omega)).mpr (by omega)), gdT ((ni_inb (by omega)).mpr (by omega)), ni_tn (a := 6 * y + q) (by omega), ni_tn (a := q) (by omega), (show gi (sl B 201 (6 * y + q) (gl B 186 q)) 187 q = gi B 187 q by repeat first | rw [gi_sl] | rw [gi_ne (by omega)]), show ni q + 1 = ni (q + 1) from ni_add q 1]
    obtain ⟨B', g1, g2, g3⟩ := ih (q := q + 1) (F := F) hc1 (by omega) (by omega)
    refine ⟨B', g1, f1.tr g2 (fun a i u => by omega), fun i h1 h2 => ?_⟩
    by_cases e : i = q
    · subst e
      refine ⟨?_, ?_⟩
      · rw [(g2.2 201 _ (by omega)).2, gl_si, sl_eq]
      · rw [(g2.2 202 _ (by omega)).1, si_eq]
    · have q3 := g3 i (by omega) h2
      refine ⟨q3.1.trans (f1.2 186 i (by omega)).2, q3.2.trans (f1.2 187 i (by omega)).1⟩
theorem kp_159 {y n : Nat} (hy : y < 60) (hn : n ≤ 120) : ∀ {j q F : Nat} {B : Mem}, gi B 181 21 = ni n → q + j = n → j < F → ∃ B', SJ_X11_keeps_159 F (ni y) (ni q) B = gd (inb (ni y) 60) (SJ_X11_keeps_236 FU (ni y) 0 (si B' 207 (ni y).toNatClampNeg (gi B' 181 26))) ∧ FrW (fun a i => (a = 204 ∨ a = 205 ∨ a = 206) ∧ 120 * y + q ≤ i ∧ i < 120 * y + n) B B' ∧ ∀ i, q ≤ i → i < n → gi B' 204 (120 * y + i) = gi B 188 i ∧ gi B' 205 (120 * y + i) = gi B 189 i ∧ gi B' 206 (120 * y + i) = gi B 190 i := by
  intro j
  induction j with
  | zero =>
    intro q F B hc hj hF
    obtain ⟨F, rfl⟩ : ∃ u, F = u + 1 := ⟨F - 1, by omega⟩
    rw [SJ_X11_keeps_159]; dsimp only
    rw [hc, if_pos ((ni_le (by omega) (by omega)).mpr (by omega))]
    exact ⟨B, rfl, FrW.rf, fun i h1 h2 => by omega⟩
  | succ j ih =>
    intro q F B hc hj hF
    obtain ⟨F, rfl⟩ : ∃ u, F = u + 1 := ⟨F - 1, by omega⟩
    have hI : (120 : Int32) * ni y + ni q = ni (120 * y + q) := by rw [show (120 : Int32) = ni 120 from rfl, ni_mul, ni_add]
    have f1 : FrW (fun a i => (a = 204 ∨ a = 205 ∨ a = 206) ∧ i = 120 * y + q) B (si (si (si B 204 (120 * y + q) (gi B 188 q)) 205 (120 * y + q) (gi B 189 q)) 206 (120 * y + q) (gi B 190 q)) := by
      exact FrW.tr (FrW.tr frw_si frw_si (U := fun a i => (a = 204 ∨ a = 205) ∧ i = 120 * y + q) (fun a i u => by omega)) frw_si (fun a i u => by omega)
    have hc1 : gi (si (si (si B 204 (120 * y + q) (gi B 188 q)) 205 (120 * y + q) (gi B 189 q)) 206 (120 * y + q) (gi B 190 q)) 181 21 = ni n := by rw [(f1.2 181 21 (by omega)).1]; exact hc
    rw [SJ_X11_keeps_159]; dsimp only
    rw [hc, if_neg (fun e => by have := (ni_le (by omega) (by omega)).mp e; omega), hI, gdT ((ni_inb (by omega)).mpr (by omega)), gdT ((ni_inb (by omega)).mpr (by omega)), gdT ((ni_inb (by omega)).mpr (by omega)), gdT ((ni_inb (by omega)).mpr (by omega)), gdT ((ni_inb (by omega)).mpr (by omega)), gdT ((ni_inb (by omega)).mpr (by omega)), ni_tn (a := 120 * y + q) (by omega), ni_tn (a := q) (by omega), (show gi (si B 204 (120 * y + q) (gi B 188 q)) 189 q = gi B 189 q by repeat first | rw [gi_sl] | rw [gi_ne (by omega)]), (show gi (si (si B 204 (120 * y + q) (gi B 188 q)) 205 (120 * y + q) (gi B 189 q)) 190 q = gi B 190 q by repeat first | rw [gi_sl] | rw [gi_ne (by omega)]), show ni q + 1 = ni (q + 1) from ni_add q 1]
    obtain ⟨B', g1, g2, g3⟩ := ih (q := q + 1) (F := F) hc1 (by omega) (by omega)
    refine ⟨B', g1, f1.tr g2 (fun a i u => by omega), fun i h1 h2 => ?_⟩
    by_cases e : i = q
    · subst e
      refine ⟨?_, ?_, ?_⟩
      · rw [(g2.2 204 _ (by omega)).1, gi_ne (by omega), gi_ne (by omega), si_eq]
      · rw [(g2.2 205 _ (by omega)).1, gi_ne (by omega), si_eq]
      · rw [(g2.2 206 _ (by omega)).1, si_eq]
    · have q3 := g3 i (by omega) h2
      refine ⟨q3.1.trans (f1.2 188 i (by omega)).1, q3.2.1.trans (f1.2 189 i (by omega)).1, q3.2.2.trans (f1.2 190 i (by omega)).1⟩
theorem kp_236 {y n : Nat} (hy : y < 60) (hn : n ≤ 1200) : ∀ {j q F : Nat} {B : Mem}, gi B 181 27 = ni n → q + j = n → j < F → ∃ B', SJ_X11_keeps_236 F (ni y) (ni q) B = some ((), B') ∧ FrW (fun a i => (a = 208 ∨ a = 209 ∨ a = 210) ∧ 1200 * y + q ≤ i ∧ i < 1200 * y + n) B B' ∧ ∀ i, q ≤ i → i < n → gi B' 208 (1200 * y + i) = gi B 191 i ∧ gl B' 209 (1200 * y + i) = gl B 192 i ∧ gi B' 210 (1200 * y + i) = gi B 193 i := by
  intro j
  induction j with
  | zero =>
    intro q F B hc hj hF
    obtain ⟨F, rfl⟩ : ∃ u, F = u + 1 := ⟨F - 1, by omega⟩
    rw [SJ_X11_keeps_236]; dsimp only
    rw [hc, if_pos ((ni_le (by omega) (by omega)).mpr (by omega))]
    exact ⟨B, rfl, FrW.rf, fun i h1 h2 => by omega⟩
  | succ j ih =>
    intro q F B hc hj hF
    obtain ⟨F, rfl⟩ : ∃ u, F = u + 1 := ⟨F - 1, by omega⟩
    have hI : (1200 : Int32) * ni y + ni q = ni (1200 * y + q) := by rw [show (1200 : Int32) = ni 1200 from rfl, ni_mul, ni_add]
    have f1 : FrW (fun a i => (a = 208 ∨ a = 209 ∨ a = 210) ∧ i = 1200 * y + q) B (si (sl (si B 208 (1200 * y + q) (gi B 191 q)) 209 (1200 * y + q) (gl B 192 q)) 210 (1200 * y + q) (gi B 193 q)) := by
      exact FrW.tr (FrW.tr frw_si frw_sl (U := fun a i => (a = 208 ∨ a = 209) ∧ i = 1200 * y + q) (fun a i u => by omega)) frw_si (fun a i u => by omega)
    have hc1 : gi (si (sl (si B 208 (1200 * y + q) (gi B 191 q)) 209 (1200 * y + q) (gl B 192 q)) 210 (1200 * y + q) (gi B 193 q)) 181 27 = ni n := by rw [(f1.2 181 27 (by omega)).1]; exact hc
    rw [SJ_X11_keeps_236]; dsimp only
    rw [hc, if_neg (fun e => by have := (ni_le (by omega) (by omega)).mp e; omega), hI, gdT ((ni_inb (by omega)).mpr (by omega)), gdT ((ni_inb (by omega)).mpr (by omega)), gdT ((ni_inb (by omega)).mpr (by omega)), gdT ((ni_inb (by omega)).mpr (by omega)), gdT ((ni_inb (by omega)).mpr (by omega)), gdT ((ni_inb (by omega)).mpr (by omega)), ni_tn (a := 1200 * y + q) (by omega), ni_tn (a := q) (by omega), (show gl (si B 208 (1200 * y + q) (gi B 191 q)) 192 q = gl B 192 q by rfl), (show gi (sl (si B 208 (1200 * y + q) (gi B 191 q)) 209 (1200 * y + q) (gl B 192 q)) 193 q = gi B 193 q by repeat first | rw [gi_sl] | rw [gi_ne (by omega)]), show ni q + 1 = ni (q + 1) from ni_add q 1]
    obtain ⟨B', g1, g2, g3⟩ := ih (q := q + 1) (F := F) hc1 (by omega) (by omega)
    refine ⟨B', g1, f1.tr g2 (fun a i u => by omega), fun i h1 h2 => ?_⟩
    by_cases e : i = q
    · subst e
      refine ⟨?_, ?_, ?_⟩
      · rw [(g2.2 208 _ (by omega)).1, gi_ne (by omega), gi_sl, si_eq]
      · rw [(g2.2 209 _ (by omega)).2, gl_si, sl_eq]
      · rw [(g2.2 210 _ (by omega)).1, si_eq]
    · have q3 := g3 i (by omega) h2
      refine ⟨q3.1.trans (f1.2 191 i (by omega)).1, q3.2.1.trans (f1.2 192 i (by omega)).2, q3.2.2.trans (f1.2 193 i (by omega)).1⟩
theorem nar1 : vp_nar (aty 24) (1 : Int32) = 1 := by decide
theorem keeps_ok {B : Mem} {y k t m r : Nat} (hy : y < 60) (h15 : gi B 181 15 = ni k) (hk : k ≤ 8) (h18 : gi B 181 18 = ni t) (ht : t ≤ 6) (h21 : gi B 181 21 = ni m) (hm : m ≤ 120) (h27 : gi B 181 27 = ni r) (hr : r ≤ 1200) :
    ∃ B', S_X11_keeps (ni y) B = some ((), B') ∧ KG B B' ∧ (∀ a, a < 194 ∨ 210 < a → gi B' a = gi B a ∧ gl B' a = gl B a) ∧ FrS y B B' ∧ (gi B' 194 y = 1 ∧ gi B' 195 y = gi B 181 14 ∧ gi B' 196 y = gi B 181 35 ∧ gi B' 197 y = ni k ∧ gi B' 200 y = ni t ∧ gi B' 203 y = ni m ∧ gi B' 207 y = gi B 181 26) ∧
    (∀ i, i < k → gl B' 198 (8 * y + i) = gl B 184 i ∧ gi B' 199 (8 * y + i) = gi B 185 i) ∧ (∀ i, i < t → gl B' 201 (6 * y + i) = gl B 186 i ∧ gi B' 202 (6 * y + i) = gi B 187 i) ∧ (∀ i, i < m → gi B' 204 (120 * y + i) = gi B 188 i ∧ gi B' 205 (120 * y + i) = gi B 189 i ∧ gi B' 206 (120 * y + i) = gi B 190 i) ∧ (∀ i, i < r → gi B' 208 (1200 * y + i) = gi B 191 i ∧ gl B' 209 (1200 * y + i) = gl B 192 i ∧ gi B' 210 (1200 * y + i) = gi B 193 i) := by
  have f0 : FrW (fun a i => (a = 194 ∨ a = 195 ∨ a = 196 ∨ a = 197) ∧ i = y) B (si (si (si (si B 194 y 1) 195 y (gi B 181 14)) 196 y (gi B 181 35)) 197 y (ni k)) :=
    FrW.tr (FrW.tr (FrW.tr frw_si frw_si (U := fun a i => (a = 194 ∨ a = 195) ∧ i = y) (fun a i u => by omega)) frw_si (U := fun a i => (a = 194 ∨ a = 195 ∨ a = 196) ∧ i = y) (fun a i u => by omega)) frw_si (fun a i u => by omega)
  have v0 : gi (si (si (si (si B 194 y 1) 195 y (gi B 181 14)) 196 y (gi B 181 35)) 197 y (ni k)) 194 y = 1 ∧ gi (si (si (si (si B 194 y 1) 195 y (gi B 181 14)) 196 y (gi B 181 35)) 197 y (ni k)) 195 y = gi B 181 14 ∧ gi (si (si (si (si B 194 y 1) 195 y (gi B 181 14)) 196 y (gi B 181 35)) 197 y (ni k)) 196 y = gi B 181 35 ∧ gi (si (si (si (si B 194 y 1) 195 y (gi B 181 14)) 196 y (gi B 181 35)) 197 y (ni k)) 197 y = ni k := by
    refine ⟨?_, ?_, ?_, si_eq⟩
    · rw [gi_ne (by omega), gi_ne (by omega), gi_ne (by omega), si_eq]
    · rw [gi_ne (by omega), gi_ne (by omega), si_eq]
    · rw [gi_ne (by omega), si_eq]
  unfold S_X11_keeps
  rw [gdT ((ni_inb (by omega)).mpr hy), gdT ((ni_inb (by omega)).mpr hy), gdT ((ni_inb (by omega)).mpr hy), gdT ((ni_inb (by omega)).mpr hy), ni_tn (by omega), nar1, show gi (si B 194 y 1) 181 14 = gi B 181 14 by rw [gi_ne (by omega)], show gi (si (si B 194 y 1) 195 y (gi B 181 14)) 181 35 = gi B 181 35 by rw [gi_ne (by omega), gi_ne (by omega)], show gi (si (si (si B 194 y 1) 195 y (gi B 181 14)) 196 y (gi B 181 35)) 181 15 = ni k by rw [gi_ne (by omega), gi_ne (by omega), gi_ne (by omega)]; exact h15]
  generalize si (si (si (si B 194 y 1) 195 y (gi B 181 14)) 196 y (gi B 181 35)) 197 y (ni k) = B0 at *
  obtain ⟨B1, a1, a2, a3⟩ := kp_39 hy hk (j := k) (q := 0) (F := FU) (B := B0) ((f0.2 181 15 (by omega)).1.trans h15) (by omega) (by have : FU = 4000000 := rfl; omega)
  have e1 : gi B1 181 18 = ni t := ((a2.2 181 18 (by omega)).1.trans (f0.2 181 18 (by omega)).1).trans h18
  have a1 : SJ_X11_keeps_39 FU (ni y) 0 B0 = gd (inb (ni y) 60) (SJ_X11_keeps_99 FU (ni y) 0 (si B1 200 (ni y).toNatClampNeg (gi B1 181 18))) := a1
  rw [a1, gdT ((ni_inb (by omega)).mpr hy), ni_tn (by omega), e1]
  have f1 : FrW (fun a i => a = 200 ∧ i = y) B1 (si B1 200 y (ni t)) := frw_si
  have v1 : gi (si B1 200 y (ni t)) 200 y = ni t := si_eq
  generalize si B1 200 y (ni t) = B1' at *
  obtain ⟨B2, b1, b2, b3⟩ := kp_99 hy ht (j := t) (q := 0) (F := FU) (B := B1') ((f1.2 181 18 (by omega)).1.trans e1) (by omega) (by have : FU = 4000000 := rfl; omega)
  have e2 : gi B2 181 21 = ni m := (((b2.2 181 21 (by omega)).1.trans (f1.2 181 21 (by omega)).1).trans ((a2.2 181 21 (by omega)).1.trans (f0.2 181 21 (by omega)).1)).trans h21
  have b1 : SJ_X11_keeps_99 FU (ni y) 0 B1' = gd (inb (ni y) 60) (SJ_X11_keeps_159 FU (ni y) 0 (si B2 203 (ni y).toNatClampNeg (gi B2 181 21))) := b1
  rw [b1, gdT ((ni_inb (by omega)).mpr hy), ni_tn (by omega), e2]
  have f2 : FrW (fun a i => a = 203 ∧ i = y) B2 (si B2 203 y (ni m)) := frw_si
  have v2 : gi (si B2 203 y (ni m)) 203 y = ni m := si_eq
  generalize si B2 203 y (ni m) = B2' at *
  obtain ⟨B3, c1, c2, c3⟩ := kp_159 hy hm (j := m) (q := 0) (F := FU) (B := B2') ((f2.2 181 21 (by omega)).1.trans e2) (by omega) (by have : FU = 4000000 := rfl; omega)
  have e3 : ∀ j, gi B3 181 j = gi B 181 j := fun j => ((((c2.2 181 j (by omega)).1.trans (f2.2 181 j (by omega)).1).trans (b2.2 181 j (by omega)).1).trans (f1.2 181 j (by omega)).1).trans ((a2.2 181 j (by omega)).1.trans (f0.2 181 j (by omega)).1)
  have c1 : SJ_X11_keeps_159 FU (ni y) 0 B2' = gd (inb (ni y) 60) (SJ_X11_keeps_236 FU (ni y) 0 (si B3 207 (ni y).toNatClampNeg (gi B3 181 26))) := c1
  rw [c1, gdT ((ni_inb (by omega)).mpr hy), ni_tn (by omega), e3 26]
  have f3 : FrW (fun a i => a = 207 ∧ i = y) B3 (si B3 207 y (gi B 181 26)) := frw_si
  have v3 : gi (si B3 207 y (gi B 181 26)) 207 y = gi B 181 26 := si_eq
  generalize si B3 207 y (gi B 181 26) = B3' at *
  obtain ⟨B4, d1, d2, d3⟩ := kp_236 hy hr (j := r) (q := 0) (F := FU) (B := B3') (((f3.2 181 27 (by omega)).1.trans (e3 27)).trans h27) (by omega) (by have : FU = 4000000 := rfl; omega)
  have d1 : SJ_X11_keeps_236 FU (ni y) 0 B3' = some ((), B4) := d1
  rw [d1]
  have t1 : FrW (Slt y) B B4 := (((((((f0.tr a2 (U := Slt y) (fun a i u => by unfold Slt at u; omega)).tr f1 (U := Slt y) (fun a i u => by refine ⟨u, ?_⟩; unfold Slt at u; omega)).tr b2 (U := Slt y) (fun a i u => by refine ⟨u, ?_⟩; unfold Slt at u; omega)).tr f2 (U := Slt y) (fun a i u => by refine ⟨u, ?_⟩; unfold Slt at u; omega)).tr c2 (U := Slt y) (fun a i u => by refine ⟨u, ?_⟩; unfold Slt at u; omega)).tr f3 (U := Slt y) (fun a i u => by refine ⟨u, ?_⟩; unfold Slt at u; omega)).tr d2 (U := Slt y) (fun a i u => by refine ⟨u, ?_⟩; unfold Slt at u; omega))
  refine ⟨B4, rfl, t1.1, fun a ha => ⟨funext fun j => (t1.2 a j (by unfold Slt; omega)).1, funext fun j => (t1.2 a j (by unfold Slt; omega)).2⟩, fun a j _ _ h => t1.2 a j h, ⟨?_, ?_, ?_, ?_, ?_, ?_, ?_⟩, fun i hi => ?_, fun i hi => ?_, fun i hi => ?_, fun i hi => ?_⟩
  · rw [(d2.2 194 _ (by omega)).1, (f3.2 194 _ (by omega)).1, (c2.2 194 _ (by omega)).1, (f2.2 194 _ (by omega)).1, (b2.2 194 _ (by omega)).1, (f1.2 194 _ (by omega)).1, (a2.2 194 _ (by omega)).1]; exact v0.1
  · rw [(d2.2 195 _ (by omega)).1, (f3.2 195 _ (by omega)).1, (c2.2 195 _ (by omega)).1, (f2.2 195 _ (by omega)).1, (b2.2 195 _ (by omega)).1, (f1.2 195 _ (by omega)).1, (a2.2 195 _ (by omega)).1]; exact v0.2.1
  · rw [(d2.2 196 _ (by omega)).1, (f3.2 196 _ (by omega)).1, (c2.2 196 _ (by omega)).1, (f2.2 196 _ (by omega)).1, (b2.2 196 _ (by omega)).1, (f1.2 196 _ (by omega)).1, (a2.2 196 _ (by omega)).1]; exact v0.2.2.1
  · rw [(d2.2 197 _ (by omega)).1, (f3.2 197 _ (by omega)).1, (c2.2 197 _ (by omega)).1, (f2.2 197 _ (by omega)).1, (b2.2 197 _ (by omega)).1, (f1.2 197 _ (by omega)).1, (a2.2 197 _ (by omega)).1]; exact v0.2.2.2
  · rw [(d2.2 200 _ (by omega)).1, (f3.2 200 _ (by omega)).1, (c2.2 200 _ (by omega)).1, (f2.2 200 _ (by omega)).1, (b2.2 200 _ (by omega)).1]; exact v1
  · rw [(d2.2 203 _ (by omega)).1, (f3.2 203 _ (by omega)).1, (c2.2 203 _ (by omega)).1]; exact v2
  · rw [(d2.2 207 _ (by omega)).1]; exact v3
  · have q := a3 i (by omega) hi
    exact ⟨((d2.2 198 _ (by omega)).2).trans (((f3.2 198 _ (by omega)).2).trans (((c2.2 198 _ (by omega)).2).trans (((f2.2 198 _ (by omega)).2).trans (((b2.2 198 _ (by omega)).2).trans (((f1.2 198 _ (by omega)).2).trans ((q.1).trans ((f0.2 184 _ (by omega)).2))))))), ((d2.2 199 _ (by omega)).1).trans (((f3.2 199 _ (by omega)).1).trans (((c2.2 199 _ (by omega)).1).trans (((f2.2 199 _ (by omega)).1).trans (((b2.2 199 _ (by omega)).1).trans (((f1.2 199 _ (by omega)).1).trans ((q.2).trans ((f0.2 185 _ (by omega)).1)))))))⟩
  · have q := b3 i (by omega) hi
    exact ⟨((d2.2 201 _ (by omega)).2).trans (((f3.2 201 _ (by omega)).2).trans (((c2.2 201 _ (by omega)).2).trans (((f2.2 201 _ (by omega)).2).trans ((q.1).trans (((f1.2 186 _ (by omega)).2).trans (((a2.2 186 _ (by omega)).2).trans ((f0.2 186 _ (by omega)).2))))))), ((d2.2 202 _ (by omega)).1).trans (((f3.2 202 _ (by omega)).1).trans (((c2.2 202 _ (by omega)).1).trans (((f2.2 202 _ (by omega)).1).trans ((q.2).trans (((f1.2 187 _ (by omega)).1).trans (((a2.2 187 _ (by omega)).1).trans ((f0.2 187 _ (by omega)).1)))))))⟩
  · have q := c3 i (by omega) hi
    exact ⟨((d2.2 204 _ (by omega)).1).trans (((f3.2 204 _ (by omega)).1).trans ((q.1).trans (((f2.2 188 _ (by omega)).1).trans (((b2.2 188 _ (by omega)).1).trans (((f1.2 188 _ (by omega)).1).trans (((a2.2 188 _ (by omega)).1).trans ((f0.2 188 _ (by omega)).1))))))), ((d2.2 205 _ (by omega)).1).trans (((f3.2 205 _ (by omega)).1).trans ((q.2.1).trans (((f2.2 189 _ (by omega)).1).trans (((b2.2 189 _ (by omega)).1).trans (((f1.2 189 _ (by omega)).1).trans (((a2.2 189 _ (by omega)).1).trans ((f0.2 189 _ (by omega)).1))))))), ((d2.2 206 _ (by omega)).1).trans (((f3.2 206 _ (by omega)).1).trans ((q.2.2).trans (((f2.2 190 _ (by omega)).1).trans (((b2.2 190 _ (by omega)).1).trans (((f1.2 190 _ (by omega)).1).trans (((a2.2 190 _ (by omega)).1).trans ((f0.2 190 _ (by omega)).1)))))))⟩
  · have q := d3 i (by omega) hi
    exact ⟨(q.1).trans (((f3.2 191 _ (by omega)).1).trans (((c2.2 191 _ (by omega)).1).trans (((f2.2 191 _ (by omega)).1).trans (((b2.2 191 _ (by omega)).1).trans (((f1.2 191 _ (by omega)).1).trans (((a2.2 191 _ (by omega)).1).trans ((f0.2 191 _ (by omega)).1))))))), (q.2.1).trans (((f3.2 192 _ (by omega)).2).trans (((c2.2 192 _ (by omega)).2).trans (((f2.2 192 _ (by omega)).2).trans (((b2.2 192 _ (by omega)).2).trans (((f1.2 192 _ (by omega)).2).trans (((a2.2 192 _ (by omega)).2).trans ((f0.2 192 _ (by omega)).2))))))), (q.2.2).trans (((f3.2 193 _ (by omega)).1).trans (((c2.2 193 _ (by omega)).1).trans (((f2.2 193 _ (by omega)).1).trans (((b2.2 193 _ (by omega)).1).trans (((f1.2 193 _ (by omega)).1).trans (((a2.2 193 _ (by omega)).1).trans ((f0.2 193 _ (by omega)).1)))))))⟩
