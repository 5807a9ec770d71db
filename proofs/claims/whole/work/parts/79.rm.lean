-- needs: 74.sclsb 75.num 76.rel 77.cong 78.sim 79.qa 79.qb 79.ra 79.rb 79.rc 79.rd 79.re 79.rf 79.rg 79.rh 79.ri 79.rj 79.rk 79.rl
-- ===== what parts keep =====
def KO (c r m y : Nat) (A B A' B' : Mem) : Prop := FrC2 A A' ∧ FrB2 B B' ∧ (gi A' 8 0 = gi A 8 0 ∧ gi B' 181 14 = gi B 181 14 ∧ gi B' 181 32 = gi B 181 32) ∧ Kb c r A B A' B' ∧ (∀ j, j < m → gi B' 188 j = gi B 188 j ∧ gi B' 189 j = gi B 189 j ∧ gi B' 190 j = gi B 190 j) ∧ ∀ j, j < y → gi A' 15 j = gi A 15 j ∧ gi A' 16 j = gi A 16 j ∧ gi A' 17 j = gi A 17 j
theorem KO.rf {c r m y : Nat} {A B : Mem} : KO c r m y A B A B := ⟨FrC2.rf, FrB2.rf, ⟨rfl, rfl, rfl⟩, Kb.rf, fun _ _ => ⟨rfl, rfl, rfl⟩, fun _ _ => ⟨rfl, rfl, rfl⟩⟩
theorem KO.trans {c r m y c1 r1 m1 y1 : Nat} {A B A1 B1 A2 B2 : Mem} (h : KO c r m y A B A1 B1) (g : KO c1 r1 m1 y1 A1 B1 A2 B2) (hc : c ≤ c1) (hr : r ≤ r1) (hm : m ≤ m1) (hy : y ≤ y1) : KO c r m y A B A2 B2 :=
  ⟨h.1.trans g.1, h.2.1.trans g.2.1, ⟨g.2.2.1.1.trans h.2.2.1.1, g.2.2.1.2.1.trans h.2.2.1.2.1, g.2.2.1.2.2.trans h.2.2.1.2.2⟩, h.2.2.2.1.trans g.2.2.2.1 hc hr,
   fun j hj => ⟨(g.2.2.2.2.1 j (by omega)).1.trans (h.2.2.2.2.1 j hj).1, (g.2.2.2.2.1 j (by omega)).2.1.trans (h.2.2.2.2.1 j hj).2.1, (g.2.2.2.2.1 j (by omega)).2.2.trans (h.2.2.2.2.1 j hj).2.2⟩,
   fun j hj => ⟨(g.2.2.2.2.2 j (by omega)).1.trans (h.2.2.2.2.2 j hj).1, (g.2.2.2.2.2 j (by omega)).2.1.trans (h.2.2.2.2.2 j hj).2.1, (g.2.2.2.2.2 j (by omega)).2.2.trans (h.2.2.2.2.2 j hj).2.2⟩⟩
theorem ko_fr {c r m y : Nat} {A B A' B' : Mem} (f : FrC A A') (g : FrB B B') (k : Kb c r A B A' B') : KO c r m y A B A' B' := by
  refine ⟨f.to2, g.to2, ⟨f.2.2.2.2 0 (by omega) (by omega), g.2.2.2.1 14 (by omega), g.2.2.2.1 32 (by omega)⟩, k, fun j _ => ⟨?_, ?_, ?_⟩, fun j _ => ⟨?_, ?_, ?_⟩⟩
  · rw [g.2.1 188 (by omega) (by omega) (by omega)]
  · rw [g.2.1 189 (by omega) (by omega) (by omega)]
  · rw [g.2.1 190 (by omega) (by omega) (by omega)]
  · rw [f.2.1 15 (by omega) (by omega) (by omega)]
  · rw [f.2.1 16 (by omega) (by omega) (by omega)]
  · rw [f.2.1 17 (by omega) (by omega) (by omega)]
theorem koC_si {c r m y a j : Nat} {x : Int32} {A B : Mem} (h : (a = 7 ∧ j = 4) ∨ (a = 8 ∧ (j = 2 ∨ j = 3 ∨ j = 9 ∨ j = 12 ∨ j = 16)) ∨ a = 12 ∨ a = 14 ∨ ((a = 15 ∨ a = 16 ∨ a = 17) ∧ y ≤ j)) : KO c r m y A B (si A a j x) B := by
  refine ⟨frC2_si (by omega) (by omega), FrB2.rf, ⟨?_, rfl, rfl⟩, ⟨fun i _ => ⟨?_, rfl⟩, fun _ _ => ⟨rfl, rfl, rfl⟩, fun Y e => ?_, fun e => ?_⟩, fun _ _ => ⟨rfl, rfl, rfl⟩, fun i hi => ⟨?_, ?_, ?_⟩⟩
  · rw [gi_si, if_neg (by omega)]
  · rw [gi_si, if_neg (by omega)]
  · rw [gi_si, if_neg (by omega)]; exact e
  · rw [gi_si, if_neg (by omega)]; exact e
  · rw [gi_si, if_neg (by omega)]
  · rw [gi_si, if_neg (by omega)]
  · rw [gi_si, if_neg (by omega)]
theorem koC_sl {c r m y a j : Nat} {x : Int64} {A B : Mem} (h : a = 11 ∨ a = 13) : KO c r m y A B (sl A a j x) B :=
  ⟨frC2_sl (by omega), FrB2.rf, ⟨rfl, rfl, rfl⟩, ⟨fun i _ => ⟨rfl, by rw [gl_sl, if_neg (by omega)]⟩, fun _ _ => ⟨rfl, rfl, rfl⟩, fun Y e => e, fun e => e⟩, fun _ _ => ⟨rfl, rfl, rfl⟩, fun i hi => ⟨rfl, rfl, rfl⟩⟩
theorem koB_si {c r m y a j : Nat} {x : Int32} {A B : Mem} (h : (a = 181 ∧ (j = 15 ∨ j = 18 ∨ j = 21 ∨ j = 22 ∨ j = 26 ∨ j = 33 ∨ j = 34)) ∨ a = 185 ∨ a = 187 ∨ ((a = 188 ∨ a = 189 ∨ a = 190) ∧ m ≤ j)) : KO c r m y A B A (si B a j x) := by
  refine ⟨FrC2.rf, ?_, ⟨rfl, ?_, ?_⟩, ⟨fun i _ => ⟨rfl, rfl⟩, fun i _ => ⟨?_, rfl, ?_⟩, fun Y e => e, fun e => e⟩, fun i hi => ⟨?_, ?_, ?_⟩, fun _ _ => ⟨rfl, rfl, rfl⟩⟩
  · by_cases e : a = 181
    · subst e; exact frB2_f (by omega)
    · exact frB2_a (by omega)
  · rw [gi_si, if_neg (by omega)]
  · rw [gi_si, if_neg (by omega)]
  · rw [gi_si, if_neg (by omega)]
  · rw [gi_si, if_neg (by omega)]
  · rw [gi_si, if_neg (by omega)]
  · rw [gi_si, if_neg (by omega)]
  · rw [gi_si, if_neg (by omega)]
theorem koB_sl {c r m y a j : Nat} {x : Int64} {A B : Mem} (h : a = 184 ∨ a = 186) : KO c r m y A B A (sl B a j x) :=
  ⟨FrC2.rf, frB2_l (by omega), ⟨rfl, rfl, rfl⟩, ⟨fun i _ => ⟨rfl, rfl⟩, fun i _ => ⟨rfl, by rw [gl_sl, if_neg (by omega)], rfl⟩, fun Y e => e, fun e => e⟩, fun i hi => ⟨rfl, rfl, rfl⟩, fun _ _ => ⟨rfl, rfl, rfl⟩⟩
section Ou
variable {by_ : Nat → Nat} {n T own : Nat} {wd : Nat → Int64}
theorem st_fr2 {A B A' B' : Mem} (h : St by_ n T own wd A B) (f : FrC2 A A') (g : FrB2 B B') (cx : (gi A' 7 4 = 1 ↔ ¬ gi B' 181 33 = 0) ∧ (gi A' 7 4 = 2 ↔ ¬ gi B' 181 34 = 0)) : St by_ n T own wd A' B' := by
  obtain ⟨h1, h2, h3, h4, h5, h6, h7, h8, h9, h10, h11, h12, h13⟩ := h
  refine ⟨h1.kg f.1, h2.kg g.1, (f.2.2.1 6 (by omega)).trans h3, fun i hi => ?_, h5, ?_, ⟨h7.1, ?_, fun k hk => ⟨(h7.2.2 k hk).1, ?_⟩⟩, ?_, ?_, ?_, h11, cx.1, cx.2⟩
  · rw [g.2.2.1 183 (by omega)]; exact h4 i hi
  · obtain ⟨q1, q2, q3, q4, q5, q6, q7⟩ := h6
    refine ⟨q1, ?_, q3, fun i hi => ?_, ?_, ?_, ?_⟩
    · rw [f.2.1 1 (by omega)]; exact q2
    · rw [f.2.1 3 (by omega), f.2.1 4 (by omega), f.2.2.1 5 (by omega), f.2.2.1 6 (by omega)]; exact q4 i hi
    · rw [f.2.1 3 (by omega)]; exact q5
    · rw [f.2.1 4 (by omega)]; exact q6
    · rw [f.2.2.1 5 (by omega)]; exact q7
  · exact (g.2.2.2.1 4 (by omega)).trans h7.2.1
  · rw [g.2.1 182 (by omega)]; exact (h7.2.2 k hk).2
  · rw [f.2.1 1 (by omega)]; exact h8
  · exact f.2.2.2.trans h9
  · exact (g.2.2.2.1 12 (by omega)).trans h10
/-- writes that the reading itself does not look at -/
theorem r_gen {A B A' B' : Mem} {i c r : Nat} (h : R by_ n T own wd i c r A B) (f : FrC2 A A') (g : FrB2 B B') (hA7 : ∀ j, j ≠ 4 → gi A' 7 j = gi A 7 j) (hA8 : gi A' 8 6 = gi A 8 6 ∧ gi A' 8 1 = gi A 8 1) (hB : ∀ j, j ≤ 12 ∨ j = 27 ∨ j = 35 → gi B' 181 j = gi B 181 j) (hl : gl B' 181 8 = gl B 181 8)
    (cx : (gi A' 7 4 = 1 ↔ ¬ gi B' 181 33 = 0) ∧ (gi A' 7 4 = 2 ↔ ¬ gi B' 181 34 = 0)) : R by_ n T own wd i c r A' B' := by
  obtain ⟨hs, d1, d2, d3, d4, d5, d6, d7, d8, d9⟩ := h
  refine ⟨st_fr2 hs f g cx, d1, ?_, ?_, ?_, ?_, ?_, ?_, ?_, ?_⟩
  · rw [hA7 2 (by omega)]; exact d2
  · rw [hA7 5 (by omega)]; exact d3
  · rw [hB 11 (by omega)]; exact d4
  · exact rtk_cg d5 (hB 5 (by omega)) (hB 6 (by omega)) (hB 7 (by omega)) (hB 9 (by omega)) (hB 10 (by omega)) hl
  · rw [hA7 6 (by omega), hA7 7 (by omega), hB 2 (by omega), hB 3 (by omega)]; exact d6
  · rw [hA8.1]; exact d7
  · rw [hB 27 (by omega)]; exact d8
  · rw [hA8.2, hB 35 (by omega)]; exact d9
theorem R.cx {A B : Mem} {i c r : Nat} (h : R by_ n T own wd i c r A B) : (gi A 7 4 = 1 ↔ ¬ gi B 181 33 = 0) ∧ (gi A 7 4 = 2 ↔ ¬ gi B 181 34 = 0) := h.1.2.2.2.2.2.2.2.2.2.2.2
theorem rC_si {A B : Mem} {i c r a j : Nat} {x : Int32} (h : R by_ n T own wd i c r A B) (ha : (a = 8 ∧ j ≠ 6 ∧ j ≠ 1) ∨ (12 ≤ a ∧ a ≤ 17)) : R by_ n T own wd i c r (si A a j x) B :=
  r_gen h (frC2_si (by omega) (by omega)) FrB2.rf (fun q hq => by rw [gi_si, if_neg (by omega)]) ⟨by rw [gi_si, if_neg (by omega)], by rw [gi_si, if_neg (by omega)]⟩ (fun _ _ => rfl) rfl (by rw [show gi (si A a j x) 7 4 = gi A 7 4 by rw [gi_si, if_neg (by omega)]]; exact h.cx)
theorem rC_sl {A B : Mem} {i c r a j : Nat} {x : Int64} (h : R by_ n T own wd i c r A B) (ha : 10 ≤ a ∧ a ≤ 13) : R by_ n T own wd i c r (sl A a j x) B :=
  r_gen h (frC2_sl (by omega)) FrB2.rf (fun q hq => rfl) ⟨rfl, rfl⟩ (fun _ _ => rfl) rfl h.cx
theorem rB_si {A B : Mem} {i c r a j : Nat} {x : Int32} (h : R by_ n T own wd i c r A B) (ha : (a = 181 ∧ (j = 14 ∨ j = 15 ∨ j = 18 ∨ j = 21 ∨ j = 22 ∨ j = 26 ∨ j = 32)) ∨ (184 ≤ a ∧ a ≤ 190)) : R by_ n T own wd i c r A (si B a j x) := by
  refine r_gen h FrC2.rf ?_ (fun q hq => rfl) ⟨rfl, rfl⟩ (fun q hq => by rw [gi_si, if_neg (by omega)]) rfl (by rw [show gi (si B a j x) 181 33 = gi B 181 33 by rw [gi_si, if_neg (by omega)], show gi (si B a j x) 181 34 = gi B 181 34 by rw [gi_si, if_neg (by omega)]]; exact h.cx)
  by_cases e : a = 181
  · subst e; exact frB2_f (by omega)
  · exact frB2_a (by omega)
theorem rB_sl {A B : Mem} {i c r a j : Nat} {x : Int64} (h : R by_ n T own wd i c r A B) (ha : 184 ≤ a ∧ a ≤ 190) : R by_ n T own wd i c r A (sl B a j x) :=
  r_gen h FrC2.rf (frB2_l (by omega)) (fun q hq => rfl) ⟨rfl, rfl⟩ (fun q hq => rfl) (by rw [gl_ne (by omega)]) h.cx
theorem r_ctx {A B : Mem} {i c r f : Nat} {x y : Int32} (h : R by_ n T own wd i c r A B) (hf : f = 33 ∨ f = 34) (cx : (x = 1 ↔ ¬ gi (si B 181 f y) 181 33 = 0) ∧ (x = 2 ↔ ¬ gi (si B 181 f y) 181 34 = 0)) : R by_ n T own wd i c r (si A 7 4 x) (si B 181 f y) :=
  r_gen h (frC2_si (by omega) (by omega)) (frB2_f (by omega)) (fun q hq => by rw [gi_si, if_neg (by omega)]) ⟨by rw [gi_ne (by omega)], by rw [gi_ne (by omega)]⟩ (fun q hq => by rw [gi_si, if_neg (by omega)]) rfl (by rw [si_eq]; exact cx)
end Ou
-- ===== what stands in the draft =====
def FmF (own : Nat) (kk : Bool × Nat) (h : Nat) (x y : Int32) (c r : Nat) (A B : Mem) : Prop := ∃ c0 r0 n0, x = ni c0 ∧ y = ni r0 ∧ EF kk own c0 r0 n0 h A B ∧ gi A 9 (c0 + n0) = 20 ∧ gi B 191 (r0 + n0) = 11 ∧ c0 + n0 < c ∧ r0 + n0 < r
theorem FmF.kb {own : Nat} {kk : Bool × Nat} {h c r c' r' : Nat} {x y : Int32} {A B A' B' : Mem} (f : FmF own kk h x y c r A B) (k : Kb c r A B A' B') (hc : c ≤ c') (hr : r ≤ r') : FmF own kk h x y c' r' A' B' := by
  obtain ⟨c0, r0, n0, f1, f2, f3, f4, f5, f6, f7⟩ := f
  exact ⟨c0, r0, n0, f1, f2, f3.kb k (by omega) (by omega), (k.1 _ f6).1.trans f4, (k.2.1 _ f7).1.trans f5, by omega, by omega⟩
/-- where no fault has been told: consts, tables, counts and the rule -/
def Cn (own c r k t s y : Nat) (A B : Mem) : Prop := gi A 7 6 = 0 → (k ≤ 8 ∧ ∀ j, j < k → gl A 11 j = gl B 184 j ∧ FmF own (true, 0) 3 (gi A 12 j) (gi B 185 j) c r A B) ∧
  (t ≤ 6 ∧ ∀ j, j < t → gl A 13 j = gl B 186 j ∧ gi A 14 j = gi B 187 j ∧ ∃ q, 1 ≤ q ∧ q ≤ 12 ∧ gi A 14 j = ni q) ∧ s ≤ 40 ∧ y ≤ s ∧ ((gi A 8 3 = -1 ∧ gi B 181 26 = -1) ∨ FmF own (false, 2) 37 (gi A 8 3) (gi B 181 26) c r A B)
theorem Cn.nm {own c r k t s y : Nat} {A B : Mem} (h : Cn own c r k t s y A B) : NmE k t A B := fun e => ⟨(h e).1.1, (h e).2.1.1, fun j hj => ((h e).1.2 j hj).1, fun j hj => ((h e).2.1.2 j hj).1⟩
/-- the same rows, and what was written stays -/
theorem Cn.cg {own c r k t s y c' r' s' y' : Nat} {A B A' B' : Mem} (h : Cn own c r k t s y A B) (kb : Kb c r A B A' B') (hc : c ≤ c') (hr : r ≤ r') (hs : gi A' 7 6 = 0 → s' ≤ 40 ∧ y' ≤ s')
    (a11 : gl A' 11 = gl A 11) (a12 : gi A' 12 = gi A 12) (a13 : gl A' 13 = gl A 13) (a14 : gi A' 14 = gi A 14) (a3 : gi A' 8 3 = gi A 8 3) (b4 : gl B' 184 = gl B 184) (b5 : gi B' 185 = gi B 185) (b6 : gl B' 186 = gl B 186) (b7 : gi B' 187 = gi B 187) (b26 : gi B' 181 26 = gi B 181 26) : Cn own c' r' k t s' y' A' B' := by
  intro e
  have e0 : gi A 7 6 = 0 := Classical.byContradiction fun q => kb.2.2.2 q e
  obtain ⟨⟨h1, h2⟩, ⟨h3, h4⟩, h5, h6, h7⟩ := h e0
  rw [a11, a12, a13, a14, a3, b4, b5, b6, b7, b26]
  refine ⟨⟨h1, fun j hj => ⟨(h2 j hj).1, (h2 j hj).2.kb kb hc hr⟩⟩, ⟨h3, h4⟩, (hs e).1, (hs e).2, ?_⟩
  rcases h7 with h7 | h7
  · exact Or.inl h7
  · exact Or.inr (h7.kb kb hc hr)
theorem Cn.fr {own c r k t s y c' r' : Nat} {A B A' B' : Mem} (h : Cn own c r k t s y A B) (f : FrC A A') (g : FrB B B') (kb : Kb c r A B A' B') (hc : c ≤ c') (hr : r ≤ r') : Cn own c' r' k t s y A' B' :=
  h.cg kb hc hr (fun e => by
    have e0 : gi A 7 6 = 0 := Classical.byContradiction fun q => kb.2.2.2 q e
    exact ⟨(h e0).2.2.1, (h e0).2.2.2.1⟩) (f.2.2.1 11 (by omega)) (f.2.1 12 (by omega) (by omega) (by omega)) (f.2.2.1 13 (by omega)) (f.2.1 14 (by omega) (by omega) (by omega)) (f.2.2.2.2 3 (by omega) (by omega)) (g.2.2.1 184 (by omega) (by omega)) (g.2.1 185 (by omega) (by omega) (by omega)) (g.2.2.1 186 (by omega) (by omega)) (g.2.1 187 (by omega) (by omega) (by omega)) (g.2.2.2.1 26 (by omega))
def Rl (A B : Mem) : Prop := (gi A 8 3 = -1 ∧ gi B 181 26 = -1) ∨ ((∃ a, a < 2000 ∧ gi A 8 3 = ni a) ∧ ∃ b, b < 3000 ∧ gi B 181 26 = ni b)
def Cx0 (A B : Mem) : Prop := gi A 7 4 = 0 ∧ gi B 181 33 = 0 ∧ gi B 181 34 = 0
-- ===== steps that lie in both =====
def TS (own d c c' m m' y y' r' nt0 : Nat) (A B : Mem) : Prop := ∀ (o : Nat → Int32) (a : Nat → Int64) (w : Nat → Int32) (v : Nat → Int64) (z : Nat → Int32) (ld : Int32) (sk sa sw ts te es : Nat → Int32) (nt : Nat),
  (∀ j, c ≤ j → j < c' → o j = gi A 9 j ∧ a j = gl A 10 j) → (∀ j, j < r' → w j = gi B 191 j ∧ v j = gl B 192 j ∧ z j = gi B 193 j) → (∀ Y, bt (gi A 8 1) Y = true → bt ld Y = true) →
  (∀ j, m ≤ j → j < m' → sk j = gi B 188 j ∧ sa j = gi B 189 j ∧ sw j = gi B 190 j) → (∀ j, y ≤ j → j < y' → ts j = gi A 15 j ∧ te j = gi A 16 j ∧ es j = gi A 17 j) → nt0 ≤ nt →
  T2 own ld o a w v z sk sa sw ts te es nt d c c' m m' y y'
section Tt
variable {own : Nat} {ld : Int32} {o w z sk sa sw ts te es : Nat → Int32} {a v : Nat → Int64} {nt : Nat}
theorem t2_app {d c c1 c2 m m1 m2 t t1 t2 : Nat} (h : T2 own ld o a w v z sk sa sw ts te es nt d c c1 m m1 t t1) (g : T2 own ld o a w v z sk sa sw ts te es nt d c1 c2 m1 m2 t1 t2) : T2 own ld o a w v z sk sa sw ts te es nt d c c2 m m2 t t2 := by
  have K := t2_tr own ld o a w v z sk sa sw ts te es nt
  have key := h (fun d c c1 m m1 t t1 => T2 own ld o a w v z sk sa sw ts te es nt d c c1 m m1 t t1 ∧ ∀ c2 m2 t2, T2 own ld o a w v z sk sa sw ts te es nt d c1 c2 m1 m2 t1 t2 → T2 own ld o a w v z sk sa sw ts te es nt d c c2 m m2 t t2) ?_
  · exact key.2 c2 m2 t2 g
  · refine ⟨?_, ?_, ?_, ?_, ?_⟩
    · intro d c m t; exact ⟨K.1 d c m t, fun _ _ _ q => q⟩
    · intro d c c1 c2 m m2 t t2 h1 h2 h3 h4; exact ⟨K.2.1 d c c1 c2 m m2 t t2 h1 h2 h3 h4.1, fun c3 m3 t3 q => K.2.1 d c c1 c3 m m3 t t3 h1 h2 h3 (h4.2 c3 m3 t3 q)⟩
    · intro d c c2 m m2 t t2 r n q h1 h2 h3 h4 h5 h6 h7 h8 h9 h10 h11
      exact ⟨K.2.2.1 d c c2 m m2 t t2 r n q h1 h2 h3 h4 h5 h6 h7 h8 h9 h10 h11.1, fun c3 m3 t3 p => K.2.2.1 d c c3 m m3 t t3 r n q h1 h2 h3 h4 h5 h6 h7 h8 h9 h10 (h11.2 c3 m3 t3 p)⟩
    · intro d c c2 m m2 t t2 r n q h1 h2 h3 h4 h5 h6 h7 h8 h9 h10 h11
      exact ⟨K.2.2.2.1 d c c2 m m2 t t2 r n q h1 h2 h3 h4 h5 h6 h7 h8 h9 h10 h11.1, fun c3 m3 t3 p => K.2.2.2.1 d c c3 m m3 t t3 r n q h1 h2 h3 h4 h5 h6 h7 h8 h9 h10 (h11.2 c3 m3 t3 p)⟩
    · intro d c cb ce c2 m mb me m2 t tb t1 t2 h1 h2 h3 h4 h5 h6 h7 h8 h9 h10 h11 h12 h13
      exact ⟨K.2.2.2.2 d c cb ce c2 m mb me m2 t tb t1 t2 h1 h2.1 h3 h4 h5 h6 h7.1 h8 h9 h10 h11 h12 h13.1, fun c3 m3 t3 p => K.2.2.2.2 d c cb ce c3 m mb me m3 t tb t1 t3 h1 h2.1 h3 h4 h5 h6 h7.1 h8 h9 h10 h11 h12 (h13.2 c3 m3 t3 p)⟩
end Tt
theorem ts_nil {own d c m y r nt : Nat} {A B : Mem} : TS own d c c m m y y r nt A B := fun o a w v z ld sk sa sw ts te es nt _ _ _ _ _ _ => (t2_tr own ld o a w v z sk sa sw ts te es nt).1 d c m y
/-- later changes leave it -/
theorem TS.ko {own d c c' m m' y y' r r' r0 nt nt' cc mm yy : Nat} {A B A' B' : Mem} (h : TS own d c c' m m' y y' r nt A B) (k : KO cc r0 mm yy A B A' B') (hc : c' ≤ cc) (h0 : r ≤ r0) (hm : m' ≤ mm) (hy : y' ≤ yy) (hr : r ≤ r') (hn : nt ≤ nt') : TS own d c c' m m' y y' r' nt' A' B' := by
  intro o a w v z ld sk sa sw ts te es nt'' p1 p2 p3 p4 p5 p6
  refine h o a w v z ld sk sa sw ts te es nt'' (fun j j1 j2 => ?_) (fun j j1 => ?_) (fun Y e => p3 Y (k.2.2.2.1.2.2.1 Y e)) (fun j j1 j2 => ?_) (fun j j1 j2 => ?_) (by omega)
  · have q := k.2.2.2.1.1 j (by omega); rw [← q.1, ← q.2]; exact p1 j j1 j2
  · have q := k.2.2.2.1.2.1 j (by omega); rw [← q.1, ← q.2.1, ← q.2.2]; exact p2 j (by omega)
  · have q := k.2.2.2.2.1 j (by omega); rw [← q.1, ← q.2.1, ← q.2.2]; exact p4 j j1 j2
  · have q := k.2.2.2.2.2 j (by omega); rw [← q.1, ← q.2.1, ← q.2.2]; exact p5 j j1 j2
theorem TS.app {own d c c1 c2 m m1 m2 y y1 y2 r nt : Nat} {A B : Mem} (h : TS own d c c1 m m1 y y1 r nt A B) (g : TS own d c1 c2 m1 m2 y1 y2 r nt A B) (h1 : c ≤ c1) (h2 : c1 ≤ c2) (h3 : m ≤ m1) (h4 : m1 ≤ m2) (h5 : y ≤ y1) (h6 : y1 ≤ y2) : TS own d c c2 m m2 y y2 r nt A B := by
  intro o a w v z ld sk sa sw ts te es nt'' p1 p2 p3 p4 p5 p6
  exact t2_app (h o a w v z ld sk sa sw ts te es nt'' (fun j j1 j2 => p1 j j1 (by omega)) p2 p3 (fun j j1 j2 => p4 j j1 (by omega)) (fun j j1 j2 => p5 j j1 (by omega)) p6) (g o a w v z ld sk sa sw ts te es nt'' (fun j j1 j2 => p1 j (by omega) j2) p2 p3 (fun j j1 j2 => p4 j (by omega) j2) (fun j j1 j2 => p5 j (by omega) j2) p6)
