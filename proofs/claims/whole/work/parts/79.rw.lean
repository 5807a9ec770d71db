-- ===== under; the reader as a whole =====
def undR (M : Mem) : Option (Unit × Mem) :=
  (S_X11_isWord (1 : Int32) M).bind fun w12 =>
  if w12.1 = 0 then
  (SJ_X11_reads_114 FU  w12.2)
  else
  ((S_X11_advance w12.2).bind fun w13 =>
  (S_X11_takesNumber w13.2).bind fun w14 =>
  if ¬ (gi w14.2 181 11) = 0 then
  (SJ_X11_reads_108  w14.2)
  else
  ((S_X11_yearOf w14.1 (gi w13.2 181 7) w14.2).bind fun w15 =>
  SJ_X11_reads_108  (si w15.2 181 14 w15.1)))
/-- the year under which the sheet stands, and its code -/
def UnP (own c : Nat) (A B : Mem) : Prop := (c = 0 ∧ gi A 8 0 = -1 ∧ gi B 181 14 = -1) ∨ (c = 1 ∧ ∃ u, u < 30 ∧ u ≠ own ∧ bt (gi A 8 1) u = true ∧ gi A 8 0 = ni u ∧ gi B 181 14 = ni u ∧ gi A 9 0 = 16 ∧ gl A 10 0 = nl u)
section Un
variable {by_ : Nat → Nat} {n T own : Nat} {wd : Nat → Int64}
theorem lk_under {A B : Mem} (h : R by_ n T own wd 0 0 0 A B) (cx : Cx0 A B) (ct : Ct 0 0 0 0 0 A B) (rl : gi A 8 3 = -1 ∧ gi B 181 26 = -1) (u0 : gi A 8 0 = -1 ∧ gi B 181 14 = -1) (f0 : gi A 7 6 = 0) :
    ∃ A' B', S_X4_readUnder A = some ((), A') ∧ undR B = SJ_X11_reads_114 FU B' ∧ FrC2 A A' ∧ FrB2 B B' ∧ (Br n T 0 A' B' ∨ ∃ i c, Ou by_ n T own wd i c 0 0 0 0 0 0 A' B' ∧ gi B' 181 32 = gi B 181 32 ∧ (gi A' 7 6 = 0 → UnP own c A' B')) := by
  have p9 := h.p9
  have kl := kap_lt h
  unfold S_X4_readUnder undR
  rw [kind_eq h, bS]; dsimp only
  by_cases k0 : ¬ kap by_ n T wd 0 = 300
  · rw [if_neg (show ¬ ni (kap by_ n T wd 0) = 300 from fun q => k0 ((ni_inj (b := 300) (by omega) (by omega)).mp q)), isWord_n h (x := 1) (w := 0) rfl (by omega) k0, bS]; dsimp only
    rw [if_pos rfl]
    refine ⟨A, B, rfl, rfl, FrC2.rf, FrB2.rf, Or.inr ⟨0, 0, ⟨h, cx, ct, by omega, Or.inl rl, fun _ => ⟨⟨by omega, fun j hj => by omega⟩, ⟨by omega, fun j hj => by omega⟩, by omega, by omega, Or.inl rl⟩⟩, rfl, fun _ => Or.inl ⟨rfl, u0.1, u0.2⟩⟩⟩
  have k0 := Decidable.not_not.mp k0
  rw [k0, if_pos (show ni 300 = 300 from rfl), isWord_y h (x := 1) (w := 0) rfl (by omega) k0, bS]; dsimp only
  rw [if_neg (by decide)]
  obtain ⟨B1, a1, a2, a3, a4, a5, a6, a7, a8⟩ := adv' h (by omega)
  have p91 := a2.p9
  have kl1 := kap_lt a2
  rw [a1, bS, place_eq a2, bS]; dsimp only
  rw [content_eq a2, bS]; dsimp only
  unfold S_X11_takesNumber SJ_X11_takesNumber_15
  rw [a2.2.2.2.2.1, if_neg (show ¬ ¬ (0 : Int32) = 0 by decide)]
  by_cases k3 : ¬ kap by_ n T wd (0 + 1) = 3
  · have t1 : ¬ gi B1 181 6 = 1 := by
      rcases tok a2 with t | t | t | t | ⟨w, t⟩ | ⟨b', t⟩
      · rw [t.2.2]; decide
      · rw [t.2.2]; decide
      · rw [t.2.2.1]; decide
      · omega
      · rw [t.2.2.2.1]; decide
      · rw [t.2.2.2.2.1]; decide
    obtain ⟨A2, B2, r1, r2, r3, r4, r5⟩ := stop a2 (by omega)
    have br := br_of r5 (by omega) ((ct.fr a4 a5).fr r3 r4) (by omega) (by omega) (by omega)
    rw [take_n a2 (x := 3) (b := 3) rfl (by omega) k3, r1, bS, bS, if_neg t1, r2, bS, bS]; dsimp only
    rw [if_pos rfl, if_pos br.2.1.2.1]
    unfold SJ_X11_reads_108
    rw [wr_must br.2.1.2.1, bS]
    exact ⟨A2, B2, rfl, rfl, (a4.trans r3).to2, (a5.trans r4).to2, Or.inl br⟩
  have k3 := Decidable.not_not.mp k3
  have tk : gi B1 181 6 = 1 ∧ gi B1 181 9 = ni (chi by_ n T (0 + 1)) ∧ chi by_ n T (0 + 1) < 1000000000 := by
    rcases tok a2 with t | t | t | t | ⟨w, t⟩ | ⟨b', t⟩
    · omega
    · omega
    · omega
    · exact t.2.2
    · omega
    · omega
  obtain ⟨t1, t2, t3⟩ := tk
  obtain ⟨B2, b1, b2, b3, b4, b5, b6, b7, b8⟩ := adv' a2 (by omega)
  have p92 := b2.p9
  have hw := where_eq a2
  rw [take_y a2 (x := 3) (b := 3) rfl k3, bS, if_pos t1, b1, bS, bS, t2, hw]; dsimp only
  rw [if_neg (show ¬ (1 : Int32) = 0 by decide), b2.2.2.2.2.1, if_neg (show ¬ ¬ (0 : Int32) = 0 by decide)]
  have e0 : gi (si (si A 7 2 (gi A 7 2 + 1)) 7 2 (gi (si A 7 2 (gi A 7 2 + 1)) 7 2 + 1)) 7 6 = 0 := by rw [si_ff' (by omega), si_ff' (by omega)]; exact f0
  obtain ⟨A3, B3, Y, y1, y2, y3, y4, y5, y6, y7, y8, y9, y10, y11⟩ := lk_year (m := chi by_ n T (0 + 1)) (q := pfN by_ n (0 + 1)) b2 t3 (by omega) (Or.inl e0)
  rw [y1, y2, bS, bS]; dsimp only
  have eY : gi (si A3 8 0 (ni Y)) 8 0 = ni Y := si_eq
  rw [eY, ni_l (by omega)]
  have r4 := rC_si (a := 8) (j := 0) (x := ni Y) y5 (by omega)
  have c6 : gi (si A3 8 0 (ni Y)) 8 6 = ni 0 := r4.2.2.2.2.2.2.2.1
  rw [emC_eq c6 (by omega), bS]; dsimp only
  have r5 := r_emA (o := 16) (a := nl Y) r4
  have r6 := rB_si (a := 181) (j := 14) (x := if Y = own then -1 else ni Y) r5 (by omega)
  unfold SJ_X11_reads_108
  obtain ⟨x9, A7, B7, u1, u2, u3, u4, u5⟩ := lk_take r6 (by omega) (b := 59) (x := 59) rfl (by omega) (by omega)
  rw [u1, u2, bS, bS]; dsimp only
  have fA3 : FrC A A3 := (a4.trans b4).trans y6
  have fB3 : FrB B B3 := (a5.trans b5).trans y7
  have ct3 := ct.fr fA3 fB3
  have ct6 : Ct 0 0 0 0 0 (emA (si A3 8 0 (ni Y)) 0 16 (nl Y)) (si B3 181 14 (if Y = own then -1 else ni Y)) := by
    have q : Ct 0 0 0 0 0 (si A3 8 0 (ni Y)) (si B3 181 14 (if Y = own then -1 else ni Y)) := ⟨⟨(si_ff' (by omega)).trans ct3.1.1, (si_ff' (by omega)).trans ct3.1.2⟩, ⟨(si_ff' (by omega)).trans ct3.2.1.1, (si_ff' (by omega)).trans ct3.2.1.2⟩, ⟨(si_ff' (by omega)).trans ct3.2.2.1.1, (si_ff' (by omega)).trans ct3.2.2.1.2⟩, (si_ff' (by omega)).trans ct3.2.2.2.1, (si_ff' (by omega)).trans ct3.2.2.2.2.1, ct3.2.2.2.2.2⟩
    exact q.fr emA_fr FrB.rf
  have f7 : FrC2 A A7 := ((fA3.to2.trans (frC2_si (by omega) (by omega))).trans emA_fr.to2).trans u3.to2
  have g7 : FrB2 B B7 := (fB3.to2.trans (frB2_f (by omega))).trans u4.to2
  refine ⟨A7, B7, rfl, rfl, f7, g7, ?_⟩
  rcases u5 with u5 | ⟨u5, u6, u7, u8, u9⟩
  · exact Or.inl (br_of u5 (by omega) (ct6.fr u3 u4) (by omega) (by omega) (by omega))
  have fe : FrC (si A3 8 0 (ni Y)) A7 := emA_fr.trans u3
  have e83 : gi A7 8 3 = -1 := by rw [fe.2.2.2.2 3 (by omega) (by omega), si_ff' (by omega), fA3.2.2.2.2 3 (by omega) (by omega)]; exact rl.1
  have e26 : gi B7 181 26 = -1 := by rw [u4.2.2.2.1 26 (by omega), si_ff' (by omega), fB3.2.2.2.1 26 (by omega)]; exact rl.2
  have kb : ∀ {c' r'}, Kb c' r' (emA (si A3 8 0 (ni Y)) 0 16 (nl Y)) (si B3 181 14 (if Y = own then -1 else ni Y)) A7 B7 := by intro c' r'; rw [u6]; exact kb_adv u7
  refine Or.inr ⟨_, 1, ⟨u8, ⟨?_, ?_, ?_⟩, ct6.fr u3 u4, by omega, Or.inl ⟨e83, e26⟩, fun _ => ⟨⟨by omega, fun j hj => by omega⟩, ⟨by omega, fun j hj => by omega⟩, by omega, by omega, Or.inl ⟨e83, e26⟩⟩⟩, ?_, fun e => Or.inr ⟨rfl, Y, y3, ?_⟩⟩
  · rw [fe.2.2.2.1 4 (by omega) (by omega) (by omega) (by omega), gi_ne (by omega), fA3.2.2.2.1 4 (by omega) (by omega) (by omega) (by omega)]; exact cx.1
  · rw [u4.2.2.2.1 33 (by omega), si_ff' (by omega), fB3.2.2.2.1 33 (by omega)]; exact cx.2.1
  · rw [u4.2.2.2.1 34 (by omega), si_ff' (by omega), fB3.2.2.2.1 34 (by omega)]; exact cx.2.2
  · rw [u4.2.2.2.1 32 (by omega), si_ff' (by omega), fB3.2.2.2.1 32 (by omega)]
  · have e3 : gi A3 7 6 = 0 := by
      refine Classical.byContradiction fun q => (kb (c' := 0) (r' := 0)).2.2.2 ?_ e
      rw [emA_f (by omega) (by omega), gi_ne (by omega)]; exact q
    have hY : Y ≠ own := fun q => y11 q e3
    have k1 := (kb (c' := 1) (r' := 0)).1 0 (by omega)
    refine ⟨hY, ?_, ?_, ?_, ?_, ?_⟩
    · have := (kb (c' := 0) (r' := 0)).2.2.1 Y
      refine this ?_
      rw [emA_f (by omega) (by omega), si_ff' (by omega)]; exact y4 hY
    · rw [fe.2.2.2.2 0 (by omega) (by omega)]; exact eY
    · rw [u4.2.2.2.1 14 (by omega), si_eq, if_neg hY]
    · rw [k1.1, emA_9, if_pos rfl]
    · rw [k1.2, emA_10, if_pos rfl]
end Un
/-- what stands in the draft at the end of a text without a fault -/
def RdOk (own : Nat) (A B : Mem) : Prop := ∃ c r k t m y, (gi A 8 6 = ni c ∧ c ≤ 1000 ∧ gi B 181 27 = ni r ∧ r ≤ 1200) ∧ (gi A 8 9 = ni k ∧ gi B 181 15 = ni k ∧ k ≤ 8) ∧ (gi A 8 12 = ni t ∧ gi B 181 18 = ni t ∧ t ≤ 6) ∧ gi A 8 2 = gi B 181 22 ∧ (gi B 181 21 = ni m ∧ m ≤ 120) ∧ (gi A 8 16 = ni y ∧ y ≤ 40) ∧
  ∀ (V : CV) (W : RV), (cUn V = gi A 8 0 ∧ cLe V = gi A 8 1 ∧ cRu V = gi A 8 3) → (∀ j, j < c + 1 → cO V j = gi (emA A c 21 0) 9 j ∧ cA V j = gl (emA A c 21 0) 10 j) → cSz V = c + 1 → (∀ j, j < k → cCn V j = gl A 11 j ∧ cCs V j = gi A 12 j) → cNc V = k → (∀ j, j < t → cTn V j = gl A 13 j ∧ cTz V j = gi A 14 j) → cNt V = t → (∀ j, j < y → cTs V j = gi A 15 j ∧ cTe V j = gi A 16 j ∧ cEs V j = gi A 17 j) → cNy V = y →
    (rUn W = gi B 181 14 ∧ rLe W = gi B 181 35 ∧ rRu W = gi B 181 26) → (∀ j, j < r → rW W j = gi B 191 j ∧ rV W j = gl B 192 j ∧ rZ W j = gi B 193 j) → (∀ j, j < m → rSk W j = gi B 188 j ∧ rSa W j = gi B 189 j ∧ rSw W j = gi B 190 j) → rNs W = m → (∀ j, j < k → rCn W j = gl B 184 j ∧ rCa W j = gi B 185 j) → rNc W = k → (∀ j, j < t → rTn W j = gl B 186 j ∧ rTz W j = gi B 187 j) → rNt W = t → Txt own V W
theorem fml_of {own c r : Nat} {kk : Bool × Nat} {h : Nat} {x y : Int32} {A B : Mem} {V : CV} {W : RV} (e0 : gi A 7 6 = 0) (f : FmF own kk h x y c r A B) (hc : c < 1020) (hr : r ≤ 1200) (le : cLe V = gi A 8 1) (hO : ∀ j, j < c → cO V j = gi A 9 j ∧ cA V j = gl A 10 j) (sz : cSz V = c + 1) (hW : ∀ j, j < r → rW W j = gi B 191 j ∧ rV W j = gl B 192 j ∧ rZ W j = gi B 193 j) : Fml kk.1 kk.2 own V W h x y := by
  obtain ⟨c0, r0, n0, f1, f2, f3, f4, f5, f6, f7⟩ := f
  refine ⟨c0, r0, n0, f1, f2, f3 e0 _ _ _ _ _ _ (fun j j1 j2 => hO j (by omega)) (fun j j1 j2 => hW j (by omega)) (fun Y e => by rw [le]; exact e), ?_, ?_, by omega, by omega⟩
  · rw [(hO _ f6).1]; exact f4
  · rw [(hW _ f7).1]; exact f5
theorem rd_ok {by_ : Nat → Nat} {n T own : Nat} {wd : Nat → Int64} {i c r k t s m y c0 : Nat} {A B : Mem} (h : Ou by_ n T own wd i c r k t s m y A B) (e : gi A 7 6 = 0) (ts : TS own 3 c0 c 0 m 0 y r t A B) (hm : m ≤ 3 * s) (hc : c0 ≤ c) (un : UnP own c0 A B) : RdOk own A B := by
  have bd := h.bd
  obtain ⟨hR, cx, ct, hb, rl, cn⟩ := h
  obtain ⟨⟨g1, g2⟩, ⟨g3, g4⟩, g5, g6, g7⟩ := cn e
  have ek : m8 8 k = k := if_pos (by omega)
  have et : m8 6 t = t := if_pos (by omega)
  have ea : gi A 8 1 = gi B 181 35 := hR.2.2.2.2.2.2.2.2.2
  refine ⟨c, r, k, t, m, y, ⟨hR.2.2.2.2.2.2.2.1, by omega, hR.2.2.2.2.2.2.2.2.1, by omega⟩, ⟨by rw [← ek]; exact ct.1.1, ct.1.2, g1⟩, ⟨by rw [← et]; exact ct.2.1.1, ct.2.1.2, g3⟩, ct.2.2.1.1.trans ct.2.2.1.2.symm, ⟨ct.2.2.2.1, by omega⟩, ct.2.2.2.2, ?_⟩
  intro V W v1 v2 v3 v4 v5 v6 v7 v8 v9 w1 w2 w3 w4 w5 w6 w7 w8
  have hO : ∀ j, j < c → cO V j = gi A 9 j ∧ cA V j = gl A 10 j := fun j hj => by
    have q := v2 j (by omega)
    rw [emA_9, emA_10, if_neg (by omega), if_neg (by omega)] at q; exact q
  have hL := v2 c (by omega)
  rw [emA_9, emA_10, if_pos rfl, if_pos rfl] at hL
  refine ⟨⟨?_, ?_⟩, ?_, ⟨?_, ?_, ?_⟩, ⟨?_, ?_, ?_⟩, ?_, ?_, ?_, c0, c, ?_, ?_, hL.1, v3⟩
  · rw [v1.1, w1.1]
    rcases un with ⟨_, u1, u2⟩ | ⟨_, u, _, _, _, u1, u2, _⟩ <;> rw [u1, u2]
  · rw [v1.2.1, w1.2.1]; exact ea
  · rw [v1.2.2, w1.2.2]
    rcases g7 with g7 | g7
    · exact Or.inl g7
    · exact Or.inr (fml_of e g7 (by omega) (by omega) v1.2.1 hO v3 w2)
  · rw [v5, w6]
  · rw [v5]; exact g1
  · intro j hj
    rw [v5] at hj
    rw [(v4 j hj).1, (v4 j hj).2, (w5 j hj).1, (w5 j hj).2]
    exact ⟨(g2 j hj).1, fml_of e (g2 j hj).2 (by omega) (by omega) v1.2.1 hO v3 w2⟩
  · rw [v7, w8]
  · rw [v7]; exact g3
  · intro j hj
    rw [v7] at hj
    rw [(v6 j hj).1, (v6 j hj).2, (w7 j hj).1, (w7 j hj).2]
    exact g4 j hj
  · rw [w4]; omega
  · rw [v9]; exact ct.2.2.2.2.2
  · rw [v3]; omega
  · rw [v1.1]
    rcases un with ⟨u0, u1, u2⟩ | ⟨u0, u, u3, u4, u5, u1, u2, u6, u7⟩
    · exact Or.inl ⟨u1, u0⟩
    · have q := hO 0 (by omega)
      exact Or.inr ⟨u, u3, u4, by rw [v1.2.1]; exact u5, u1, q.1.trans u6, q.2.trans u7, u0⟩
  · rw [w4, v9, v7]
    exact ts _ _ _ _ _ _ _ _ _ _ _ _ _ (fun j j1 j2 => hO j j2) w2 (fun Y q => by rw [v1.2.1]; exact q) (fun j j1 j2 => w3 j j2) (fun j j1 j2 => v8 j j2) (Nat.le_refl _)
