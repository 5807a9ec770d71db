-- ===== a start, in both: steps and end =====
theorem si_id {M : Mem} {a j : Nat} {x : Int32} (h : gi M a j = x) : si M a j x = M := by
  subst h
  unfold si
  refine Prod.ext rfl (Prod.ext rfl (Prod.ext (funext fun p => funext fun q => ?_) rfl))
  dsimp only
  by_cases e : p = a ∧ q = j
  · rw [if_pos e, e.1, e.2]; rfl
  · rw [if_neg e]
section Nd
variable {o : Nat → Int32} {a : Nat → Int64} {w : Nat → Int32} {v : Nat → Int64} {z : Nat → Int32} {nn : Nat} {L f D Y s sp N c0 c1 : Nat} {rS : Int32 → Mem → Option (Int32 × Mem)} {sk sa sw ts te es : Nat → Int32} {nt ny : Nat} {A B : Mem} {ld : Int32}
/-- a frame that was thrown out of -/
theorem nd_pass {t j pc q : Nat} {x : Int32} {A1 A' B' : Mem} (th : Th A1 t x j A') (hj : j + D + 1 ≤ 31) (mi : Mi L A' B') (fr : FrAt A' D Y s pc sp q 1) (dep : gi A' 144 2 = ni (D + 1)) (hY : Y < 30) (hT : Try ts te es ny s A') (hc : ∀ i, i < ny → ni pc < ts i ∨ te i ≤ ni pc) (h4 : gi B' 212 Y = 4) :
    ∃ A2, Th A1 t x (j + 1) A2 ∧ Mi L A2 (si (si B' 212 Y 3) 214 Y x) ∧ gi A2 144 2 = ni D ∧ FA D sp A' A2 ∧ nst (si (si B' 212 Y 3) 214 Y x) = nst B' := by
  refine ⟨_, th.pass hj dep fr hY hT hc, ?_, si_eq, ?_, ?_⟩
  · have m1 : Mi L (si A' 144 4 (ni sp)) B' := mi_p mi (frv_si (by omega)) FrV.rf
    exact mi_p (mi_phase (x := 3) (u := x) m1 hY (by rw [h4]; decide) (Or.inr rfl)) (frv_si (by omega)) FrV.rf
  · exact (((frv_si (by omega)).tr (frv_si (by omega))).tr (frv_si (by omega))).tr (frv_si (by omega))
  · rw [nst_eq (gi_ne (by omega)), nst_same (by rw [h4]; decide) (by decide)]
/-- steps and end -/
theorem nd_steps (hb : sp ≤ 40 * D) (hNd : NdS L f rS) (hN : N ≤ 120) (T : T2 Y ld o a w v z sk sa sw ts te es nt 3 c0 c1 0 N 0 ny) (h21 : o c1 = 21) (hnn : nn = c1 + 1) (hC : Cs o a w v z nn L D Y s c0 sp A B) (hS : Sx sk sa sw ts te es nt ny Y s A B) (hn : nst B < f) (h203 : gi B 203 (30 + Y) = ni N) :
    ∃ x B' t A', SJ_X11_needs_122 rS (ni Y) 0 B = some (x, B') ∧ ¬ x = -1 ∧ FB sp B B' ∧ (∀ u, u < 30 → u ≠ Y → (gi B' 212 u = gi B 212 u ∧ gi B' 214 u = gi B 214 u ∧ ∀ j, j < 3 → gi B' 221 (3 * u + j) = gi B 221 (3 * u + j)) ∨ (gi B 212 u = 1 ∧ (gi B' 212 u = 2 ∨ gi B' 212 u = 3))) ∧ (gi B' 212 Y = 2 ∨ gi B' 212 Y = 3) ∧ gi B' 181 63 = ni sp ∧ t + 14000 * nst B' ≤ 13 * (c1 - c0) + 1 + 14000 * nst B ∧ Mi L A' B' ∧ gi A' 144 2 = ni D ∧ FA D sp A A' ∧
      ((x = 0 ∧ DmO A' Y ∧ Go A t A' ∧ gi A' 144 4 = ni sp) ∨ (¬ x = 0 ∧ ∃ j, j + D ≤ 31 ∧ Th A t x j A')) := by
  have y30 := hS.2.2.2.2.2
  have n1024 := hC.n1024
  have eD : S_X11_does rS (ni Y) B = D24 rS Y N FU 0 0 B := by
    unfold S_X11_does D24
    rw [show (30 : Int32) + ni Y = ni (30 + Y) from ni_add 30 Y, gdT ((ni_inb (by omega)).mpr (by omega)), ni_tn (by omega), h203, show (120 : Int32) * ni (30 + Y) = ni (120 * (30 + Y)) from ni_mul 120 (30 + Y)]
    rfl
  have i30 : inb (ni Y) 30 := (ni_inb (by omega)).mpr y30
  have e147 : ∀ (x e : Int32) (M : Mem), SJ_X11_needs_147 rS (ni Y) x (ni Y) e M = some (x, si (si M 212 Y e) 214 Y x) := fun x e M => by
    unfold SJ_X11_needs_147
    rw [gdT i30, gdT i30, ni_tn (by omega)]
  unfold SJ_X11_needs_122 SJ_X11_needs_133
  rw [if_neg (fun q => q rfl), eD]
  rcases (sd_all (nn := nn) (s := s) (ny := ny) hb hNd hN T).2 A B FU 0 hC hS (by omega) (by have : FU = 4000000 := rfl; omega) (by omega) (Nat.le_refl _) (Nat.le_refl _) hn (fun i i1 i2 => by omega) with ⟨F', A1, B1, P, C1⟩ | ⟨F', x, B1, mm, t, j, A1, g1, g2, g3, g4, g5, g6, g7, g8, ⟨pc, q, p1, p2, p3, p4, p5⟩, g10, g11, g12, g13⟩
  · have S1 := hS.fr P.2.2.2.1 P.2.2.2.2.1 P.2.2.2.2.2
    obtain ⟨P1, P2, ⟨t, P3, P4⟩, P5, P6, P7⟩ := P
    obtain ⟨q, hq, C⟩ := C1
    obtain ⟨t1, t2, t3, t4⟩ := C.2.2.2.1
    obtain ⟨f0, f1, f2, f3, f4, f5⟩ := C.2.2.1
    have hd := C.d31
    obtain ⟨G, rfl⟩ : ∃ g, F' = g + 1 := ⟨F' - 1, by have : FU = 4000000 := rfl; omega⟩
    have eE : D24 rS Y N (G + 1) 0 N B1 = some (0, B1) := by
      unfold D24
      rw [SJ_X11_does_24]; dsimp only
      rw [if_pos ((ni_le (by omega) (by omega)).mpr (Nat.le_refl _))]
    rw [P2, eE, bS]; dsimp only
    rw [if_neg (fun q => q rfl), e147]
    have h4 : gi B1 212 Y = 4 := S1.2.2.2.2.1
    have dy := C.1.2.2.2.2.2.1 Y y30
    have thr0 : gi B1 214 Y = 0 := by
      rcases dy.2.2 (by rw [S1.1]; simp) with h | h | h | h
      · exact h.2
      · rw [h4] at h; exact absurd h (by decide)
      · rw [h4] at h; exact absurd h (by decide)
      · exact h.2
    have adv : S_X3_advance D A1 = some (-1, si (si A1 (21 + 4 * Y) 1 2) 144 2 (ni D)) := by
      rw [cf_adv C (by omega), h21]; unfold advO
      rw [if_neg (by decide), if_neg (by decide), if_neg (by decide), if_neg (by decide), if_neg (by decide), if_neg (by decide), if_neg (by decide), if_neg (by decide), if_neg (by decide), if_neg (by decide), if_neg (by decide), if_neg (by decide), if_neg (by decide), if_pos rfl]
      unfold S_X3_finish SJ_X3_finish_23
      rw [f5, if_neg (by decide), f0, gdT i30, ni_tn (by omega), bS]; dsimp only
      rw [gi_ne (show 144 ≠ 21 + 4 * Y by omega), t1, show ni (D + 1) - 1 = ni D from (ni_sub (a := D + 1) (b := 1) (by omega)).trans (congrArg ni (by omega))]
    have mi1 := mi_phase (x := 2) (u := 0) C.1 y30 (by rw [h4]; decide) (Or.inl rfl)
    rw [si_id (M := si A1 (21 + 4 * Y) 1 2) (by rw [si_ff' (by omega), dy.1.2.1]; exact thr0)] at mi1
    have mi2 : Mi L (si (si A1 (21 + 4 * Y) 1 2) 144 2 (ni D)) (si (si B1 212 Y 2) 214 Y 0) := mi_p mi1 (frv_si (by omega)) FrV.rf
    have ns : nst (si (si B1 212 Y 2) 214 Y 0) = nst B1 := by rw [nst_eq (gi_ne (by omega)), nst_same (by rw [h4]; decide) (by decide)]
    have fb : FB sp B1 (si (si B1 212 Y 2) 214 Y 0) := (frv_si (by omega)).tr (frv_si (by omega))
    have fa : FA D sp A1 (si (si A1 (21 + 4 * Y) 1 2) 144 2 (ni D)) := (frv_si (by omega)).tr (frv_si (by omega))
    refine ⟨0, _, t + 1, _, rfl, by decide, P6.tr fb (Nat.le_refl _), fun u hu ne => ?_, Or.inl ?_, ?_, by rw [ns]; omega, mi2, si_eq, P5.tr fa (Nat.le_refl _), Or.inl ⟨rfl, ⟨?_, ?_, ?_⟩, P3.tr (go_m t1 hd adv), ?_⟩⟩
    · rw [gi_ne (show 212 ≠ 214 by omega), si_ff' ne, si_ff' ne, gi_ne (show 214 ≠ 212 by omega), gi_ne (show 221 ≠ 214 by omega), gi_ne (show 221 ≠ 212 by omega)]
      exact (P7 u hu).1 ne
    · rw [gi_ne (by omega), si_eq]
    · rw [gi_ne (by omega), gi_ne (by omega)]; exact t3
    · show gr A1 (21 + 4 * Y) 0 ≠ none
      rw [S1.1]; simp
    · rw [gi_ne (by omega), si_eq]; decide
    · rw [gi_ne (by omega), si_eq]; decide
    · rw [si_ff' (by omega), gi_ne (by omega)]; exact t2
  · have S1 := hS.fr g11 g12 g13
    rw [g3, d196_e g2.1, bS]; dsimp only
    rw [if_pos g2.1, e147]
    have h4 : gi B1 212 Y = 4 := S1.2.2.2.2.1
    obtain ⟨A2, n1, n2, n3, n4, n5⟩ := nd_pass g5 g6 g8 p5 g10 y30 S1.2.1 (fun i hi => p4 i (by omega) hi) h4
    have fb : FB sp B1 (si (si B1 212 Y 3) 214 Y x) := (frv_si (by omega)).tr (frv_si (by omega))
    refine ⟨x, _, t, A2, rfl, g2.2, g12.tr fb (Nat.le_refl _), fun u hu ne => ?_, Or.inr ?_, ?_, by rw [n5]; omega, n2, n3, g11.tr n4 (Nat.le_refl _), Or.inr ⟨g2.1, j + 1, by omega, n1⟩⟩
    · rw [gi_ne (show 212 ≠ 214 by omega), si_ff' ne, si_ff' ne, gi_ne (show 214 ≠ 212 by omega), gi_ne (show 221 ≠ 214 by omega), gi_ne (show 221 ≠ 212 by omega)]
      exact (g13 u hu).1 ne
    · rw [gi_ne (by omega), si_eq]
    · rw [gi_ne (by omega), gi_ne (by omega)]; exact g4
end Nd
