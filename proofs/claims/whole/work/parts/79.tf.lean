-- ===== steps in both =====
def Cs (o : Nat → Int32) (a : Nat → Int64) (w : Nat → Int32) (v : Nat → Int64) (z : Nat → Int32) (nn L d y s c b : Nat) (A B : Mem) : Prop := ∃ q, q ≤ 12 ∧ Cf o a w v z nn L d y s c b q 1 b A B
/-- a way through steps -/
def Ps (rS : Int32 → Mem → Option (Int32 × Mem)) (d y b N wi wi' wp n k F m : Nat) (A B : Mem) (F' m' : Nat) (A' B' : Mem) : Prop := F ≤ F' + n ∧ D24 rS y N F wi m B = D24 rS y N F' wi' m' B' ∧ (∃ t, Go A t A' ∧ t + 14000 * nst B' ≤ k + 14000 * nst B) ∧ FA d b A A' ∧ FB b B B' ∧ Py y wp B B'
/-- something is thrown out of steps -/
def SdT (rS : Int32 → Mem → Option (Int32 × Mem)) (ts te : Nat → Int32) (L d y s b N wi wp n k c c2 t1 t2 F m : Nat) (A B : Mem) : Prop := ∃ F' x B' mm t j A', F ≤ F' + n ∧ (¬ x = 0 ∧ ¬ x = -1) ∧ D24 rS y N F wi m B = D196 rS y N F' wi x mm B' ∧ gi B' 181 63 = ni b ∧ Th A t x j A' ∧ j + d + 1 ≤ 31 ∧ t + 14000 * nst B' ≤ k + 14000 * nst B ∧ Mi L A' B' ∧ (∃ pc q, q ≤ 12 ∧ c ≤ pc ∧ pc < c2 ∧ (∀ i, t1 ≤ i → i < t2 → ni pc < ts i ∨ te i ≤ ni pc) ∧ FrAt A' d y s pc b q 1) ∧ gi A' 144 2 = ni (d + 1) ∧ FA d b A A' ∧ FB b B B' ∧ Py y wp B B'
section Sd1
variable {o : Nat → Int32} {a : Nat → Int64} {w : Nat → Int32} {v : Nat → Int64} {z : Nat → Int32} {nn : Nat} {L f d y s pc b q sp N F wi m : Nat} {rS : Int32 → Mem → Option (Int32 × Mem)} {sk sa sw ts te es : Nat → Int32} {nt ny : Nat} {A B A' B' : Mem}
theorem Ps.tr {wi1 wi2 wp wp' n k n' k' F1 m1 F2 m2 : Nat} {A1 B1 A2 B2 : Mem} (h : Ps rS d y b N wi wi1 wp n k F m A B F1 m1 A1 B1) (g : Ps rS d y b N wi1 wi2 wp' n' k' F1 m1 A1 B1 F2 m2 A2 B2) (hw : wp ≤ wp') : Ps rS d y b N wi wi2 wp (n + n') (k + k') F m A B F2 m2 A2 B2 := by
  obtain ⟨h1, h2, ⟨t, h3, h4⟩, h5, h6, h7⟩ := h
  obtain ⟨g1, g2, ⟨u, g3, g4⟩, g5, g6, g7⟩ := g
  exact ⟨by omega, h2.trans g2, ⟨t + u, h3.tr g3, by omega⟩, h5.tr g5 (Nat.le_refl _), h6.tr g6 (Nat.le_refl _), h7.tr g7 hw⟩
theorem Ps.le {wi1 wp n k n' k' F1 m1 : Nat} {A1 B1 : Mem} (h : Ps rS d y b N wi wi1 wp n k F m A B F1 m1 A1 B1) (hn : n ≤ n') (hk : k ≤ k') : Ps rS d y b N wi wi1 wp n' k' F m A B F1 m1 A1 B1 := by
  obtain ⟨h1, h2, ⟨t, h3, h4⟩, h5⟩ := h
  exact ⟨by omega, h2, ⟨t, h3, by omega⟩, h5⟩
theorem Ps.thr {wi1 wp wp' n k n' k' c c2 t1 t2 F1 m1 : Nat} {A1 B1 : Mem} (h : Ps rS d y b N wi wi1 wp n k F m A B F1 m1 A1 B1) (g : SdT rS ts te L d y s b N wi1 wp' n' k' c c2 t1 t2 F1 m1 A1 B1) (e : wi1 = wi) (hw : wp ≤ wp') : SdT rS ts te L d y s b N wi wp (n + n') (k + k') c c2 t1 t2 F m A B := by
  subst e
  obtain ⟨h1, h2, ⟨t, h3, h4⟩, h5, h6, h7⟩ := h
  obtain ⟨F', x, B', mm, u, j, A', g1, g2, g3, g4, g5, g6, g7, g8, g9, g10, g11, g12, g13⟩ := g
  exact ⟨F', x, B', mm, t + u, j, A', by omega, g2, h2.trans g3, g4, h3.th g5, g6, by omega, g8, g9, g10, h5.tr g11 (Nat.le_refl _), h6.tr g12 (Nat.le_refl _), h7.tr g13 hw⟩
theorem SdT.le {wp wp' n k n' k' c c2 c' c2' t1 t2 t1' t2' : Nat} (g : SdT rS ts te L d y s b N wi wp n k c c2 t1 t2 F m A B) (hn : n ≤ n') (hk : k ≤ k') (hc : c' ≤ c) (hc2 : c2 ≤ c2') (hw : wp' ≤ wp) (ht : ∀ pc i, c ≤ pc → pc < c2 → t1' ≤ i → i < t2' → (t1 ≤ i ∧ i < t2) ∨ ni pc < ts i ∨ te i ≤ ni pc) : SdT rS ts te L d y s b N wi wp' n' k' c' c2' t1' t2' F m A B := by
  obtain ⟨F', x, B', mm, u, j, A', g1, g2, g3, g4, g5, g6, g7, g8, ⟨pc, q, p1, p2, p3, p4, p5⟩, g10, g11, g12, g13⟩ := g
  refine ⟨F', x, B', mm, u, j, A', by omega, g2, g3, g4, g5, g6, by omega, g8, ⟨pc, q, p1, by omega, by omega, fun i i1 i2 => ?_, p5⟩, g10, g11, g12, g13.mono hw⟩
  rcases ht pc i p2 p3 i1 i2 with ⟨z1, z2⟩ | z
  · exact p4 i z1 z2
  · exact z
theorem ps_jump {c c1 : Nat} (hC : Cs o a w v z nn L d y s c b A B) (ho : o c = 14) (ha : a c = nl c1) (hc : c < nn) : ∃ A', Ps rS d y b N wi wi wi 0 1 F m A B F m A' B ∧ Cs o a w v z nn L d y s c1 b A' B := by
  obtain ⟨q, hq, C⟩ := hC
  have adv : S_X3_advance d A = some (-1, si A (146 + d) 2 (ni c1)) := by
    rw [cf_adv C hc, ho, ha]; unfold advO
    rw [if_neg (by decide), if_neg (by decide), if_neg (by decide), if_neg (by decide), if_neg (by decide), if_neg (by decide), if_pos rfl, nl_i]
  obtain ⟨t1, t2, t3, t4⟩ := C.2.2.2.1
  have hd := C.d31
  obtain ⟨c1', c2, c3, c4, c5⟩ := cf_step (p := b) (m := b) C (frv_si (Or.inr ⟨rfl, rfl⟩)) FrV.rf (show gi (si A (146 + d) 2 (ni c1)) 144 4 = ni b by rw [gi_ne (by omega)]; exact t2) t3 si_eq t4
  exact ⟨_, ⟨by omega, rfl, ⟨1, go_m t1 hd adv, by omega⟩, c2, c3, Py.rf⟩, q, hq, c1'⟩
theorem ps_table {c r n : Nat} {ld : Int32} (hb : b ≤ 40 * d) (hNd : NdS L f rS) (hC : Cs o a w v z nn L d y s c b A B) (hS : Sx sk sa sw ts te es nt ny y s A B) (hm : m < N) (hN : N ≤ 120) (hw3 : wi ≤ 3) (hn : nst B < f)
    (h17 : o c = 17) (hE : E2 false 1 y ld o a w v z (c + 1) r n 37) (ho : o (c + 1 + n) = 18) (ha : a (c + 1 + n) = nl ((c + 1) * 8 + q)) (hq : q < nt) (h11 : w (r + n) = 11) (hr : r + n < 1200) (hk : sk m = 0) (hsa : sa m = ni r) (hsw : sw m = ni q) (hc : c + 1 + n < nn) :
    (∃ A' B', Ps rS d y b N wi wi wi 1 (13 * (n + 2)) (F + 1) m A B F (m + 1) A' B' ∧ Cs o a w v z nn L d y s (c + n + 2) b A' B') ∨ SdT rS ts te L d y s b N wi wi 1 (13 * (n + 2)) c (c + n + 2) 0 0 (F + 1) m A B := by
  obtain ⟨q0, hq0, C⟩ := hC
  obtain ⟨hq5, qz, z1, z2, z3⟩ := hS.2.2.2.1 q hq
  have y30 := C.y30
  have hd := C.d31
  have g := C.1.2.2.1 y y30
  rw [hS.1] at g
  have l6 : ln A (s + 5) ≤ 6 := g.2.2.1.2.2.2.1.2.1
  have adv : S_X3_advance d A = some (0, si A (146 + d) 4 0) := by
    rw [cf_adv C (by omega), h17]; unfold advO
    rw [if_neg (by decide), if_neg (by decide), if_neg (by decide), if_neg (by decide), if_neg (by decide), if_neg (by decide), if_neg (by decide), if_neg (by decide), if_neg (by decide), if_pos rfl]
  obtain ⟨t1, t2, t3, t4⟩ := C.2.2.2.1
  obtain ⟨f0, f1, f2, f3, f4, f5⟩ := C.2.2.1
  have go := go_0 t1 hd adv
  rw [show gi (si A (146 + d) 4 0) (146 + d) 2 = ni c by rw [si_ff' (by omega)]; exact f2, show ni c + 1 = ni (c + 1) from ni_add c 1] at go
  have pa : PA A (si (si A (146 + d) 4 0) (146 + d) 2 (ni (c + 1))) := (frv_si (by omega)).tr (frv_si (by omega))
  have fa : FA d b A (si (si A (146 + d) 4 0) (146 + d) 2 (ni (c + 1))) := (frv_si (by omega)).tr (frv_si (by omega))
  have fj : ∀ j, j ≠ 4 → j ≠ 2 → gi (si (si A (146 + d) 4 0) (146 + d) 2 (ni (c + 1))) (146 + d) j = gi A (146 + d) j := fun j h4 h2 => by rw [si_ff' h2, si_ff' h4]
  have C1 : Cf o a w v z nn L d y s (c + 1) b 0 1 b (si (si A (146 + d) 4 0) (146 + d) 2 (ni (c + 1))) B := by
    refine ⟨mi_p C.1 pa FrV.rf, rw_q C.2.1 fa.q FrV.rf, ⟨(fj 0 (by omega) (by omega)).trans f0, f1, si_eq, (fj 3 (by omega) (by omega)).trans f3, ?_, (fj 5 (by omega) (by omega)).trans f5⟩, ⟨?_, ?_, t3, t4⟩, C.2.2.2.2⟩
    · rw [si_ff' (by omega), si_eq]; rfl
    · rw [gi_ne (by omega), gi_ne (by omega)]; exact t1
    · rw [gi_ne (by omega), gi_ne (by omega)]; exact t2
  have eb : S_X11_builds rS (ni y) (ni q) (ni r) B = SJ_X11_builds_19 rS FU (ni y) (ni q) (ni r) (ni qz) (ni 0) B := by
    unfold S_X11_builds
    rw [show (30 : Int32) + ni y = ni (30 + y) from ni_add 30 y, show (6 : Int32) * ni (30 + y) + ni q = ni (6 * (30 + y) + q) by rw [show (6 : Int32) = ni 6 from rfl, ni_mul, ni_add], gdT ((ni_inb (by omega)).mpr (by omega)), ni_tn (by omega), z3]
    rfl
  have bd : (qz - 1 + 1) * (n + 1) ≤ 12 * (n + 1) := Nat.mul_le_mul_right _ (by omega)
  have e0 : D24 rS y N (F + 1) wi m B = (SJ_X11_builds_19 rS FU (ni y) (ni q) (ni r) (ni qz) (ni 0) B).bind fun w1 => D196 rS y N F wi w1.1 (m + 1) w1.2 := by
    rw [d24_pre hS hm hN, hk, if_pos rfl, hsw, hsa, eb]
  rcases tab_lp (j := qz - 1) (i := 0) (F := FU) hb hNd hE ho ha h11 hr hc z2 (by omega) (by have : FU = 4000000 := rfl; omega) C1 hS.1 hq5 z3 hn with ⟨t, A2, B2, e1, go2, ht, C2, fa2, fb2, ph2⟩ | ⟨x, B2, q', e1, hq', W⟩
  · rw [e1, bS] at e0
    generalize (qz - 1 + 1) * (n + 1) = M at bd ht
    refine Or.inl ⟨A2, B2, ⟨by omega, e0.trans d196_0, ⟨1 + t, go.tr go2, by omega⟩, fa.tr fa2 (Nat.le_refl _), fb2, ph2.py hS.2.2.2.2.1 hw3⟩, qz, z2, ?_⟩
    rw [show c + n + 2 = c + 1 + n + 1 by omega]; exact C2
  · rw [e1, bS] at e0
    generalize (qz - 1 + 1) * (n + 1) = M at bd W
    obtain ⟨h1, h2, t, j, A', h3, h4, h5, h6, ⟨pc, h7, h8, h9⟩, h10, h11', h12, h13⟩ := W
    exact Or.inr ⟨F, x, B2, m + 1, 1 + t, j, A', by omega, h1, e0, h2, go.th h3, h4, by omega, h6, ⟨pc, q', hq', by omega, by omega, fun i i1 i2 => by omega, h9⟩, h10, fa.tr h11' (Nat.le_refl _), h12, h13.py hS.2.2.2.2.1 hw3⟩
theorem ps_check {c r n : Nat} {ld : Int32} (hb : b ≤ 40 * d) (hNd : NdS L f rS) (hC : Cs o a w v z nn L d y s c b A B) (hS : Sx sk sa sw ts te es nt ny y s A B) (hm : m < N) (hN : N ≤ 120) (hw3 : wi ≤ 3) (hn : nst B < f)
    (hE : E2 false 0 y ld o a w v z c r n 37) (ho : o (c + n) = 19) (ha : a (c + n) = nl q) (q1 : 1 ≤ q) (q8 : q ≤ 800) (h11 : w (r + n) = 11) (hr : r + n < 1200) (hk : sk m = 1) (hsa : sa m = ni r) (hsw : sw m = ni q) (hc : c + n < nn) :
    (∃ A' B', Ps rS d y b N wi wi wi 1 (13 * (n + 1)) (F + 1) m A B F (m + 1) A' B' ∧ Cs o a w v z nn L d y s (c + n + 1) b A' B') ∨ SdT rS ts te L d y s b N wi wi 1 (13 * (n + 1)) c (c + n + 1) 0 0 (F + 1) m A B := by
  obtain ⟨q0, hq0, C⟩ := hC
  have y30 := C.y30
  have hd := C.d31
  have e0 := d24_pre (rS := rS) (F := F) (wi := wi) hS hm hN
  rw [hk, if_neg (by decide), if_pos rfl, hsa] at e0
  rcases works_ok (qr := 0) hb hNd (fun e => absurd e (by decide)) hE h11 C hc hr hn (fun e => absurd e (by decide)) with ⟨x, t, A1, B1, w1, go, ht, W1, fa, fb, ph⟩ | ⟨x, B1, w1, W1⟩
  · have w1 : S_X11_works rS (ni y) (ni r) 0 B = some (0, B1) := w1
    rw [w1, bS] at e0; dsimp only at e0
    rw [if_neg (fun q => q rfl), W1.2.2.2.2.2.2, (fb.2.2.2.1 206 _ (by omega)).trans (hS.2.2.1 m).2.2, hsw] at e0
    obtain ⟨mi, hR, fr, ⟨t1, t2, t3, t4⟩, hk', x1, x2⟩ := W1
    obtain ⟨f0, f1, f2, f3, f4, f5⟩ := id fr
    have pa : PA A1 (si A1 144 4 (ni b)) := frv_si (by omega)
    have fa1 : FA d b A1 (si A1 144 4 (ni b)) := frv_si (by omega)
    have fr1 : FrAt (si A1 144 4 (ni b)) d y s (c + n) b q0 1 := by
      unfold FrAt
      rw [gi_ne (show 146 + d ≠ 144 by omega)]; exact fr
    have adv : S_X3_advance d A1 = if ¬ x = 0 then some (0, si A1 144 4 (ni b)) else some (ni q, si A1 144 4 (ni b)) := by
      obtain ⟨⟨-, r2, r3, r4, -⟩, r6, -⟩ := hR
      rw [adv_eq r2 (by omega) f1 f2 (by omega), (r6 _).1, (r6 _).2, ho, ha]
      unfold advO
      rw [if_neg (by decide), if_neg (by decide), if_neg (by decide), if_neg (by decide), if_neg (by decide), if_neg (by decide), if_neg (by decide), if_neg (by decide), if_neg (by decide), if_neg (by decide), if_neg (by decide), if_pos rfl, pop_eq t2 (by omega), bS, x1, nl_i]
    by_cases x0 : x = 0
    · rw [if_neg (fun q => q x0)] at adv e0
      have n0 : ¬ ni q = 0 := fun e => by have := (ni_inj (b := 0) (by omega) (by omega)).mp e; omega
      exact Or.inr ⟨F, ni q, B1, m + 1, t + 1, 0, _, by omega, ⟨n0, ni_ne1 (by omega)⟩, e0, t3, go.th (go_x t1 hd adv n0 (ni_ne1 (by omega))), by omega, by omega, mi_p mi pa FrV.rf, ⟨c + n, q0, hq0, by omega, by omega, fun i i1 i2 => by omega, fr1⟩, (si_ff' (by omega)).trans t1, fa.tr fa1 (Nat.le_refl _), fb, ph.py hS.2.2.2.2.1 hw3⟩
    · rw [if_pos x0] at adv e0
      have go1 := go_0 t1 hd adv
      rw [show gi (si A1 144 4 (ni b)) (146 + d) 2 = ni (c + n) by rw [gi_ne (by omega)]; exact f2, show ni (c + n) + 1 = ni (c + n + 1) from ni_add _ 1] at go1
      have pa2 : PA A1 (si (si A1 144 4 (ni b)) (146 + d) 2 (ni (c + n + 1))) := FrV.tr pa (frv_si (by omega))
      have fa2 : FA d b A1 (si (si A1 144 4 (ni b)) (146 + d) 2 (ni (c + n + 1))) := FrV.tr fa1 (frv_si (by omega))
      have fj : ∀ j, j ≠ 2 → gi (si (si A1 144 4 (ni b)) (146 + d) 2 (ni (c + n + 1))) (146 + d) j = gi A1 (146 + d) j := fun j h2 => by rw [si_ff' h2, gi_ne (by omega)]
      refine Or.inl ⟨_, B1, ⟨by omega, e0.trans d196_0, ⟨t + 1, go.tr go1, by omega⟩, fa.tr fa2 (Nat.le_refl _), fb, ph.py hS.2.2.2.2.1 hw3⟩, q0, hq0, mi_p mi pa2 FrV.rf, rw_q hR pa2.q FrV.rf, ⟨(fj 0 (by omega)).trans f0, f1, si_eq, (fj 3 (by omega)).trans f3, (fj 4 (by omega)).trans f4, (fj 5 (by omega)).trans f5⟩, ⟨?_, ?_, t3, t4⟩, hk'⟩
      · rw [gi_ne (by omega), si_ff' (by omega)]; exact t1
      · rw [gi_ne (by omega), si_eq]
  · have w1 : S_X11_works rS (ni y) (ni r) 0 B = some (x, B1) := w1
    rw [w1, bS] at e0; dsimp only at e0
    rw [if_pos W1.1.1] at e0
    obtain ⟨h1, h2, t, j, A', h3, h4, h5, h6, ⟨pc, h7, h8, h9⟩, h10, h11', h12, h13⟩ := W1
    exact Or.inr ⟨F, x, B1, m + 1, t, j, A', by omega, h1, e0, h2, h3, h4, by omega, h6, ⟨pc, q0, hq0, by omega, by omega, fun i i1 i2 => by omega, h9⟩, h10, h11', h12, h13.py hS.2.2.2.2.1 hw3⟩
end Sd1
