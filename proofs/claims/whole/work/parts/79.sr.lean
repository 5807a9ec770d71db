-- ===== a frame that works a formula =====
def FrAt (A : Mem) (d y s pc b q : Nat) (st : Int32) : Prop := gi A (146 + d) 0 = ni y ∧ gr A (146 + d) 1 = some s ∧ gi A (146 + d) 2 = ni pc ∧ gi A (146 + d) 3 = ni b ∧ gi A (146 + d) 4 = ni q ∧ gi A (146 + d) 5 = st
def Tp (A B : Mem) (D sp : Nat) : Prop := gi A 144 2 = ni D ∧ gi A 144 4 = ni sp ∧ gi B 181 63 = ni sp ∧ ∀ k, k < sp → gl A 177 k = gl B 219 k
def Stg (A B : Mem) : Prop := ∀ j, j < 4 → gl A 178 j = (gi B 181 (67 + j)).toInt64
section Cfg
variable (o : Nat → Int32) (a : Nat → Int64) (w : Nat → Int32) (v : Nat → Int64) (z : Nat → Int32) (nn : Nat)
/-- the rows of the text -/
def Rw (s y : Nat) (A B : Mem) : Prop := (231 ≤ s ∧ ShO A s ∧ ln A (s + 1) = nn ∧ nn ≤ 1024 ∧ y < 30) ∧ (∀ k, gi A (s + 1) k = o k ∧ gl A (s + 2) k = a k) ∧ ∀ k, gi B 208 (1200 * (30 + y) + k) = w k ∧ gl B 209 (1200 * (30 + y) + k) = v k ∧ gi B 210 (1200 * (30 + y) + k) = z k
def Cf (L d y s pc b q : Nat) (st : Int32) (sp : Nat) (A B : Mem) : Prop := Mi L A B ∧ Rw o a w v z nn s y A B ∧ FrAt A d y s pc b q st ∧ Tp A B (d + 1) sp ∧ d + 1 + nst B ≤ 31
end Cfg
def W22 (rS : Int32 → Mem → Option (Int32 × Mem)) (y b qr F r : Nat) (x : Int32) (B : Mem) : Option (Int32 × Mem) := SJ_X11_works_22 rS F (ni y) (ni qr) (ni (1200 * (30 + y))) (ni b) x (ni r) B
/-- a way that both go -/
def Pth (rS : Int32 → Mem → Option (Int32 × Mem)) (d y b qr sp n : Nat) (F r : Nat) (A B : Mem) (F' r' : Nat) (A' B' : Mem) : Prop := F ≤ F' + n ∧ W22 rS y b qr F r 0 B = W22 rS y b qr F' r' 0 B' ∧ (∃ t, Go A t A' ∧ t + 14000 * nst B' ≤ n + 14000 * nst B) ∧ FA d sp A A' ∧ FB sp B B' ∧ Ph B B'
/-- both throw -/
def Thr (rS : Int32 → Mem → Option (Int32 × Mem)) (L d y s b q qr : Nat) (st : Int32) (sp n c c2 : Nat) (F r : Nat) (A B : Mem) : Prop := ∃ t x j A' B', (¬ x = 0 ∧ ¬ x = -1) ∧ W22 rS y b qr F r 0 B = some (x, si B' 181 63 (ni b)) ∧ Th A t x j A' ∧ j + d + 1 ≤ 31 ∧ t + 14000 * nst B' ≤ n + 14000 * nst B ∧ Mi L A' B' ∧ (∃ pc, c ≤ pc ∧ pc < c2 ∧ FrAt A' d y s pc b q st) ∧ gi A' 144 2 = ni (d + 1) ∧ FA d sp A A' ∧ FB sp B B' ∧ Ph B B'
section Cf1
variable {o : Nat → Int32} {a : Nat → Int64} {w : Nat → Int32} {v : Nat → Int64} {z : Nat → Int32} {nn : Nat} {L d y s pc b q qr sp : Nat} {st : Int32} {A B A' B' : Mem} {rS : Int32 → Mem → Option (Int32 × Mem)}
theorem rw_q (h : Rw o a w v z nn s y A B) (g : WA A A') (k : WB2 B B') : Rw o a w v z nn s y A' B' := by
  obtain ⟨⟨h1, h2, h3, h4, h5⟩, h6, h7⟩ := h
  have kp : KpS s A A' := fun p p1 p2 => g.sm (by omega)
  refine ⟨⟨h1, kp.so (Nat.le_of_eq (FrV.nc g).symm) h2, (FrV.ln g _).trans h3, h4, h5⟩, fun k => ?_, fun k' => ?_⟩
  · rw [(kp (s + 1) (by omega) (by omega)).i, (kp (s + 2) (by omega) (by omega)).j]; exact h6 k
  · rw [(k.sm (a := 208) (by omega)).i, (k.sm (a := 209) (by omega)).j, (k.sm (a := 210) (by omega)).i]; exact h7 k'
theorem cf_step (h : Cf o a w v z nn L d y s pc b q st sp A B) {p m pc' : Nat} (hA : FrV (fun _ _ => False) (fun a j => (a = 144 ∧ j = 4) ∨ (a = 146 + d ∧ j = 2)) (fun a j => a = 177 ∧ p ≤ j) A A') (hB : FrV (fun _ _ => False) (fun a j => a = 181 ∧ j = 63) (fun a j => a = 219 ∧ p ≤ j) B B') (e1 : gi A' 144 4 = ni m) (e2 : gi B' 181 63 = ni m) (e3 : gi A' (146 + d) 2 = ni pc') (e4 : ∀ k, k < m → gl A' 177 k = gl B' 219 k) :
    Cf o a w v z nn L d y s pc' b q st m A' B' ∧ FA d p A A' ∧ FB p B B' ∧ Ph B B' ∧ nst B' = nst B := by
  obtain ⟨h1, h2, ⟨f0, f1, f2, f3, f4, f5⟩, ⟨t1, t2, t3, t4⟩, h5⟩ := h
  have hd : d < 31 := by omega
  have pa : PA A A' := FrV.mono hA (fun _ _ q => q.elim) (fun a j q => by omega) (fun a j q => by omega)
  have pb : PB B B' := FrV.mono hB (fun _ _ q => q) (fun a j q => by omega) (fun a j q => by omega)
  have fa : FA d p A A' := FrV.mono hA (fun _ _ q => q.elim) (fun a j q => by omega) (fun a j q => by omega)
  have fb : FB p B B' := FrV.mono hB (fun _ _ q => q) (fun a j q => by omega) (fun a j q => by omega)
  refine ⟨⟨mi_p h1 pa pb, rw_q h2 pa.q pb.q, ⟨?_, ?_, e3, ?_, ?_, ?_⟩, ⟨?_, e1, e2, e4⟩, by rw [pb.nst]; exact h5⟩, fa, fb, ph_pb pb (funext fun j => hB.2.2.2.1 221 j (by omega)), pb.nst⟩
  · exact (hA.2.2.2.1 (146 + d) 0 (by omega)).trans f0
  · exact (hA.2.2.1 (146 + d) 1 (fun q => q)).trans f1
  · exact (hA.2.2.2.1 (146 + d) 3 (by omega)).trans f3
  · exact (hA.2.2.2.1 (146 + d) 4 (by omega)).trans f4
  · exact (hA.2.2.2.1 (146 + d) 5 (by omega)).trans f5
  · exact (hA.2.2.2.1 144 2 (by omega)).trans t1
theorem FA.tr {sp' : Nat} {A B C : Mem} (h : FA d sp A B) (g : FA d sp' B C) (hs : sp ≤ sp') : FA d sp A C := FrV.tr h (g.mono (Nat.le_refl _) hs)
theorem FB.tr {sp' : Nat} {A B C : Mem} (h : FB sp A B) (g : FB sp' B C) (hs : sp ≤ sp') : FB sp A C := FrV.tr h (g.mono hs)
theorem Pth.tr {sp' n m F r F1 r1 F2 r2 : Nat} {A1 B1 A2 B2 : Mem} (h : Pth rS d y b qr sp n F r A B F1 r1 A1 B1) (g : Pth rS d y b qr sp' m F1 r1 A1 B1 F2 r2 A2 B2) (hs : sp ≤ sp') : Pth rS d y b qr sp (n + m) F r A B F2 r2 A2 B2 := by
  obtain ⟨h1, h2, ⟨t, h3, h4⟩, h5, h6, h7⟩ := h
  obtain ⟨g1, g2, ⟨u, g3, g4⟩, g5, g6, g7⟩ := g
  exact ⟨by omega, h2.trans g2, ⟨t + u, h3.tr g3, by omega⟩, h5.tr g5 hs, h6.tr g6 hs, h7.tr g7⟩
theorem Pth.thr {sp' n m c c2 c' c2' F r F1 r1 : Nat} {A1 B1 : Mem} (h : Pth rS d y b qr sp n F r A B F1 r1 A1 B1) (g : Thr rS L d y s b q qr st sp' m c c2 F1 r1 A1 B1) (hs : sp ≤ sp') (hc : c' ≤ c) (hc2 : c2 ≤ c2') : Thr rS L d y s b q qr st sp (n + m) c' c2' F r A B := by
  obtain ⟨h1, h2, ⟨t, h3, h4⟩, h5, h6, h7⟩ := h
  obtain ⟨u, x, j, A2, B2, g1, g2, g3, g4, g5, g6, ⟨pc, g7, g8, g9⟩, g10, g11, g12, g13⟩ := g
  exact ⟨t + u, x, j, A2, B2, g1, h2.trans g2, h3.th g3, g4, by omega, g6, ⟨pc, by omega, by omega, g9⟩, g10, h5.tr g11 hs, h6.tr g12 hs, h7.tr g13⟩
theorem Thr.le {sp' n n' c c2 c' c2' F r : Nat} (g : Thr rS L d y s b q qr st sp' n c c2 F r A B) (hs : sp ≤ sp') (hn : n ≤ n') (hc : c' ≤ c) (hc2 : c2 ≤ c2') : Thr rS L d y s b q qr st sp n' c' c2' F r A B := by
  obtain ⟨u, x, j, A2, B2, g1, g2, g3, g4, g5, g6, ⟨pc, g7, g8, g9⟩, g10, g11, g12, g13⟩ := g
  exact ⟨u, x, j, A2, B2, g1, g2, g3, g4, by omega, g6, ⟨pc, by omega, by omega, g9⟩, g10, g11.mono (Nat.le_refl _) hs, g12.mono hs, g13⟩
/-- what the reference does with a piece -/
theorem w22_u {F r : Nat} {v3 v5 : Int32} (hy : y < 30) (hr : r < 1200) (h11 : ¬ gi B 208 (1200 * (30 + y) + r) = 11) : SJ_X11_works_22 rS (F + 1) (ni y) v3 (ni (1200 * (30 + y))) v5 0 (ni r) B =
    (if gi B 208 (1200 * (30 + y) + r) = 0 then SJ_X11_works_98 rS (SJ_X11_works_22 rS F) (ni y) v3 (ni (1200 * (30 + y))) v5 0 (ni (r + 1)) (gi B 208 (1200 * (30 + y) + r)) (gl B 209 (1200 * (30 + y) + r)) B
     else if gi B 208 (1200 * (30 + y) + r) < 1 then SJ_X11_works_137 rS (SJ_X11_works_22 rS F) (ni y) v3 (ni (1200 * (30 + y))) v5 0 (ni (r + 1)) (gi B 208 (1200 * (30 + y) + r)) (gl B 209 (1200 * (30 + y) + r)) (gi B 210 (1200 * (30 + y) + r)) B
     else if 5 < gi B 208 (1200 * (30 + y) + r) then SJ_X11_works_137 rS (SJ_X11_works_22 rS F) (ni y) v3 (ni (1200 * (30 + y))) v5 0 (ni (r + 1)) (gi B 208 (1200 * (30 + y) + r)) (gl B 209 (1200 * (30 + y) + r)) (gi B 210 (1200 * (30 + y) + r)) B
     else SJ_X11_works_98 rS (SJ_X11_works_22 rS F) (ni y) v3 (ni (1200 * (30 + y))) v5 0 (ni (r + 1)) (gi B 208 (1200 * (30 + y) + r)) (gl B 209 (1200 * (30 + y) + r)) B) := by
  rw [SJ_X11_works_22]; dsimp only
  simp only [show ni (1200 * (30 + y)) + ni r = ni (1200 * (30 + y) + r) from ni_add _ _, show (ni (1200 * (30 + y) + r)).toNatClampNeg = 1200 * (30 + y) + r from ni_tn (by omega)]
  rw [gdT ((ni_inb (by omega)).mpr (by omega)), if_neg h11, if_neg (fun q => q trivial), gdT ((ni_inb (by omega)).mpr (by omega)), gdT ((ni_inb (by omega)).mpr (by omega)), gdT ((ni_inb (by omega)).mpr (by omega)), show ni r + 1 = ni (r + 1) from ni_add r 1]
/-- what was thrown ends the reference's row -/
theorem w22_x {F r : Nat} {x v3 : Int32} (hy : y < 30) (hr : r < 1200) (hx : ¬ x = 0) : SJ_X11_works_22 rS (F + 1) (ni y) v3 (ni (1200 * (30 + y))) (ni b) x (ni r) B = some (x, si B 181 63 (ni b)) := by
  rw [SJ_X11_works_22]; dsimp only
  rw [show ni (1200 * (30 + y)) + ni r = ni (1200 * (30 + y) + r) from ni_add _ _, gdT ((ni_inb (by omega)).mpr (by omega)), if_pos hx, ite_self]
  unfold SJ_X11_works_442 SJ_X11_works_462
  rw [if_pos hx]
end Cf1
