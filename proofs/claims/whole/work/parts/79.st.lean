-- ===== formulas in both: signs, pairs, choices =====
theorem div_m1 (l : Int64) : l / (-1) = -l := by
  apply Int64.toBitVec_inj.mp
  rw [Int64.toBitVec_div]
  show l.toBitVec.sdiv (-1#64) = -l.toBitVec
  rw [BitVec.sdiv_neg (by decide), BitVec.sdiv_one]
theorem rem_m1 (l : Int64) : l - l / (-1) * (-1) = 0 := by
  rw [div_m1]
  apply Int64.toBitVec_inj.mp
  rw [Int64.toBitVec_sub, Int64.toBitVec_mul, Int64.toBitVec_neg]
  show l.toBitVec - (-l.toBitVec) * (-1#64) = 0#64
  rw [BitVec.neg_mul_neg, BitVec.mul_one, BitVec.sub_self]
/-- what two numbers come to; none: the second is 0 -/
def bin (op : Int32) (l x : Int64) : Option Int64 := if op = 6 then some (l + x) else if op = 7 then some (l - x) else if op = 8 then some (l * x) else if op = 9 then (if x = 0 then none else some (l / x)) else if op = 10 then (if x = 0 then none else some (l - l / x * x)) else if op = 11 then some (if ¬ l = x then 0 else 1) else if op = 12 then some (if x ≤ l then 0 else 1) else some (if l ≤ x then 0 else 1)
section Ev2
variable {o : Nat → Int32} {a : Nat → Int64} {w : Nat → Int32} {v : Nat → Int64} {z : Nat → Int32} {nn : Nat} {L f d y s pc b q qr sp : Nat} {st : Int32} {A B A1 B1 : Mem} {rS : Int32 → Mem → Option (Int32 × Mem)}
theorem thr1 {p F r : Nat} {x : Int32} (h : Cf o a w v z nn L d y s pc b q st sp A B) (adv : S_X3_advance d A = some (x, A1)) (h0 : ¬ x = 0) (h1 : ¬ x = -1) (hw : W22 rS y b qr F r 0 B = some (x, si B1 181 63 (ni b)))
    (hA : FrV (fun _ _ => False) (fun a j => a = 144 ∧ j = 4) (fun a j => a = 177 ∧ p ≤ j) A A1) (hB : FrV (fun _ _ => False) (fun a j => a = 181 ∧ j = 63) (fun a j => a = 219 ∧ p ≤ j) B B1) : Thr rS L d y s b q qr st p 1 pc (pc + 1) F r A B := by
  have pa : PA A A1 := FrV.mono hA (fun _ _ q => q.elim) (fun a j q => by omega) (fun a j q => by omega)
  have pb : PB B B1 := FrV.mono hB (fun _ _ q => q) (fun a j q => by omega) (fun a j q => by omega)
  have fa : FA d p A A1 := FrV.mono hA (fun _ _ q => q.elim) (fun a j q => by omega) (fun a j q => by omega)
  have fb : FB p B B1 := FrV.mono hB (fun _ _ q => q) (fun a j q => by omega) (fun a j q => by omega)
  obtain ⟨f0, f1, f2, f3, f4, f5⟩ := h.2.2.1
  have hd := h.2.2.2.2
  have fi : ∀ j, gi A1 (146 + d) j = gi A (146 + d) j := fun j => hA.2.2.2.1 (146 + d) j (by omega)
  refine ⟨1, x, 0, A1, B1, ⟨h0, h1⟩, hw, go_x h.2.2.2.1.1 h.d31 adv h0 h1, by omega, by rw [pb.nst]; omega, mi_p h.1 pa pb, ⟨pc, Nat.le_refl _, by omega, (fi 0).trans f0, (hA.2.2.1 (146 + d) 1 (fun q => q)).trans f1, (fi 2).trans f2, (fi 3).trans f3, (fi 4).trans f4, (fi 5).trans f5⟩, (hA.2.2.2.1 144 2 (by omega)).trans h.2.2.2.1.1, fa, fb, ph_pb pb (funext fun j => hB.2.2.2.1 221 j (by omega))⟩
theorem Pth.le {n n' F r F1 r1 : Nat} (h : Pth rS d y b qr sp n F r A B F1 r1 A1 B1) (hn : n ≤ n') : Pth rS d y b qr sp n' F r A B F1 r1 A1 B1 := by
  obtain ⟨h1, h2, ⟨t, h3, h4⟩, h5⟩ := h
  exact ⟨by omega, h2, ⟨t, h3, by omega⟩, h5⟩
theorem Stg.fr {d sp : Nat} (h : Stg A B) (g : FA d sp A A1) (k : FB sp B B1) : Stg A1 B1 := fun j hj => by
  rw [g.2.2.2.2 178 j (by omega), k.2.2.2.1 181 (67 + j) (by omega)]; exact h j hj
theorem Pth.stg {n F r F1 r1 : Nat} (p : Pth rS d y b qr sp n F r A B F1 r1 A1 B1) (h : Stg A B) : Stg A1 B1 := h.fr p.2.2.2.1 p.2.2.2.2.1
theorem Pth.ns {n F r F1 r1 : Nat} (p : Pth rS d y b qr sp n F r A B F1 r1 A1 B1) : nst B1 ≤ nst B := p.2.2.2.2.2.nst
theorem ev_neg {mo c r n h : Nat} (hb : b ≤ 40 * d) (hh1 : 1 ≤ h) (e : Ev o a w v z nn L f rS d y s b q qr st mo c r n h) (ho : o (c + n) = 5) (hw : w (r + n) = 8) : Ev o a w v z nn L f rS d y s b q qr st mo c r (n + 1) h := by
  intro A B sp F hC hh hb1 hF hc hr hn hm
  rcases e A B sp F hC hh hb1 (by omega) (by omega) (by omega) hn hm with ⟨F1, A1, B1, p, C1⟩ | t
  · obtain ⟨G, rfl⟩ : ∃ g, F1 = g + 1 := ⟨F1 - 1, by have := p.1; omega⟩
    have hd := hC.d31
    have rw3 := C1.2.1.2.2 (r + n)
    have e0 : gi B1 208 (1200 * (30 + y) + (r + n)) = 8 := rw3.1.trans hw
    obtain ⟨t1, t2, t3, t4⟩ := C1.2.2.2.1
    have adv : S_X3_advance d A1 = some (0, si (sl (si A1 144 4 (ni sp)) 177 sp (-(gl A1 177 sp))) 144 4 (ni (sp + 1))) := by
      rw [cf_adv C1 (by omega), ho]; unfold advO
      rw [if_neg (by decide), if_neg (by decide), if_neg (by decide), if_neg (by decide), if_neg (by decide), if_pos rfl, pop_eq t2 (by omega), bS]; dsimp only
      rw [push_eq si_eq (by omega), bS]
    have hw2 : W22 rS y b qr (G + 1) (r + n) 0 B1 = W22 rS y b qr G (r + n + 1) 0 (sl B1 219 sp (-(gl B1 219 sp))) := by
      unfold W22
      rw [w22_u hC.y30 (by omega) (by rw [e0]; decide), e0, if_neg (by decide), if_neg (by decide), if_pos (by decide)]
      unfold SJ_X11_works_137 SJ_X11_works_439
      rw [if_pos (by decide), if_pos (by decide), if_neg (by decide), t3, show ni (sp + 1) - 1 = ni sp from (ni_sub (a := sp + 1) (b := 1) (by omega)).trans (congrArg ni (by omega)), gdT ((ni_inb (by omega)).mpr (by omega)), gdT ((ni_inb (by omega)).mpr (by omega)), ni_tn (by omega)]
    obtain ⟨P2, C2⟩ := pth1 (p := sp) (m := sp + 1) C1 adv hw2 (((frv_si ⟨rfl, rfl⟩).tr (frv_sl ⟨rfl, Nat.le_refl _⟩)).tr (frv_si ⟨rfl, rfl⟩)) (frv_sl ⟨rfl, Nat.le_refl _⟩) si_eq t3 (fun k hk => by
      rw [gl_si, gl_sl, gl_sl, gl_si]
      by_cases e : k = sp
      · rw [if_pos ⟨rfl, e⟩, if_pos ⟨rfl, e⟩, t4 sp (by omega)]
      · rw [if_neg (fun q => e q.2), if_neg (fun q => e q.2)]; exact t4 k hk)
    exact Or.inl ⟨G, _, _, p.tr P2 (Nat.le_refl _), C2⟩
  · exact Or.inr (t.le (Nat.le_refl _) (by omega) (Nat.le_refl _) (by omega))
theorem calc_eq {op : Int32} (h : gi A 144 4 = ni (sp + 1 + 1)) (hs : sp + 1 < 1240) : S_X3_calculate op A = match bin op (gl A 177 sp) (gl A 177 (sp + 1)) with
    | some x => some (0, si (sl (si (si A 144 4 (ni (sp + 1))) 144 4 (ni sp)) 177 sp x) 144 4 (ni (sp + 1)))
    | none => some (801, si (si A 144 4 (ni (sp + 1))) 144 4 (ni sp)) := by
  unfold S_X3_calculate bin SJ_X3_calculate_138 SJ_X3_calculate_155 SJ_X3_calculate_172
  rw [pop_eq h hs, bS]; dsimp only
  rw [pop_eq si_eq (by omega), bS]; dsimp only
  rw [gl_si]
  have pe : ∀ x : Int64, ((S_X3_push x (si (si A 144 4 (ni (sp + 1))) 144 4 (ni sp))).bind fun w6 => some (w6.1, w6.2)) = some (0, si (sl (si (si A 144 4 (ni (sp + 1))) 144 4 (ni sp)) 177 sp x) 144 4 (ni (sp + 1))) := fun x => by rw [push_eq si_eq (by omega), bS]
  by_cases o6 : op = 6
  · rw [if_pos o6, if_pos o6, pe]
  rw [if_neg o6, if_neg o6]
  by_cases o7 : op = 7
  · rw [if_pos o7, if_pos o7, pe]
  rw [if_neg o7, if_neg o7]
  by_cases o8 : op = 8
  · rw [if_pos o8, if_pos o8, pe]
  rw [if_neg o8, if_neg o8]
  by_cases o9 : op = 9
  · rw [if_pos o9, if_pos o9]
    by_cases x0 : gl A 177 (sp + 1) = 0
    · rw [if_neg (fun q => q x0), if_pos x0]
    · rw [if_pos x0, if_neg x0, if_neg x0, pe]
  rw [if_neg o9, if_neg o9]
  by_cases o10 : op = 10
  · rw [if_pos o10, if_pos o10]
    by_cases x0 : gl A 177 (sp + 1) = 0
    · rw [if_neg (fun q => q x0), if_pos x0]
    · rw [if_pos x0, if_neg x0, if_neg x0, pe]
  rw [if_neg o10, if_neg o10]
  by_cases o11 : op = 11
  · rw [if_pos o11, if_pos o11]
    by_cases x0 : ¬ gl A 177 sp = gl A 177 (sp + 1)
    · rw [if_pos x0, if_pos x0, pe]
    · rw [if_neg x0, if_neg x0, pe]
  rw [if_neg o11, if_neg o11]
  by_cases o12 : op = 12
  · rw [if_pos o12, if_pos o12]
    by_cases x0 : gl A 177 (sp + 1) ≤ gl A 177 sp
    · rw [if_pos x0, if_pos x0, pe]
    · rw [if_neg x0, if_neg x0, pe]
  rw [if_neg o12, if_neg o12]
  by_cases x0 : gl A 177 sp ≤ gl A 177 (sp + 1)
  · rw [if_pos x0, if_pos x0, pe]
  · rw [if_neg x0, if_neg x0, pe]
theorem acted_eq {op wo : Int32} {l x r : Int64} (hb : Bop false op wo) (h : bin op l x = some r) : L_X11_acted wo l x B = some (r, B) := by
  unfold bin at h
  unfold L_X11_acted J_X11_acted_185
  rcases hb with ⟨rfl, rfl⟩ | ⟨rfl, rfl⟩ | ⟨rfl, rfl⟩ | ⟨-, ⟨rfl, rfl⟩ | ⟨rfl, rfl⟩ | ⟨rfl, rfl⟩ | ⟨rfl, rfl⟩ | ⟨rfl, rfl⟩⟩
  · rw [if_pos rfl] at h; cases h
    rw [if_neg (by decide), if_neg (by decide), if_pos rfl]
  · rw [if_neg (by decide), if_pos rfl] at h; cases h
    rw [if_neg (by decide), if_neg (by decide), if_neg (by decide), if_pos rfl]
  · rw [if_neg (by decide), if_neg (by decide), if_pos rfl] at h; cases h
    rw [if_neg (by decide), if_pos rfl]
  · rw [if_neg (by decide), if_neg (by decide), if_neg (by decide), if_pos rfl] at h
    rw [if_neg (by decide), if_neg (by decide), if_neg (by decide), if_neg (by decide), if_pos rfl]
    by_cases x0 : x = 0
    · rw [if_pos x0] at h; cases h
    · rw [if_neg x0] at h; cases h
      by_cases x1 : x = -1
      · rw [if_neg (fun q => q x1), x1, div_m1]
      · rw [if_pos x1, if_neg x0]
  · rw [if_neg (by decide), if_neg (by decide), if_neg (by decide), if_neg (by decide), if_pos rfl] at h
    rw [if_pos rfl]
    by_cases x0 : x = 0
    · rw [if_pos x0] at h; cases h
    · rw [if_neg x0] at h; cases h
      by_cases x1 : x = -1
      · rw [if_neg (fun q => q x1), x1, rem_m1]
      · rw [if_pos x1, if_neg x0]
  · rw [if_neg (by decide), if_neg (by decide), if_neg (by decide), if_neg (by decide), if_neg (by decide), if_pos rfl] at h; cases h
    rw [if_neg (by decide), if_neg (by decide), if_neg (by decide), if_neg (by decide), if_neg (by decide), if_neg (by decide), if_pos rfl]
    split <;> rfl
  · rw [if_neg (by decide), if_neg (by decide), if_neg (by decide), if_neg (by decide), if_neg (by decide), if_neg (by decide), if_pos rfl] at h; cases h
    rw [if_neg (by decide), if_neg (by decide), if_neg (by decide), if_neg (by decide), if_neg (by decide), if_pos rfl]
    split <;> rfl
  · rw [if_neg (by decide), if_neg (by decide), if_neg (by decide), if_neg (by decide), if_neg (by decide), if_neg (by decide), if_neg (by decide)] at h; cases h
    rw [if_neg (by decide), if_neg (by decide), if_neg (by decide), if_neg (by decide), if_neg (by decide), if_neg (by decide), if_neg (by decide)]
    split <;> rfl
end Ev2
