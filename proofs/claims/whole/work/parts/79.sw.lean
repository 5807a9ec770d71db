-- ===== formulas in both: consts =====
section Ev5
variable {o : Nat → Int32} {a : Nat → Int64} {w : Nat → Int32} {v : Nat → Int64} {z : Nat → Int32} {nn : Nat} {L f d y s pc b q qr sp : Nat} {st : Int32} {A B A1 B1 : Mem} {rS : Int32 → Mem → Option (Int32 × Mem)}
theorem wc_cf (h : Cf o a w v z nn L d y s pc b q st sp A B) (hs : sp ≤ 2000) : ∃ B1, S_X11_worksConstants B = some ((), B1) ∧ S_X11_worksConstants B1 = some ((), B1) ∧ Cf o a w v z nn L d y s pc b q st sp A B1 ∧ FB sp B B1 ∧ Ph B B1 ∧ nst B1 = nst B ∧ gi B1 181 64 = gi B1 181 59 := by
  obtain ⟨⟨m1, m2, m3, m4, m5, m6, n, m7, m8, m9, m10⟩, h2, h3, ⟨t1, t2, t3, t4⟩, h5⟩ := h
  obtain ⟨B1, w1, w2, w3, w4⟩ := wc_ok m3 m4 m5 t3 hs
  have fb : FB sp B B1 := frw_v w2 (fun p j q => by omega) (fun p j q => by omega)
  have wa : WA A A := FrV.rf
  have e6 : E64 B1 := by
    obtain ⟨e, x1, x2, -⟩ := m2.2
    have x3 : gi B1 181 59 = ni e := (w2.2 181 59 (by omega)).1.trans x2
    exact ⟨e, x1, x3, Or.inr ⟨e, Nat.le_refl _, w3.trans x3⟩⟩
  have nn' : nst B1 = nst B := nst_eq (funext fun j => (w2.2 212 j (by omega)).1)
  refine ⟨B1, w1, ?_, ⟨⟨m1, ⟨fsr_q m2.1 fb.q, e6⟩, slr_q m3 wa fb.q, m4, w4, fun x hx => ?_, n, by rw [nn']; exact m7, m8, (w2.2 181 66 (by omega)).1.trans m9, fun i i1 i2 => ?_⟩, rw_q h2 wa fb.q, h3, ⟨t1, t2, (w2.2 181 63 (by omega)).1.trans t3, fun k hk => (t4 k hk).trans (w2.2 219 k (by omega)).2.symm⟩, by rw [nn']; exact h5⟩, fb, fun x hx => Or.inl ⟨(w2.2 212 x (by omega)).1, (w2.2 214 x (by omega)).1, fun j hj => (w2.2 221 _ (by omega)).1⟩, nn', w3⟩
  · unfold S_X11_worksConstants; rw [if_neg (fun q => q w3)]
  · unfold Dy1
    rw [(w2.2 212 x (by omega)).1, (w2.2 214 x (by omega)).1, (w2.2 215 x (by omega)).1]
    refine ⟨(m6 x hx).1, fun i hi => ?_, (m6 x hx).2.2⟩
    rw [(w2.2 216 (72 * x + i) (by omega)).2]; exact (m6 x hx).2.1 i hi
  · rw [(w2.2 220 i (by omega)).1]; exact m10 i i1 i2
theorem w22_6 {F r Y nm : Nat} (hR : Rw o a w v z nn s y A B) (hr : r < 1200) (h6 : w r = 6) (hv : v r = nl nm) (hz : z r = if Y = y then -1 else ni Y) (hY : Y < 30) : W22 rS y b qr (F + 1) r 0 B = (S_X11_worksConstants B).bind fun w5 => SJ_X11_works_160 rS (SJ_X11_works_22 rS F) (ni y) (ni qr) (ni (1200 * (30 + y))) (ni b) 0 (ni (r + 1)) (nl nm) (ni Y) w5.2 := by
  have rw3 := hR.2.2 r
  have e0 : gi B 208 (1200 * (30 + y) + r) = 6 := rw3.1.trans h6
  unfold W22
  rw [w22_u hR.1.2.2.2.2 hr (by rw [e0]; decide), e0, if_neg (by decide), if_neg (by decide), if_pos (by decide), rw3.2.1, rw3.2.2, hv, hz]
  unfold SJ_X11_works_137
  rw [if_neg (fun q => q rfl)]
  refine congrArg _ (funext fun w5 => ?_)
  by_cases e : Y = y
  · simp only [if_pos e]
    rw [if_neg (by decide), e]
  · simp only [if_neg e]
    rw [if_pos (show (0 : Int32) ≤ ni Y from (ni_le (a := 0) (by omega) (by omega)).mpr (by omega))]
theorem ev_const {mo c r h : Nat} {ld : Int32} (hb : b ≤ 40 * d) (hh1 : 1 ≤ h) (ho : o c = 3) (hw : w r = 6) (hrf : Rfn y ld (a c) (v r) (z r)) : Ev o a w v z nn L f rS d y s b q qr st mo c r 1 h := by
  intro A B sp F hC hh hb1 hF hc hr hn hm
  obtain ⟨F, rfl⟩ : ∃ g, F = g + 1 + 1 := ⟨F - 2, by omega⟩
  have hd := hC.d31
  obtain ⟨Y, nm, hY, hnm, ha, hv, hz, -⟩ := hrf
  obtain ⟨B1, w1, w2, C1, fb, ph, ne, e64⟩ := wc_cf hC (by omega)
  have hwB := w22_6 (rS := rS) (b := b) (qr := qr) (F := F + 1) hC.2.1 (show r < 1200 by omega) hw hv hz hY
  have hwB1 := w22_6 (rS := rS) (b := b) (qr := qr) (F := F + 1) C1.2.1 (show r < 1200 by omega) hw hv hz hY
  rw [w1, bS] at hwB
  rw [w2, bS] at hwB1
  have P0 : Pth rS d y b qr sp 0 (F + 1 + 1) r A B (F + 1 + 1) r A B1 := ⟨by omega, hwB.trans hwB1.symm, ⟨0, Go.rf, by omega⟩, FrV.rf, fb, ph⟩
  have hS : SlR A B1 := C1.1.2.2.1
  have hK : ClO A := clo_of C1.1.1 hS
  have fe : S_X1_find 0 (nl (Y * 1099511627776 + nm)) A = some (fdI (fdC A 0 (nl nm) 30 Y), A) := find_eq hK (t := 0) (by omega) hY hnm
  have adv : S_X3_advance d A = (S_X3_readConst (nl (Y * 1099511627776 + nm)) A).bind fun w12 => some (w12.1, w12.2) := by
    rw [cf_adv hC (by omega), ho, ha]; unfold advO
    rw [if_neg (by decide), if_neg (by decide), if_neg (by decide), if_pos rfl]
  unfold S_X3_readConst at adv
  rw [fe, bS] at adv
  unfold SJ_X11_works_160 at hwB1
  rw [constOf_eq hS hY, bS] at hwB1
  dsimp only at adv hwB1
  have thrown : S_X3_advance d A = some (802, A) → W22 rS y b qr (F + 1 + 1) r 0 B1 = SJ_X11_works_22 rS (F + 1) (ni y) (ni qr) (ni (1200 * (30 + y))) (ni b) 802 (ni (r + 1)) B1 → Thr rS L d y s b q qr st sp 1 c (c + 1) (F + 1 + 1) r A B := by
    intro g1 g2
    rw [w22_x hC.y30 (by omega) (by decide)] at g2
    exact (P0.thr (thr1 (p := sp) C1 g1 (by decide) (by decide) g2 FrV.rf FrV.rf) (Nat.le_refl _) (Nat.le_refl _) (Nat.le_refl _)).le (Nat.le_refl _) (by omega) (Nat.le_refl _) (Nat.le_refl _)
  cases hf : fdC A 0 (nl nm) 30 Y with
  | none =>
    rw [hf] at adv hwB1
    rw [if_neg (show ¬ ¬ fdI none = -1 from fun q => q rfl), bS] at adv
    rw [if_pos (show fdI none < 0 by decide)] at hwB1
    exact Or.inr (thrown adv hwB1)
  | some p =>
    rw [hf] at adv hwB1
    obtain ⟨p30, s', hs', hp⟩ := fdC_lt hf
    have hp' : p.2 < ln A (s' + 3) := hp
    have g := hS p.1 p30
    rw [hs'] at g
    obtain ⟨g1, g2, g3, g4, ⟨n', n1, n2⟩, g6⟩ := g
    have l8 : ln A (s' + 3) ≤ 8 := g3.2.2.1.2.1
    obtain ⟨o1, o2, o3, o4, o5, o6⟩ := g2
    obtain ⟨i1, i2⟩ := id_div p30 (show p.2 < 8 by omega)
    rw [show fdI (some p) = ni (8 * p.1 + p.2) from rfl, if_pos (ni_ne1 (by omega)), i1, i2, gdT ((ni_inb (by omega)).mpr p30), ni_tn (by omega)] at adv
    rw [show fdI (some p) = ni (8 * p.1 + p.2) from rfl, if_neg (ni_n0 (by omega)), gdT ((ni_inb (by omega)).mpr (by omega))] at hwB1
    simp only [show (ni (8 * p.1 + p.2)).toNatClampNeg = 8 * p.1 + p.2 from ni_tn (by omega)] at hwB1
    have vo : S_X8_valueOf p.1 (ni p.2) A = some (if gi A (22 + 4 * p.1) p.2 = 2 then gl A (23 + 4 * p.1) p.2 else -2000000000000000, A) := by
      unfold S_X8_valueOf
      rw [hs', if_neg (by simp), if_neg (ni_n0 (by omega)), bi_fR o3 o4.2.2.1, bi_aN o5.2.2.1 (by omega) (by omega) rfl, if_neg (show ¬ Int32.ofNat (ln A (s' + 3)) ≤ ni p.2 from fun e => by have := (ni_le (a := ln A (s' + 3)) (by omega) (by omega)).mp e; omega), gdT ((ni_inb (by omega)).mpr (by omega)), gdT ((ni_inb (by omega)).mpr (by omega)), ni_tn (by omega)]
      split <;> rfl
    rw [vo, bS] at adv
    dsimp only at adv
    rcases C1.1.2.2.2.2.1 e64 p.1 s' p30 hs' p.2 hp' with ⟨k1, k2, k3⟩ | ⟨k1, k2⟩
    · rw [if_pos k1] at adv
      have hsm : smallV (gl A (23 + 4 * p.1) p.2) := by
        rcases C1.1.2.2.2.1 p.1 s' p30 hs' p.2 hp' with ⟨j1, i, j2⟩ | ⟨j1, j2⟩
        · exact vl_small j2
        · rw [k1] at j1; exact absurd j1 (by decide)
      rw [if_pos (small_ne hsm)] at adv
      rw [k2, if_pos (by decide), k3, gdT ((ni_inb (by omega)).mpr (by omega)), C1.2.2.2.1.2.2.1, gdT ((ni_inb (by omega)).mpr (by omega)), ni_tn (by omega), show gi (sl B1 219 sp (gl A (23 + 4 * p.1) p.2)) 181 63 = ni sp from C1.2.2.2.1.2.2.1, show ni sp + 1 = ni (sp + 1) from ni_add sp 1] at hwB1
      obtain ⟨A', B', P1, C2⟩ := push1 (x := gl A (23 + 4 * p.1) p.2) (F := F + 1) C1 (by omega) (by rw [adv]; cases S_X3_push (gl A (23 + 4 * p.1) p.2) A <;> rfl) hwB1
      exact Or.inl ⟨F + 1, A', B', (P0.tr P1 (Nat.le_refl _)).le (by omega), C2⟩
    · rw [if_neg (show ¬ gi A (22 + 4 * p.1) p.2 = 2 by rw [k1]; decide), if_neg (fun q => q rfl), bS] at adv
      rw [k2, if_neg (fun q => q rfl)] at hwB1
      exact Or.inr (thrown adv hwB1)
end Ev5
