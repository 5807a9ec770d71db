-- ===== formulas in both: entries =====
section Eo
variable {o : Nat → Int32} {a : Nat → Int64} {w : Nat → Int32} {v : Nat → Int64} {z : Nat → Int32} {nn : Nat} {L f d y s pc b q qr sp Y nm : Nat} {st : Int32} {A B A1 B1 : Mem} {rS : Int32 → Mem → Option (Int32 × Mem)}
theorem re_adv (hC : Cf o a w v z nn L d y s pc b q st sp A B) (hp : pc < nn) (ho : o pc = 4) (ha : a pc = nl (Y * 1099511627776 + nm)) (hY : Y < 30) (hnm : nm < 1099511627776) : S_X3_advance d A = if ¬ ni Y = ni y then (S_X3_demand (ni Y) A).bind fun w5 => SJ_X3_readEntry_26 d (nl (Y * 1099511627776 + nm)) w5.1 w5.2 else SJ_X3_readEntry_26 d (nl (Y * 1099511627776 + nm)) 0 A := by
  rw [cf_adv hC hp, ho, ha]; unfold advO
  have e : ∀ X : Option (Int32 × Mem), (X.bind fun w13 => some (w13.1, w13.2)) = X := fun X => by cases X <;> rfl
  rw [if_neg (by decide), if_neg (by decide), if_neg (by decide), if_neg (by decide), if_pos rfl, e]
  unfold S_X3_readEntry
  rw [unp_y hY hnm, hC.2.2.1.1]
theorem re_26 (hC : Cf o a w v z nn L d y s pc b q st sp A B) (hY : Y < 30) (hnm : nm < 1099511627776) : SJ_X3_readEntry_26 d (nl (Y * 1099511627776 + nm)) 0 A = match fdC A 1 (nl nm) 30 Y with
    | none => some (802, A)
    | some p => if ¬ ni p.1 = ni y then (S_X3_demand (ni p.1) A).bind fun w4 => SJ_X3_readEntry_83 d (ni (8 * p.1 + p.2)) (ni p.1) w4.1 w4.2 else SJ_X3_readEntry_83 d (ni (8 * p.1 + p.2)) (ni p.1) 0 A := by
  have hS := hC.1.2.2.1
  have fe : S_X1_find 1 (nl (Y * 1099511627776 + nm)) A = some (fdI (fdC A 1 (nl nm) 30 Y), A) := find_eq (clo_of hC.1.1 hS) (t := 1) (by omega) hY hnm
  unfold SJ_X3_readEntry_26
  rw [if_pos rfl, fe, bS]; dsimp only
  cases hf : fdC A 1 (nl nm) 30 Y with
  | none => rw [if_neg (show ¬ ¬ fdI none = -1 from fun q => q rfl)]
  | some p =>
    obtain ⟨p30, s', hs', hp⟩ := fdC_lt hf
    have g := hS p.1 p30
    rw [hs'] at g
    have l6 : ln A (s' + 5) ≤ 6 := g.2.2.1.2.2.2.1.2.1
    rw [show s' + 3 + 2 * 1 = s' + 5 by omega] at hp
    obtain ⟨i1, i2⟩ := id_div p30 (show p.2 < 8 by omega)
    rw [show fdI (some p) = ni (8 * p.1 + p.2) from rfl, if_pos (ni_ne1 (by omega)), i1, hC.2.2.1.1]
theorem re_83 {p1 p2 : Nat} (hC : Cf o a w v z nn L d y s pc b q st sp A B) (h1 : p1 < 30) (h2 : p2 < 8) : SJ_X3_readEntry_83 d (ni (8 * p1 + p2)) (ni p1) 0 A = S_X3_pushEntry p1 (ni p2) (if p1 = y then 0 else 1) A := by
  obtain ⟨i1, i2⟩ := id_div h1 h2
  have e : ∀ X : Option (Int32 × Mem), (X.bind fun w13 => some (w13.1, w13.2)) = X := fun X => by cases X <;> rfl
  have y30 := hC.y30
  unfold SJ_X3_readEntry_83 SJ_X3_readEntry_123
  rw [if_pos rfl, gdT ((ni_inb (by omega)).mpr h1), i1, i2, ni_tn (by omega), hC.2.2.1.1, e, e]
  by_cases ey : p1 = y
  · rw [if_pos (by rw [ey]), if_pos ey]
  · rw [if_neg (show ¬ ni p1 = ni y from fun z => ey ((ni_inj (by omega) (by omega)).mp z)), if_neg ey]
theorem lk_33 {ix : Int64} (hS : SlR A B) (hY : Y < 30) : SJ_X11_looks_33 rS (ni y) (nl nm) ix (ni Y) B = match fdC A 1 (nl nm) 30 Y with
    | none => some (802, B)
    | some p => if ni p.1 = ni y then SJ_X11_looks_71 rS (ni y) ix (ni (6 * p.1 + p.2)) (ni p.1) 0 B else (rS (ni p.1) B).bind fun w2 => SJ_X11_looks_71 rS (ni y) ix (ni (6 * p.1 + p.2)) (ni p.1) w2.1 w2.2 := by
  unfold SJ_X11_looks_33
  rw [tableOf_eq hS hY, bS]; dsimp only
  cases hf : fdC A 1 (nl nm) 30 Y with
  | none => rw [if_neg (show ¬ (0 : Int32) ≤ fdJ none by decide)]
  | some p =>
    obtain ⟨p30, s', hs', hp⟩ := fdC_lt hf
    have g := hS p.1 p30
    rw [hs'] at g
    have l6 : ln A (s' + 5) ≤ 6 := g.2.2.1.2.2.2.1.2.1
    rw [show s' + 3 + 2 * 1 = s' + 5 by omega] at hp
    obtain ⟨i1, i2⟩ := id6 p30 (show p.2 < 6 by omega)
    rw [show fdJ (some p) = ni (6 * p.1 + p.2) from rfl, if_pos (show (0 : Int32) ≤ ni (6 * p.1 + p.2) from (ni_le (a := 0) (by omega) (by omega)).mpr (by omega)), i1]
/-- what the reference does behind a look-up -/
theorem w22_7 {G r : Nat} (hR : Rw o a w v z nn s y A B) (hr : r < 1200) (h7 : w r = 7) (hv : v r = nl nm) (t3 : gi B 181 63 = ni (sp + 1)) (hs : sp < 4000) {x : Int32} {B3 : Mem} (hl : S_X11_looks rS (ni y) (z r) (nl nm) (gl B 219 sp) B = some (x, B3)) (e3 : gi B3 181 63 = ni (sp + 1)) : W22 rS y b qr (G + 1) r 0 B = SJ_X11_works_22 rS G (ni y) (ni qr) (ni (1200 * (30 + y))) (ni b) x (ni (r + 1)) (sl B3 219 sp (gl B3 181 71)) := by
  have rw3 := hR.2.2 r
  have e0 : gi B 208 (1200 * (30 + y) + r) = 7 := rw3.1.trans h7
  unfold W22
  rw [w22_u hR.1.2.2.2.2 hr (by rw [e0]; decide), e0, if_neg (by decide), if_neg (by decide), if_pos (by decide), rw3.2.1, rw3.2.2, hv]
  unfold SJ_X11_works_137 SJ_X11_works_439
  rw [if_pos (by decide), if_neg (by decide), t3, show ni (sp + 1) - 1 = ni sp from (ni_sub (a := sp + 1) (b := 1) (by omega)).trans (congrArg ni (by omega)), gdT ((ni_inb (by omega)).mpr (by omega)), ni_tn (by omega), hl, bS]; dsimp only
  rw [e3, show ni (sp + 1) - 1 = ni sp from (ni_sub (a := sp + 1) (b := 1) (by omega)).trans (congrArg ni (by omega)), gdT ((ni_inb (by omega)).mpr (by omega)), ni_tn (by omega)]
theorem pb_71 {k : Nat} {x : Int64} : PB B (sl B 219 k x) := frv_sl (by omega)
theorem ev_entry {mo c r n h : Nat} {ld : Int32} (hb : b ≤ 40 * d) (hh1 : 1 ≤ h) (hN : NdS L f rS) (e : Ev o a w v z nn L f rS d y s b q qr st mo c r n h) (ho : o (c + n) = 4) (hw : w (r + n) = 7) (hrf : Rfn y ld (a (c + n)) (v (r + n)) (z (r + n))) : Ev o a w v z nn L f rS d y s b q qr st mo c r (n + 1) h := by
  intro A B sp F hC hh hb1 hF hc hr hn hm
  rcases e A B sp F hC hh hb1 (by omega) (by omega) (by omega) hn hm with ⟨F1, A1, B1, p, C1⟩ | t
  rotate_left
  · exact Or.inr (t.le (Nat.le_refl _) (by omega) (Nat.le_refl _) (by omega))
  have q1 := p.1
  have q2 := p.ns
  obtain ⟨G, rfl⟩ : ∃ g, F1 = g + 1 + 1 := ⟨F1 - 2, by omega⟩
  have hd := hC.d31
  have y30 := hC.y30
  obtain ⟨Y, nm, hY, hnm, ha, hv, hz, -⟩ := hrf
  -- both throw
  have thrown : ∀ {t : Nat} {x : Int32} {j : Nat} {A3 B3 : Mem}, S_X11_looks rS (ni y) (z (r + n)) (nl nm) (gl B1 219 sp) B1 = some (x, B3) → (¬ x = 0 ∧ ¬ x = -1) → gi B3 181 63 = ni (sp + 1) → Th A1 t x j A3 → j + d + 1 ≤ 31 → t + 14000 * nst B3 ≤ 1 + 14000 * nst B1 → Mi L A3 B3 → FrAt A3 d y s (c + n) b q st → gi A3 144 2 = ni (d + 1) → FA d sp A1 A3 → FB sp B1 B3 → Ph B1 B3 → Thr rS L d y s b q qr st sp (n + 1) c (c + (n + 1)) F r A B := by
    intro t x j A3 B3 hl hx e3 th hj ht mi fr dep fa fb ph
    have hw2 := w22_7 (b := b) (qr := qr) (G := G + 1) C1.2.1 (show r + n < 1200 by omega) hw hv C1.2.2.2.1.2.2.1 (by omega) hl e3
    rw [w22_x y30 (by omega) hx.1] at hw2
    have pb : PB B3 (sl B3 219 sp (gl B3 181 71)) := pb_71
    have fb' : FB sp B3 (sl B3 219 sp (gl B3 181 71)) := frv_sl (by omega)
    have t1 : Thr rS L d y s b q qr st sp 1 (c + n) (c + n + 1) (G + 1 + 1) (r + n) A1 B1 := ⟨t, x, j, A3, _, hx, hw2, th, hj, by rw [pb.nst]; exact ht, mi_p mi FrV.rf pb, ⟨c + n, Nat.le_refl _, by omega, fr⟩, dep, fa, fb.tr fb' (Nat.le_refl _), ph.tr (ph_pb pb rfl)⟩
    exact p.thr t1 (Nat.le_refl _) (by omega) (by omega)
  -- the year that is named
  have st1 : (∃ t A2 B2, S_X11_looks rS (ni y) (z (r + n)) (nl nm) (gl B1 219 sp) B1 = SJ_X11_looks_33 rS (ni y) (nl nm) (gl B1 219 sp) (ni Y) B2 ∧ (Y = y ∨ DmO A2 Y) ∧ Go A1 t A2 ∧ t + 14000 * nst B2 ≤ 14000 * nst B1 ∧ Cf o a w v z nn L d y s (c + n) b q st (sp + 1) A2 B2 ∧ FA (d + 1) (sp + 1) A1 A2 ∧ FB (sp + 1) B1 B2 ∧ Ph B1 B2) ∨ Thr rS L d y s b q qr st sp (n + 1) c (c + (n + 1)) F r A B := by
    by_cases ey : Y = y
    · refine Or.inl ⟨0, A1, B1, ?_, Or.inl ey, Go.rf, by omega, C1, FrV.rf, FrV.rf, Ph.rf⟩
      unfold S_X11_looks SJ_X11_looks_13
      rw [hz, if_pos ey, if_pos (by decide), if_pos rfl, if_pos (by decide), ey]
    · have ney : ¬ ni Y = ni y := fun z => ey ((ni_inj (by omega) (by omega)).mp z)
      have n0 : ¬ ni Y < 0 := ni_n0 (by omega)
      rcases dem1 hN C1 (by omega) (by omega) hY (fun x A9 h9 hx => by
        rw [re_adv C1 (by omega) ho ha hY hnm, if_pos ney, h9, bS]; unfold SJ_X3_readEntry_26; rw [if_neg hx]) with ⟨t, A2, B2, r1, dm, go, ht, C2, fa, fb, ph⟩ | ⟨t, x, j, A3, B3, hx, r1, th, hj, ht, mi, fr, dep, e63, fa, fb, ph⟩
      · refine Or.inl ⟨t, A2, B2, ?_, Or.inr dm, go, ht, C2, fa, fb, ph⟩
        unfold S_X11_looks SJ_X11_looks_13
        rw [hz, if_neg ey, if_neg n0, r1, bS, if_pos rfl, if_neg n0]
      · refine Or.inr (thrown ?_ hx e63 th hj ht mi fr dep (fa.mono (by omega) (by omega)) (fb.mono (by omega)) ph)
        unfold S_X11_looks SJ_X11_looks_13
        rw [hz, if_neg ey, if_neg n0, r1, bS, if_neg hx.1]
  rcases st1 with ⟨t, A2, B2, hl, ok, go, ht, C2, fa, fb, ph⟩ | t
  rotate_left
  · exact Or.inr t
  have r26 : ∀ {M N : Mem}, Cf o a w v z nn L d y s (c + n) b q st (sp + 1) M N → (Y = y ∨ DmO M Y) → S_X3_advance d M = SJ_X3_readEntry_26 d (nl (Y * 1099511627776 + nm)) 0 M := by
    intro M N CM okM
    rw [re_adv CM (by omega) ho ha hY hnm]
    by_cases ey : Y = y
    · rw [if_neg (fun q => q (by rw [ey]))]
    · rw [if_pos (fun z => ey ((ni_inj (by omega) (by omega)).mp z))]
      rcases okM with h | h
      · exact absurd h ey
      · rw [dm_0 hY h, bS]
  have fA : ∀ {X : Mem}, FA (d + 1) (sp + 1) A2 X → FA d sp A1 X := fun g => (fa.mono (by omega) (by omega)).tr (g.mono (by omega) (by omega)) (Nat.le_refl _)
  have fB : ∀ {X : Mem}, FB (sp + 1) B2 X → FB sp B1 X := fun g => (fb.mono (by omega)).tr (g.mono (by omega)) (Nat.le_refl _)
  rw [lk_33 C2.1.2.2.1 hY] at hl
  have ix : gl B1 219 sp = gl A2 177 sp := by
    rw [fa.2.2.2.2 177 sp (by omega)]; exact (C1.2.2.2.1.2.2.2 sp (by omega)).symm
  cases hf : fdC A2 1 (nl nm) 30 Y with
  | none =>
    rw [hf] at hl
    have adv := r26 C2 ok
    rw [re_26 C2 hY hnm, hf] at adv
    have th := go.th (go_x C2.2.2.2.1.1 hd adv (by decide) (by decide))
    exact Or.inr (thrown hl (by decide) C2.2.2.2.1.2.2.1 th (by omega) (by omega) C2.1 C2.2.2.1 C2.2.2.2.1.1 (fA FrV.rf) (fB FrV.rf) ph)
  | some p' =>
    rw [hf] at hl
    dsimp only at hl
    obtain ⟨p30, s', hs', hp⟩ := fdC_lt hf
    rw [show s' + 3 + 2 * 1 = s' + 5 by omega] at hp
    have g := C2.1.2.2.1 p'.1 p30
    rw [hs'] at g
    have l6 : ln A2 (s' + 5) ≤ 6 := g.2.2.1.2.2.2.1.2.1
    have a26 : ∀ {M N : Mem}, Cf o a w v z nn L d y s (c + n) b q st (sp + 1) M N → (Y = y ∨ DmO M Y) → WA A2 M → S_X3_advance d M = if ¬ ni p'.1 = ni y then (S_X3_demand (ni p'.1) M).bind fun w4 => SJ_X3_readEntry_83 d (ni (8 * p'.1 + p'.2)) (ni p'.1) w4.1 w4.2 else SJ_X3_readEntry_83 d (ni (8 * p'.1 + p'.2)) (ni p'.1) 0 M := by
      intro M N CM okM wm
      rw [r26 CM okM, re_26 CM hY hnm, (wm.kpT C2.1.2.2.1).fd 1 (by omega), hf]
    -- the year where the table is
    have st2 : (∃ t3 A3 B3, S_X11_looks rS (ni y) (z (r + n)) (nl nm) (gl B1 219 sp) B1 = SJ_X11_looks_71 rS (ni y) (gl B1 219 sp) (ni (6 * p'.1 + p'.2)) (ni p'.1) 0 B3 ∧ S_X3_advance d A3 = S_X3_pushEntry p'.1 (ni p'.2) (if p'.1 = y then 0 else 1) A3 ∧ Go A2 t3 A3 ∧ t3 + 14000 * nst B3 ≤ 14000 * nst B2 ∧ Cf o a w v z nn L d y s (c + n) b q st (sp + 1) A3 B3 ∧ FA (d + 1) (sp + 1) A2 A3 ∧ FB (sp + 1) B2 B3 ∧ Ph B2 B3) ∨ Thr rS L d y s b q qr st sp (n + 1) c (c + (n + 1)) F r A B := by
      by_cases ey : p'.1 = y
      · refine Or.inl ⟨0, A2, B2, ?_, ?_, Go.rf, by omega, C2, FrV.rf, FrV.rf, Ph.rf⟩
        · rw [hl, if_pos (by rw [ey])]
        · rw [a26 C2 ok FrV.rf, if_neg (fun q => q (by rw [ey])), re_83 C2 p30 (by omega)]
      · have ney : ¬ ni p'.1 = ni y := fun z => ey ((ni_inj (by omega) (by omega)).mp z)
        rw [if_neg ney] at hl
        have nB := ph.nst
        rcases dem1 hN C2 (by omega) (by omega) p30 (fun x A9 h9 hx => by
          rw [a26 C2 ok FrV.rf, if_pos ney, h9, bS]; unfold SJ_X3_readEntry_83; rw [if_neg hx]) with ⟨t3, A3, B3, r1, dm, go3, ht3, C3, fa3, fb3, ph3⟩ | ⟨t3, x, j, A3, B3, hx, r1, th, hj, ht3, mi, fr, dep, e63, fa3, fb3, ph3⟩
        · have ok3 : Y = y ∨ DmO A3 Y := by
            rcases ok with h | h
            · exact Or.inl h
            · exact Or.inr (h.fr hY C2.1 C3.1 fa3 ph3)
          refine Or.inl ⟨t3, A3, B3, ?_, ?_, go3, ht3, C3, fa3, fb3, ph3⟩
          · rw [hl, r1, bS]
          · rw [a26 C3 ok3 fa3.q, if_pos ney, dm_0 p30 dm, bS]
            exact re_83 C3 p30 (by omega)
        · refine Or.inr (thrown ?_ hx e63 (go.th th) hj (by omega) mi fr dep (fA fa3) (fB fb3) (ph.tr ph3))
          rw [hl, r1, bS]; unfold SJ_X11_looks_71; rw [if_neg hx.1]
    rcases st2 with ⟨t3, A3, B3, hl3, adv3, go3, ht3, C3, fa3, fb3, ph3⟩ | t
    rotate_left
    · exact Or.inr t
    have ix3 : gl B1 219 sp = gl A3 177 sp := by rw [ix, fa3.2.2.2.2 177 sp (by omega)]
    have hs3 : gr A3 (21 + 4 * p'.1) 0 = some s' := (fa3.2.2.1 (21 + 4 * p'.1) 0 (by omega)).trans hs'
    have hp3 : p'.2 < ln A3 (s' + 5) := by rw [FrV.ln fa3]; exact hp
    rcases ent_fin (rS := rS) (fg := if p'.1 = y then 0 else 1) C3 (by omega) p30 hs3 hp3 rfl with ⟨en, Ah, Bh, Ch, fah, fbh, phh, neh, pe, lk⟩ | ⟨pe, lk⟩
    · rw [← ix3, ← hl3] at lk
      rw [pe] at adv3
      have e3 : gi (sl Bh 181 71 en) 181 63 = ni (sp + 1) := Ch.2.2.2.1.2.2.1
      have hw2 := w22_7 (b := b) (qr := qr) (G := G + 1) C1.2.1 (show r + n < 1200 by omega) hw hv C1.2.2.2.1.2.2.1 (by omega) lk e3
      rw [sl_eq] at hw2
      -- the last turn, seen from Ah and Bh
      have pa : FrV (fun _ _ => False) (fun a j => (a = 144 ∧ j = 4) ∨ (a = 146 + d ∧ j = 2)) (fun a j => a = 177 ∧ sp ≤ j) Ah (si (si (sl (si Ah 144 4 (ni sp)) 177 sp en) 144 4 (ni (sp + 1))) (146 + d) 2 (ni (c + n + 1))) := (((frv_si (Or.inl ⟨rfl, rfl⟩)).tr (frv_sl ⟨rfl, Nat.le_refl _⟩)).tr (frv_si (Or.inl ⟨rfl, rfl⟩))).tr (frv_si (Or.inr ⟨rfl, rfl⟩))
      have cb : Cf o a w v z nn L d y s (c + n) b q st (sp + 1) Ah (sl Bh 181 71 en) := ⟨mi_p Ch.1 FrV.rf (frv_sl (by omega)), rw_q Ch.2.1 FrV.rf (PB.q (frv_sl (by omega))), Ch.2.2.1, Ch.2.2.2.1, Ch.2.2.2.2⟩
      obtain ⟨c1, c2, c3, c4, c5⟩ := cf_step (m := sp + 1) cb pa (frv_sl (R := fun _ _ => False) (I := fun a j => a = 181 ∧ j = 63) (a := 219) (j := sp) (x := en) ⟨rfl, Nat.le_refl _⟩) (by rw [gi_ne (by omega)]; exact si_eq) e3 si_eq (fun k hk => by
        by_cases ek : k = sp
        · rw [ek, gl_si, gl_si, sl_eq, sl_eq]
        · rw [gl_si, gl_si, gl_sl, if_neg (fun q => ek q.2), gl_si, gl_sl, if_neg (fun q => ek q.2), gl_sl, if_neg (fun q => absurd q.1 (by decide))]; exact Ch.2.2.2.1.2.2.2 k hk)
      have g3 := go_0 C3.2.2.2.1.1 hd adv3
      rw [show gi (si (sl (si Ah 144 4 (ni sp)) 177 sp en) 144 4 (ni (sp + 1))) (146 + d) 2 = ni (c + n) by rw [gi_ne (by omega), gi_sl, gi_ne (by omega)]; exact Ch.2.2.1.2.2.1, show ni (c + n) + 1 = ni (c + n + 1) from ni_add _ 1] at g3
      have f1 : FB sp Bh (sl Bh 181 71 en) := frv_sl (by omega)
      have ne2 : nst (sl Bh 181 71 en) = nst Bh := rfl
      have P2 : Pth rS d y b qr sp 1 (G + 1 + 1) (r + n) A1 B1 (G + 1) (r + n + 1) _ _ := ⟨Nat.le_refl _, hw2, ⟨t + t3 + 1, (go.tr go3).tr g3, by omega⟩, (fA (fa3.tr fah (Nat.le_refl _))).tr c2 (Nat.le_refl _), ((fB (fb3.tr fbh (Nat.le_refl _))).tr f1 (Nat.le_refl _)).tr c3 (Nat.le_refl _), ((ph.tr ph3).tr phh).tr (Ph.tr (show Ph Bh (sl Bh 181 71 en) from fun x hx => Or.inl ⟨rfl, rfl, fun _ _ => rfl⟩) c4)⟩
      exact Or.inl ⟨G + 1, _, _, p.tr P2 (Nat.le_refl _), c1⟩
    · rw [← ix3, ← hl3] at lk
      rw [pe] at adv3
      have th := (go.tr go3).th (go_x C3.2.2.2.1.1 hd adv3 (by decide) (by decide))
      have pa : PA A3 (si A3 144 4 (ni sp)) := frv_si (by omega)
      have fa4 : FA (d + 1) (sp + 1) A3 (si A3 144 4 (ni sp)) := frv_si (by omega)
      exact Or.inr (thrown lk (by decide) C3.2.2.2.1.2.2.1 th (by omega) (by omega) (mi_p C3.1 pa FrV.rf) (C3.2.2.1.fa fa4 hd) ((si_ff' (by omega)).trans C3.2.2.2.1.1) (fA (fa3.tr fa4 (Nat.le_refl _))) (fB fb3) (ph.tr ph3))
end Eo
