-- ===== a rule is worked, in both =====
theorem rule_mi {L y s : Nat} {A B : Mem} (hL : L < 1000000) (hy : y < 30) (m : Mi L A B) (e63 : gi B 181 63 = 0) (hg : Stg A B) (hs : gr A (21 + 4 * y) 0 = some s) (hh : hitR A s ≠ none) :
    ∃ x A2 B' r c, gi B 207 (30 + y) = ni r ∧ r < 1200 ∧ gi A s 3 = ni c ∧ c < 1024 ∧ S_X3_run (opA (sl (si (si A 144 2 0) 144 4 0) 144 6 0) 0 y s c 0 0) = some (x, A2) ∧ S_X11_works (S_X11_needs 32) (ni y) (ni r) 0 B = some (x, B') ∧ ¬ x = -1 ∧ Mi L A2 B' ∧ gi B' 181 63 = 0 ∧ WA A A2 ∧ WB2 B B' ∧ (x = 0 → gl A2 144 6 = gl B' 181 71) ∧ ∀ j, 67 ≤ j → gi B' 181 j = gi B 181 j := by
  have g := m.2.2.1 y hy
  rw [hs] at g
  have hl : ln A (s + 1) ≤ 1024 := g.2.2.1.2.2.2.2.2.2.1
  rcases rul_eq g with ⟨e3, -⟩ | ⟨c, r, n, q1, q2, E, h20, h11, q3, q4⟩
  · exact absurd (if_pos e3) hh
  have q1 : gi A s 3 = ni c := q1
  have q2 : gi B 207 (30 + y) = ni r := q2
  have q3 : c + n < ln A (s + 1) := q3
  have pa0 : PA A (sl (si (si A 144 2 0) 144 4 0) 144 6 0) := ((frv_si (by omega)).tr (frv_si (by omega))).tr (frv_sl (by omega))
  have pa1 : PA A (opA (sl (si (si A 144 2 0) 144 4 0) 144 6 0) 0 y s c 0 0) := FrV.tr pa0 (opA_pa (by omega))
  have n30 : nst B ≤ 30 := cnt_le
  have C1 : Cf (gi A (s + 1)) (gl A (s + 2)) (fun k => gi B 208 (1200 * (30 + y) + k)) (fun k => gl B 209 (1200 * (30 + y) + k)) (fun k => gi B 210 (1200 * (30 + y) + k)) (ln A (s + 1)) L 0 y s c 0 0 0 0 (opA (sl (si (si A 144 2 0) 144 4 0) 144 6 0) 0 y s c 0 0) B := by
    refine ⟨mi_p m pa1 FrV.rf, rw_q ⟨⟨g.2.1.1, g.2.1, rfl, hl, hy⟩, fun k => ⟨rfl, rfl⟩, fun k => ⟨rfl, rfl, rfl⟩⟩ pa1.q FrV.rf, opA_fr (by omega), ⟨opA_2, ?_, e63, fun k hk => by omega⟩, by omega⟩
    rw [opA_4 (by omega)]; show gi (si (si A 144 2 0) 144 4 0) 144 4 = ni 0; exact si_eq
  have S1 : Stg (opA (sl (si (si A 144 2 0) 144 4 0) 144 6 0) 0 y s c 0 0) B := fun j hj => by
    rw [opA_gl, gl_ne (by omega)]; exact hg j hj
  rcases works_ok (qr := 0) (Nat.zero_le _) (nd_all hL 32) (fun e => absurd e (by decide)) E h11 C1 q3 q4 (by omega) (fun _ => S1) with ⟨x, t, A1, B1, w1, go, ht, W1, fa, fb, ph⟩ | ⟨x, B1, w1, W1⟩
  · have w1 : S_X11_works (S_X11_needs 32) (ni y) (ni r) 0 B = some (0, B1) := w1
    obtain ⟨mi, hR, fr, ⟨t1, t2, t3, t4⟩, hk', x1, x2⟩ := W1
    obtain ⟨f0, f1, f2, f3, f4, f5⟩ := id fr
    have adv : S_X3_advance 0 A1 = some (-1, si (sl (si A1 144 4 (ni 0)) 144 6 x) 144 2 (ni 0)) := by
      obtain ⟨⟨-, r2, r3, r4, -⟩, r6, -⟩ := hR
      rw [adv_eq r2 (by omega) f1 f2 (by omega), (r6 _).1, (r6 _).2, h20]
      unfold advO
      rw [if_neg (by decide), if_neg (by decide), if_neg (by decide), if_neg (by decide), if_neg (by decide), if_neg (by decide), if_neg (by decide), if_neg (by decide), if_neg (by decide), if_neg (by decide), if_neg (by decide), if_neg (by decide), if_pos rfl, pop_eq t2 (by omega), bS, x1]; dsimp only
      rw [gi_sl, si_ff' (by omega), t1]; rfl
    have pa2 : PA A1 (si (sl (si A1 144 4 (ni 0)) 144 6 x) 144 2 (ni 0)) := ((frv_si (by omega)).tr (frv_sl (by omega))).tr (frv_si (by omega))
    have g2 := go.tr (go_m t1 (by omega) adv)
    refine ⟨0, _, B1, r, c, q2, by omega, q1, by omega, g2.run (by omega) si_eq, w1, by decide, mi_p mi pa2 FrV.rf, t3, FrV.tr (FrV.tr pa1.q fa.q) pa2.q, fb.q, fun _ => ?_, fun j hj => fb.2.2.2.1 181 j (by omega)⟩
    rw [gl_si, sl_eq, x2]
  · have w1 : S_X11_works (S_X11_needs 32) (ni y) (ni r) 0 B = some (x, B1) := w1
    obtain ⟨h1, h2, t, j, A', h3, h4, h5, h6, ⟨pc, h7, h8, h9⟩, h10, h11', h12, h13⟩ := W1
    have th := h3.rule h4 h10 h9
    have pa2 : PA A' (si (si A' 144 4 (ni 0)) 144 2 (ni 0)) := (frv_si (by omega)).tr (frv_si (by omega))
    exact ⟨x, _, B1, r, c, q2, by omega, q1, by omega, th.run (by omega) (by omega) si_eq, w1, h1.2, mi_p h6 pa2 FrV.rf, h2, FrV.tr (FrV.tr pa1.q h11'.q) pa2.q, h12.q, fun e => absurd e h1.1, fun j hj => h12.2.2.2.1 181 j (by omega)⟩
