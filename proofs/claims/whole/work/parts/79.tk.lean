-- ===== a year is needed, in both =====
theorem bgA_144 {A : Mem} {Y n j : Nat} (hY : Y < 30) (hj : j ≠ 8) : gi (bgA A Y n) 144 j = gi A 144 j := by
  unfold bgA
  rw [si_ff' hj]
  split
  · rw [gi_ne (by omega), gi_ne (by omega)]
  · rw [gi_ne (by omega)]
theorem bgB_181 {B : Mem} {Y n j : Nat} (hj : j ≠ 66) : gi (bgB B Y n) 181 j = gi B 181 j := by
  unfold bgB
  rw [si_ff' hj]
  split
  · rw [gi_ne (by omega), gi_ne (by omega)]
  · rw [gi_ne (by omega)]
theorem bgB_ph {B : Mem} {Y n u : Nat} (ne : u ≠ Y) : gi (bgB B Y n) 212 u = gi B 212 u := by
  rw [bgB_212, si_ff' ne]
theorem nd_all {L : Nat} (hL : L < 1000000) : ∀ f, NdS L f (S_X11_needs f) := by
  intro f
  induction f with
  | zero => intro D sp A B Y hY mi tp hs hD hn; omega
  | succ f ih =>
    intro D sp A B Y hY mi tp hs hD hn
    have g := mi.2.2.1 Y hY
    have dy := mi.2.2.2.2.2.1 Y hY
    have i30 : inb (ni Y) 30 := (ni_inb (by omega)).mpr hY
    have dmd : S_X3_demand (ni Y) A = if ¬ gr A (21 + 4 * Y) 0 = none then (if ¬ gi A (21 + 4 * Y) 1 = 3 then (if gi A (21 + 4 * Y) 1 = 1 then S_X3_demand (ni Y) A else some (0, A)) else some (804, A)) else some (803, A) := by
      by_cases e1 : ¬ gr A (21 + 4 * Y) 0 = none
      · rw [if_pos e1]
        by_cases e2 : ¬ gi A (21 + 4 * Y) 1 = 3
        · rw [if_pos e2]
          by_cases e3 : gi A (21 + 4 * Y) 1 = 1
          · rw [if_pos e3]
          · rw [if_neg e3]; exact dm_0 hY ⟨e1, e2, e3⟩
        · rw [if_neg e2]
          unfold S_X3_demand
          rw [if_neg (ni_n0 (by omega)), if_neg (show ¬ (30 : Int32) ≤ ni Y from fun e => by have := (ni_le (a := 30) (by omega) (by omega)).mp e; omega), gdT i30, gdT i30]
          simp only [show (ni Y).toNatClampNeg = Y from ni_tn (by omega)]
          rw [if_pos e1, if_neg e2]
      · rw [if_neg e1]
        unfold S_X3_demand
        rw [if_neg (ni_n0 (by omega)), if_neg (show ¬ (30 : Int32) ≤ ni Y from fun e => by have := (ni_le (a := 30) (by omega) (by omega)).mp e; omega), gdT i30]
        simp only [show (ni Y).toNatClampNeg = Y from ni_tn (by omega)]
        rw [if_neg e1]
    have ndS : S_X11_needs (f + 1) (ni Y) B = SB_X11_needs (S_X11_needs f) (ni Y) B := rfl
    have nds : ∀ rS : Int32 → Mem → Option (Int32 × Mem), SB_X11_needs rS (ni Y) B = if ¬ gi B 194 (30 + Y) = 0 then (if gi B 212 Y = 2 then some (0, B) else if ¬ gi B 212 Y = 4 then (if ¬ gi B 212 Y = 3 then SB_X11_needs rS (ni Y) B else some (804, B)) else some (0, B)) else some (803, B) := by
      intro rS
      by_cases e1 : ¬ gi B 194 (30 + Y) = 0
      · rw [if_pos e1]
        by_cases e2 : gi B 212 Y = 2
        · rw [if_pos e2]; unfold SB_X11_needs
          rw [show (30 : Int32) + ni Y = ni (30 + Y) from ni_add 30 Y, gdT ((ni_inb (by omega)).mpr (by omega)), gdT i30]
          simp only [show (ni (30 + Y)).toNatClampNeg = 30 + Y from ni_tn (by omega), show (ni Y).toNatClampNeg = Y from ni_tn (by omega)]
          rw [if_pos e1, if_pos e2]
        · rw [if_neg e2]
          by_cases e3 : ¬ gi B 212 Y = 4
          · rw [if_pos e3]
            by_cases e4 : ¬ gi B 212 Y = 3
            · rw [if_pos e4]
            · rw [if_neg e4]; unfold SB_X11_needs
              rw [show (30 : Int32) + ni Y = ni (30 + Y) from ni_add 30 Y, gdT ((ni_inb (by omega)).mpr (by omega)), gdT i30, gdT i30, gdT i30]
              simp only [show (ni (30 + Y)).toNatClampNeg = 30 + Y from ni_tn (by omega), show (ni Y).toNatClampNeg = Y from ni_tn (by omega)]
              rw [if_pos e1, if_neg e2, if_pos e3, if_neg e4]
          · rw [if_neg e3]; unfold SB_X11_needs
            rw [show (30 : Int32) + ni Y = ni (30 + Y) from ni_add 30 Y, gdT ((ni_inb (by omega)).mpr (by omega)), gdT i30, gdT i30]
            simp only [show (ni (30 + Y)).toNatClampNeg = 30 + Y from ni_tn (by omega), show (ni Y).toNatClampNeg = Y from ni_tn (by omega)]
            rw [if_pos e1, if_neg e2, if_neg e3]
      · rw [if_neg e1]; unfold SB_X11_needs
        rw [show (30 : Int32) + ni Y = ni (30 + Y) from ni_add 30 Y, gdT ((ni_inb (by omega)).mpr (by omega))]
        simp only [show (ni (30 + Y)).toNatClampNeg = 30 + Y from ni_tn (by omega)]
        rw [if_neg e1]
    cases hg : gr A (21 + 4 * Y) 0 with
    | none =>
      rw [hg] at g
      have g : gi B 194 (30 + Y) = 0 := g
      refine Or.inl ⟨803, by decide, ?_, ?_, fun e => absurd e (by decide)⟩
      · rw [dmd, hg, if_neg (by simp)]
      · rw [ndS, nds, g, if_neg (by simp)]
    | some s =>
      rw [hg] at g
      have gn : gr A (21 + 4 * Y) 0 ≠ none := by rw [hg]; simp
      obtain ⟨g1, g2, g3, ⟨nS, s1, s2⟩, -, -⟩ := g
      have g1' : ¬ gi B 194 (30 + Y) = 0 := by rw [g1]; decide
      rcases dy.2.2 gn with p | p | p | p
      rotate_left
      · refine Or.inl ⟨0, by decide, ?_, ?_, fun _ => ⟨gn, by rw [dy.1.1, p]; decide, by rw [dy.1.1, p]; decide⟩⟩
        · rw [dmd, if_pos gn, dy.1.1, p, if_pos (by decide), if_neg (by decide)]
        · rw [ndS, nds, if_pos g1', p, if_pos rfl]
      · refine Or.inl ⟨804, by decide, ?_, ?_, fun e => absurd e (by decide)⟩
        · rw [dmd, if_pos gn, dy.1.1, p, if_neg (by decide)]
        · rw [ndS, nds, if_pos g1', p, if_neg (by decide), if_pos (by decide), if_neg (by decide)]
      · refine Or.inl ⟨0, by decide, ?_, ?_, fun _ => ⟨gn, by rw [dy.1.1, p.1]; decide, by rw [dy.1.1, p.1]; decide⟩⟩
        · rw [dmd, if_pos gn, dy.1.1, p.1, if_pos (by decide), if_neg (by decide)]
        · rw [ndS, nds, if_pos g1', p.1, if_neg (by decide), if_neg (by decide)]
      -- it starts
      obtain ⟨n, n1, n2, n3, n4⟩ := mi.2.2.2.2.2.2
      obtain ⟨mb, nsB⟩ := mi_begin mi hY p.1 n2 n3 n1 n4 gn
      obtain ⟨q1, q2, q3, q4⟩ := tp
      have hD31 : D < 31 := by omega
      have dm := dm_start (s := s) hY hg (dy.1.1.trans p.1) n2 (by omega) q1 q2 hD31
      have nd := nd_start (rS := S_X11_needs f) hY g1 p.1 n3 (by omega)
      obtain ⟨⟨t1, t2⟩, t3, ⟨t4, t5, t6⟩, ⟨t7, t8, t9⟩, t10, t11, t12, c0, c1, t13, T, h21, hsz⟩ := g3
      have eN : rNs (svR B (30 + Y)) = nS := by
        show tn (gi B 203 (30 + Y)) = nS
        rw [s1]; exact ni_tn (by omega)
      rw [eN] at T
      have eU : gi B 195 (30 + Y) = gi A s 0 := t1.symm
      have fA1 : FA D sp A (opA (bgA A Y n) D Y s 0 sp 1) := (bgA_wa hY).tr (opA_fa hD31) (Nat.le_refl _)
      have fB1 : FB sp B (bgB B Y n) := bgB_wb
      have nn1 : ln A (s + 1) = c1 + 1 := hsz
      have hl : ln A (s + 1) ≤ 1024 := t12
      have C1 : Cf (gi A (s + 1)) (gl A (s + 2)) (fun k => gi B 208 (1200 * (30 + Y) + k)) (fun k => gl B 209 (1200 * (30 + Y) + k)) (fun k => gi B 210 (1200 * (30 + Y) + k)) (ln A (s + 1)) L D Y s 0 sp 0 1 sp (opA (bgA A Y n) D Y s 0 sp 1) (bgB B Y n) := by
        refine ⟨mi_p mb (opA_pa hD31) FrV.rf, rw_q ⟨⟨g2.1, g2, rfl, hl, hY⟩, fun k => ⟨rfl, rfl⟩, fun k => ⟨rfl, rfl, rfl⟩⟩ fA1.q fB1.q, opA_fr hD31, ⟨opA_2, ?_, ?_, fun k hk => ?_⟩, by omega⟩
        · rw [opA_4 hD31, bgA_144 hY (by omega)]; exact q2
        · rw [bgB_181 (by omega)]; exact q3
        · rw [opA_gl, (bg_gl (A := A) (B := B)).1, (bg_gl (A := A) (B := B)).2.1]; exact q4 k hk
      have S1 : Sx (fun k => gi B 204 (120 * (30 + Y) + k)) (fun k => gi B 205 (120 * (30 + Y) + k)) (fun k => gi B 206 (120 * (30 + Y) + k)) (gi A (s + 7)) (gi A (s + 8)) (gi A (s + 9)) (ln A (s + 5)) (ln A (s + 7)) Y s (opA (bgA A Y n) D Y s 0 sp 1) (bgB B Y n) := by
        refine ⟨(fA1.2.2.1 (21 + 4 * Y) 0 (by omega)).trans hg, Try.q ⟨g2, rfl, t11, fun k => ⟨rfl, rfl, rfl⟩⟩ fA1.q, fun k => ?_, fun q hq => ?_, by rw [bgB_212, si_eq], hY⟩
        · rw [bgB_o (a := 204) (by omega) (by omega) (by omega), bgB_o (a := 205) (by omega) (by omega) (by omega), bgB_o (a := 206) (by omega) (by omega) (by omega)]; exact ⟨rfl, rfl, rfl⟩
        · obtain ⟨-, z1, qz, z2, z3, z4⟩ := t9 q hq
          have z1 : gi A (s + 6) q = gi B 202 (6 * (30 + Y) + q) := z1
          have z4 : gi A (s + 6) q = ni qz := z4
          refine ⟨by rw [FrV.ln fA1]; exact hq, qz, z2, z3, ?_⟩
          rw [bgB_o (a := 202) (by omega) (by omega) (by omega), ← z1]; exact z4
      have h203 : gi (bgB B Y n) 203 (30 + Y) = ni nS := by rw [bgB_o (by omega) (by omega) (by omega)]; exact s1
      -- what is left once the year above is there
      have fin : ∀ {t0 : Nat} {A3 B3 : Mem}, Cs (gi A (s + 1)) (gl A (s + 2)) (fun k => gi B 208 (1200 * (30 + Y) + k)) (fun k => gl B 209 (1200 * (30 + Y) + k)) (fun k => gi B 210 (1200 * (30 + Y) + k)) (ln A (s + 1)) L D Y s c0 sp A3 B3 → Go (opA (bgA A Y n) D Y s 0 sp 1) t0 A3 → t0 + 14000 * nst B3 ≤ 1 + 14000 * nst (bgB B Y n) → FA D sp (opA (bgA A Y n) D Y s 0 sp 1) A3 → FB sp (bgB B Y n) B3 → Py Y 3 (bgB B Y n) B3 → SB_X11_needs (S_X11_needs f) (ni Y) B = SJ_X11_needs_122 (S_X11_needs f) (ni Y) 0 B3 →
          ∃ A1 x B' t A', S_X3_demand (ni Y) A = some (-1, A1) ∧ S_X11_needs (f + 1) (ni Y) B = some (x, B') ∧ ¬ x = -1 ∧ FB sp B B' ∧ Ph B B' ∧ gi B' 181 63 = ni sp ∧ t + 1 + 14000 * nst B' ≤ 14000 * nst B ∧ Mi L A' B' ∧ gi A' 144 2 = ni D ∧ FA D sp A A' ∧ ((x = 0 ∧ DmO A' Y ∧ Go A1 t A' ∧ gi A' 144 4 = ni sp) ∨ (¬ x = 0 ∧ ∃ j, j + D ≤ 31 ∧ Th A1 t x j A')) := by
        intro t0 A3 B3 C3 go ht fa fb py eq
        have pn := py.nst
        obtain ⟨x, B', t, A', r1, r2, r3, r4, r5, r6, r7, r8, r9, r10, r11⟩ := nd_steps hs ih s2 T h21 hsz C3 (S1.fr fa fb py) (by omega) (by rw [fb.2.2.2.1 203 _ (by omega)]; exact h203)
        refine ⟨_, x, B', t0 + t, A', dm, ndS.trans (eq.trans r1), r2, (fB1.tr fb (Nat.le_refl _)).tr r3 (Nat.le_refl _), fun u hu => ?_, r6, ?_, r8, r9, (fA1.tr fa (Nat.le_refl _)).tr r10 (Nat.le_refl _), ?_⟩
        · by_cases e : u = Y
          · subst e; exact Or.inr ⟨p.1, r5⟩
          · have a1 := (py u hu).1 e
            have a2 := r4 u hu e
            rw [bgB_ph e, bgB_o (a := 214) (by omega) (by omega) (by omega), bgB_o (a := 221) (by omega) (by omega) (by omega)] at a1
            rcases a1 with ⟨h1, h2, h3⟩ | ⟨h1, h2⟩ <;> rcases a2 with ⟨k1, k2, k3⟩ | ⟨k1, k2⟩
            · exact Or.inl ⟨k1.trans h1, k2.trans h2, fun j hj => (k3 j hj).trans (h3 j hj)⟩
            · exact Or.inr ⟨h1.symm.trans k1, k2⟩
            · exact Or.inr ⟨h1, by rw [k1]; exact h2⟩
            · exfalso; rw [k1] at h2; revert h2; decide
        · omega
        · rcases r11 with ⟨x0, dm', go', tp'⟩ | ⟨x0, j, hj, th⟩
          · exact Or.inl ⟨x0, dm', go.tr go', tp'⟩
          · exact Or.inr ⟨x0, j, hj, go.th th⟩
      right
      rcases t13 with ⟨u0, rfl⟩ | ⟨u, u1, u2, u3, u4, u5, u6, rfl⟩
      · have e0 : gi A s 0 = -1 := u0
        rw [eU, e0, if_pos (by decide)] at nd
        exact fin ⟨0, by omega, C1⟩ Go.rf (by omega) FrV.rf FrV.rf Py.rf nd
      · have e0 : gi A s 0 = ni u := u4
        have u5 : gi A (s + 1) 0 = 16 := u5
        have u6 : gl A (s + 2) 0 = nl u := u6
        rw [eU, e0, if_neg (ni_n0 (by omega))] at nd
        have adv : ∀ {M K : Mem}, Cf (gi A (s + 1)) (gl A (s + 2)) (fun k => gi B 208 (1200 * (30 + Y) + k)) (fun k => gl B 209 (1200 * (30 + Y) + k)) (fun k => gi B 210 (1200 * (30 + Y) + k)) (ln A (s + 1)) L D Y s 0 sp 0 1 sp M K → S_X3_advance D M = (S_X3_demand (ni u) M).bind fun w17 => some (w17.1, w17.2) := by
          intro M K CM
          rw [cf_adv CM (by omega), u5, u6]; unfold advO
          rw [if_neg (by decide), if_neg (by decide), if_neg (by decide), if_neg (by decide), if_neg (by decide), if_neg (by decide), if_neg (by decide), if_neg (by decide), if_pos rfl, nl_i]
        rcases dem1 ih C1 (by omega) (by omega) u1 (fun x A9 h9 hx => by rw [adv C1, h9, bS]) with ⟨t, A2, B2, r1, dmo, go, ht, C2, fa, fb, ph⟩ | ⟨t, x, j, A3, B3, hx, r1, th, hj, ht, m3, fr, dep, e63, fa, fb, ph⟩
        · rw [r1, bS] at nd
          have ad2 := adv C2
          rw [dm_0 u1 dmo, bS] at ad2
          have go2 := go_0 C2.2.2.2.1.1 hD31 ad2
          rw [C2.2.2.1.2.2.1, show ni 0 + 1 = ni 1 from ni_add 0 1] at go2
          obtain ⟨k1, k2, k3, k4, k5⟩ := cf_step (p := sp) (m := sp) C2 (frv_si (a := 146 + D) (j := 2) (x := ni 1) (Or.inr ⟨rfl, rfl⟩)) FrV.rf (by rw [gi_ne (by omega)]; exact C2.2.2.2.1.2.1) C2.2.2.2.1.2.2.1 si_eq C2.2.2.2.1.2.2.2
          exact fin ⟨0, by omega, k1⟩ (go.tr go2) (by omega) ((fa.mono (by omega) (Nat.le_refl _)).tr k2 (Nat.le_refl _)) fb (ph.py S1.2.2.2.2.1 (by omega)) nd
        · rw [r1, bS] at nd
          dsimp only at nd
          have y4 : gi B3 212 Y = 4 := ((ph.py (wi := 3) S1.2.2.2.2.1 (by omega) Y hY).2 rfl).1.trans S1.2.2.2.2.1
          have rg := (sd_all (nn := ln A (s + 1)) (s := s) (ny := ln A (s + 7)) (b := sp) hs ih s2 T).1.2.2.2
          obtain ⟨A4, m1, m2, m4, m5, m6⟩ := nd_pass th (by omega) m3 fr dep hY (S1.2.1.q fa.q) (fun i hi => by
            obtain ⟨p', p'', z1, z2, z3, z4, z5⟩ := rg i (by omega) hi
            have z1 : gi A (s + 7) i = ni p' := z1
            exact Or.inl (by rw [z1]; exact (ni_lt (by omega) (by omega)).mpr (by omega))) y4
          unfold SJ_X11_needs_122 SJ_X11_needs_133 SJ_X11_needs_147 at nd
          rw [if_pos hx.1, if_pos hx.1, gdT i30, gdT i30, ni_tn (by omega)] at nd
          have fb3 : FB sp B3 (si (si B3 212 Y 3) 214 Y x) := (frv_si (by omega)).tr (frv_si (by omega))
          refine ⟨_, x, _, t, A4, dm, ndS.trans nd, hx.2, (fB1.tr fb (Nat.le_refl _)).tr fb3 (Nat.le_refl _), fun k hk => ?_, ?_, ?_, m2, m4, (fA1.tr (fa.mono (by omega) (Nat.le_refl _)) (Nat.le_refl _)).tr m5 (Nat.le_refl _), Or.inr ⟨hx.1, j + 1, by omega, m1⟩⟩
          · by_cases e : k = Y
            · subst e
              exact Or.inr ⟨p.1, Or.inr (by rw [gi_ne (by omega), si_eq])⟩
            · have a1 := ph k hk
              rw [bgB_ph e, bgB_o (a := 214) (by omega) (by omega) (by omega), bgB_o (a := 221) (by omega) (by omega) (by omega)] at a1
              rw [gi_ne (show 212 ≠ 214 by omega), si_ff' e, si_ff' e, gi_ne (show 214 ≠ 212 by omega), gi_ne (show 221 ≠ 214 by omega), gi_ne (show 221 ≠ 212 by omega)]
              exact a1
          · rw [gi_ne (by omega), gi_ne (by omega)]; exact e63
          · rw [m6]; omega
