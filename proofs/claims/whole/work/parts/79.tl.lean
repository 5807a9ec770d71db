-- ===== a call that starts classes =====
theorem sim_mi {N : Nat} {A B : Mem} (hN : N < 600) (h : Sim N A B) : Mi (30 * N + 30) A B := by
  obtain ⟨h1, h2, h3, h4, h5, h6, h7, h8, ⟨e, e1, e2, e3, e4⟩, h10, h11, ⟨n, n1, n2, n3, n4⟩, h13, h14, h15⟩ := h
  refine ⟨h1, ⟨h2, e, by omega, e3, e4⟩, fun y hy => (h7 y hy).1, h10, h11, fun y hy => ?_, n, ?_, n2, n3, n4⟩
  · obtain ⟨-, ⟨c1, c2, c3, c4⟩, c5, c6⟩ := h7 y hy
    exact ⟨⟨c1, c3, c4⟩, c5, c6⟩
  · have : nst B ≤ 30 := cnt_le
    omega
theorem sim_back {N : Nat} {A A' B B' : Mem} (hN : N < 600) (h : Sim N A B) (m : Mi (30 * N + 30) A' B') (g : WA A A') (k : WB2 B B') (e63 : gi B' 181 63 = 0) : Sim (N + 1) A' B' := by
  obtain ⟨h1, h2, h3, h4, h5, h6, h7, h8, h9, h10, h11, h12, h13, h14, h15⟩ := h
  have hnc : nc A ≤ nc A' := Nat.le_of_eq (FrV.nc g).symm
  have kH : KpH A A' := ⟨fun y hy => by rw [(g.sm (a := 19) (by omega)).r], fun y s hy hs a ha hb => g.sm (by have := shr_ge (h6 y hy) hs; omega)⟩
  have kR : KpR B B' := fun a a1 a2 => k.sm (by omega)
  have kT := g.kpT (B := B) (fun y hy => (h7 y hy).1)
  have b181 : ∀ j, j < 63 ∨ j = 65 ∨ 70 < j → gi B' 181 j = gi B 181 j := fun j hj => k.2.2.2.1 181 j (by omega)
  refine ⟨m.1, m.2.1.1, ?_, ?_, ?_, smSh_cg h6 kH hnc kR, fun y hy => ?_, smCh_cg h8 kH.1 kT.1 (by rw [(g.sm (a := 18) (by omega)).i]) (k.sm (a := 211) (by omega)).i, ?_, m.2.2.2.1, m.2.2.2.2.1, ?_, smVy_cg h13 hnc ⟨by rw [(g.sm (a := 0) (by omega)).i], (g.sm (a := 180) (by omega)).r, fun v q _ q1 _ a q2 _ => g.sm (by omega)⟩ kH.1 kT.1 (b181 73 (by omega)) (fun a a1 a2 => k.sm (by omega)), ?_, e63⟩
  · unfold SmTp at h3 ⊢; rw [(g.sm (a := 1) (by omega)).i, (g.sm (a := 2) (by omega)).i, b181 1 (by omega), (k.sm (a := 182) (by omega)).i]; exact h3
  · unfold SmWd at h4 ⊢; rw [(g.sm (a := 6) (by omega)).j, (k.sm (a := 183) (by omega)).j]; exact h4
  · unfold SmFt at h5 ⊢; rw [(g.sm (a := 7) (by omega)).i, b181 2 (by omega), b181 3 (by omega)]; exact h5
  · obtain ⟨⟨d1, d2, d3⟩, d4, d5⟩ := m.2.2.2.2.2.1 y hy
    refine ⟨m.2.2.1 y hy, ⟨d1, ?_, d2, d3⟩, d4, d5⟩
    rw [g.2.2.2.1 (21 + 4 * y) 2 (by omega), (k.sm (a := 213) (by omega)).i]; exact (h7 y hy).2.1.2.1
  · obtain ⟨e, e1, e2, e3, e4⟩ := h9
    obtain ⟨e', x1, x2, x3⟩ := m.2.1.2
    have ee : e' = e := (ni_inj (by omega) (by omega)).mp (x2.symm.trans ((b181 59 (by omega)).trans e3))
    subst ee
    exact ⟨e', by omega, by rw [(g.sm (a := 18) (by omega)).i]; exact e2, x2, x3⟩
  · obtain ⟨n, n1, n2, n3, n4⟩ := m.2.2.2.2.2.2
    exact ⟨n, by omega, n2, n3, n4⟩
  · unfold SmBk at h14 ⊢; rw [(g.sm (a := 0) (by omega)).i, b181 83 (by omega), b181 84 (by omega)]; exact h14
theorem run_0 {A : Mem} {n : Nat} {x v : Int32} (h : gi A 144 2 = 0) : SJ_X3_run_4 (n + 1) x v A = some (x, A) := by
  rw [SJ_X3_run_4]; dsimp only
  rw [h, if_pos (show (0 : Int32) ≤ 0 by decide), ite_self]
theorem Go.run {A A' : Mem} {t : Nat} (h : Go A t A') (ht : t ≤ 1000000) (h0 : gi A' 144 2 = 0) : S_X3_run A = some (0, A') := by
  unfold S_X3_run
  have := h (FU - t) 0 (by omega)
  rw [show FU - t + t = FU by have : FU = 4000000 := rfl; omega] at this
  have this : SJ_X3_run_4 FU 0 0 A = _ := this
  rw [this, show FU - t = FU - t - 1 + 1 by have : FU = 4000000 := rfl; omega]
  exact run_0 h0
theorem Th.run {A A' : Mem} {t j : Nat} {x : Int32} (h : Th A t x j A') (ht : t ≤ 1000000) (hj : j ≤ 31) (h0 : gi A' 144 2 = 0) : S_X3_run A = some (x, A') := by
  unfold S_X3_run
  have := h (FU - t) 0 (by omega)
  rw [show FU - t + t = FU by have : FU = 4000000 := rfl; omega] at this
  have this : SJ_X3_run_4 FU 0 0 A = _ := this
  have hu : SJ_X3_unwind_2 (FU - j) x (ni j) A' = some (x, A') := by
    rw [show FU - j = FU - j - 1 + 1 by have : FU = 4000000 := rfl; omega, SJ_X3_unwind_2]; dsimp only
    rw [h0, if_pos (show (0 : Int32) ≤ 0 by decide), ite_self]
  rw [this, hu, bS, show FU - t = FU - t - 1 + 1 by have : FU = 4000000 := rfl; omega]
  exact run_0 h0
/-- a year is needed from without -/
theorem summon_mi {L Y : Nat} {A B : Mem} (hL : L < 1000000) (hY : Y < 30) (m : Mi L A B) (e63 : gi B 181 63 = 0) : ∃ x A' B', S_X3_summon (ni Y) A = some (x, A') ∧ S_X11_needs 32 (ni Y) B = some (x, B') ∧ ¬ x = -1 ∧ Mi L A' B' ∧ gi B' 181 63 = 0 ∧ WA A A' ∧ WB2 B B' ∧ ∀ j, 67 ≤ j → gi B' 181 j = gi B 181 j := by
  have pa : PA A (si (si A 144 2 0) 144 4 0) := (frv_si (by omega)).tr (frv_si (by omega))
  have m0 : Mi L (si (si A 144 2 0) 144 4 0) B := mi_p m pa FrV.rf
  have n30 : nst B ≤ 30 := cnt_le
  have tp : Tp (si (si A 144 2 0) 144 4 0) B 0 0 := ⟨by rw [si_ff' (by omega), si_eq]; rfl, si_eq, e63, fun k hk => by omega⟩
  unfold S_X3_summon
  rcases nd_all hL 32 0 0 _ B Y hY m0 tp (by omega) (by omega) (by omega) with ⟨x, x1, d1, r1, -⟩ | ⟨A1, x, B', t, A', d1, r1, x1, fb, ph, e6, ht, mi, dep, fa, h⟩
  · rw [d1, bS]; dsimp only
    rw [if_pos x1]
    exact ⟨x, _, B, rfl, r1, x1, m0, e63, pa.q, FrV.rf, fun _ _ => rfl⟩
  · rw [d1, bS]; dsimp only
    rw [if_neg (fun q => q rfl)]
    refine ⟨x, A', B', ?_, r1, x1, mi, e6, FrV.tr pa.q fa.q, fb.q, fun j hj => fb.2.2.2.1 181 j (by omega)⟩
    rcases h with ⟨x0, -, go, -⟩ | ⟨x0, j, hj, th⟩
    · rw [go.run (by omega) dep, bS, x0]
    · rw [th.run (by omega) (by omega) dep, bS]
theorem cal_need (v : Int32) : Cal (L_X10_need (some 0) v) (L_X11_need (some 181) v) := by
  intro N A B hN h
  rw [eqS_X10_need h.1, eqS_X11_need h.2.1]
  unfold S_X10_need S_X11_need
  rcases year_cases v with ⟨y, hy, rfl⟩ | hv
  · rw [yI_yes hy, iY_yes hy, bS, bS]; dsimp only
    rw [if_pos (ni_ne1 (by omega)), if_neg (show ¬ (1 : Int32) = 0 by decide), ny_sub]
    obtain ⟨x, A', B', e1, e2, -, m, e63, wa, wb, -⟩ := summon_mi (by omega) hy (sim_mi hN h) h.2.2.2.2.2.2.2.2.2.2.2.2.2.2
    rw [e1, e2, bS, bS]
    refine ⟨x, A', B', rfl, rfl, sim_back hN h m wa wb e63, fun a a1 a2 => wa.sm (by omega), ⟨wb.1, fun a ha => wb.sm (by omega)⟩, ?_, ?_⟩
    · rw [FrV.nc wa]; omega
    · have : ns A' = ns A := congrArg Prod.snd wa.1
      omega
  · rw [yI_no hv, iY_no hv, bS, bS]; dsimp only
    rw [if_neg (fun q => q rfl), if_pos rfl]
    exact ⟨_, A, B, rfl, rfl, sim_mono h, KRf.rf, KCl.rf, by omega, by omega⟩
