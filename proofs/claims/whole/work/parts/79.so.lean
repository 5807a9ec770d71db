theorem wc_44 {A : Mem} {sp : Nat} (hsp : sp ≤ 2000) : ∀ {u F : Nat} {B : Mem}, unk B < u → u < F → SlR A B → KI A B → gi B 181 63 = ni sp → ∃ B', SJ_X11_worksConstants_44 F 1 B = some ((), B') ∧ FrK sp B B' ∧ KI A B' ∧ Cpl A B' 0 := by
  intro u
  induction u with
  | zero => intro F B h; omega
  | succ u ih =>
    intro F B hu hF hS hK h63
    obtain ⟨F, rfl⟩ : ∃ g, F = g + 1 + 1 := ⟨F - 2, by omega⟩
    rw [SJ_X11_worksConstants_44]; dsimp only
    rw [if_neg (by decide)]
    obtain ⟨B1, v', g1, g2, g3, g4, g5, g6, g7⟩ := wc_52 (k44 := SJ_X11_worksConstants_44 (F + 1)) hsp (j := 240) (c := 0) (F := FU) (v := 0) (by omega) (by have : FU = 4000000 := rfl; omega) hS hK h63 (Or.inl rfl)
    have g1 : SJ_X11_worksConstants_52 (SJ_X11_worksConstants_44 (F + 1)) FU 0 0 B = SJ_X11_worksConstants_44 (F + 1) v' B1 := g1
    rw [g1]
    rcases g4 with rfl | rfl
    · obtain ⟨-, e2, e3, e4⟩ := g5 rfl
      rw [SJ_X11_worksConstants_44]; dsimp only
      rw [if_pos rfl]
      refine ⟨B1, rfl, g2, g3, fun q hq hc h0 => ?_⟩
      rw [kn_cg e2 e3]; exact e4 q hq hc (by rw [← e2]; exact h0)
    · rcases g6 rfl with e | e
      · exact absurd e (by decide)
      · obtain ⟨B2, c1, c2, c3, c4⟩ := ih (F := F + 1) (B := B1) (by omega) (by omega) (g2.slr hS) g3 ((g2.2 181 63 (by omega)).1.trans h63)
        exact ⟨B2, c1, g2.trans c2, c3, c4⟩
theorem wc_22 : ∀ {j c F : Nat} {B : Mem}, c + j = 240 → j < F → ∃ B', SJ_X11_worksConstants_22 F (ni c) B = SJ_X11_worksConstants_44 FU 1 B' ∧ FrW (fun a i => a = 217) B B' ∧ (∀ i, c ≤ i → i < 240 → gi B' 217 i = 0) ∧ ∀ i, i < c → gi B' 217 i = gi B 217 i := by
  intro j
  induction j with
  | zero =>
    intro c F B hc hF
    obtain ⟨F, rfl⟩ : ∃ g, F = g + 1 := ⟨F - 1, by omega⟩
    rw [SJ_X11_worksConstants_22]; dsimp only
    rw [if_pos (show (240 : Int32) ≤ ni c from (ni_le (a := 240) (by omega) (by omega)).mpr (by omega))]
    exact ⟨B, rfl, FrW.rf, fun i h1 h2 => by omega, fun _ _ => rfl⟩
  | succ j ih =>
    intro c F B hc hF
    obtain ⟨F, rfl⟩ : ∃ g, F = g + 1 := ⟨F - 1, by omega⟩
    rw [SJ_X11_worksConstants_22]; dsimp only
    rw [if_neg (show ¬ (240 : Int32) ≤ ni c from fun e => by have := (ni_le (a := 240) (by omega) (by omega)).mp e; omega), gdT ((ni_inb (by omega)).mpr (by omega)), ni_tn (by omega), nar0, show ni c + 1 = ni (c + 1) from ni_add c 1]
    obtain ⟨B', g1, g2, g3, g4⟩ := ih (c := c + 1) (F := F) (B := si B 217 c 0) (by omega) (by omega)
    refine ⟨B', g1, FrW.tr frw_si g2 (fun a i u => by omega), fun i h1 h2 => ?_, fun i hi => (g4 i (by omega)).trans (si_ff' (by omega))⟩
    by_cases e : i = c
    · subst e; rw [g4 i (by omega), si_eq]
    · exact g3 i (by omega) h2
def FrWc (sp : Nat) (B B' : Mem) : Prop := FrW (fun a i => (a = 181 ∧ i = 64) ∨ a = 217 ∨ a = 218 ∨ (a = 219 ∧ sp ≤ i)) B B'
theorem wc_ok {A B : Mem} {sp : Nat} (hS : SlR A B) (cA : CnA A) (cB : CnB A B) (h63 : gi B 181 63 = ni sp) (hsp : sp ≤ 2000) : ∃ B', S_X11_worksConstants B = some ((), B') ∧ FrWc sp B B' ∧ gi B' 181 64 = gi B' 181 59 ∧ CnB A B' := by
  unfold S_X11_worksConstants
  by_cases e : gi B 181 64 = gi B 181 59
  · rw [if_neg (fun q => q e)]
    exact ⟨B, rfl, FrW.rf, e, cB⟩
  · rw [if_pos e]
    have w0 : FrW (fun p q => p = 181 ∧ q = 64) B (si B 181 64 (gi B 181 59)) := frw_si
    have e64 : gi (si B 181 64 (gi B 181 59)) 181 64 = gi B 181 59 := si_eq
    generalize si B 181 64 (gi B 181 59) = B0 at *
    obtain ⟨B1, a1, a2, a3, a4⟩ := wc_22 (j := 240) (c := 0) (F := FU) (B := B0) (by omega) (by have : FU = 4000000 := rfl; omega)
    have a1 : SJ_X11_worksConstants_22 FU 0 B0 = SJ_X11_worksConstants_44 FU 1 B1 := a1
    have f1 : FrW (fun a i => (a = 181 ∧ i = 64) ∨ a = 217) B B1 := FrW.tr w0 a2 (fun a i u => by omega)
    have hS1 : SlR A B1 := fun y hy => shr_cg (hS y hy) (fun _ _ _ _ _ => Sm.rf) (Nat.le_refl _) (fun a a1 a2 => f1.1.sm (funext fun i => (f1.2 a i (by omega)).1) (funext fun i => (f1.2 a i (by omega)).2))
    have k1 : KI A B1 := fun q hq => by
      have q8 := slr_8 hS hq
      have q30 := hq.1
      rw [a3 _ (by omega) (by omega)]
      exact ⟨Or.inl rfl, fun z => absurd rfl z⟩
    have u240 : unk B1 ≤ 240 := by unfold unk; exact cnt_le
    obtain ⟨B2, b1, b2, b3, b4⟩ := wc_44 hsp (u := 300) (F := FU) (B := B1) (by omega) (by have : FU = 4000000 := rfl; omega) hS1 k1 ((f1.2 181 63 (by omega)).1.trans h63)
    rw [a1, b1]
    have h59 : gi B2 181 59 = gi B 181 59 := (b2.2 181 59 (by omega)).1.trans (f1.2 181 59 (by omega)).1
    have h64 : gi B2 181 64 = gi B 181 59 := ((b2.2 181 64 (by omega)).1.trans (a2.2 181 64 (by omega)).1).trans e64
    refine ⟨B2, rfl, FrW.tr f1 b2 (fun a i u => by omega), h64.trans h59.symm, fun _ y s hy hs k hk => ?_⟩
    -- all that has a value is known
    have cpl : ∀ i, ∀ q, isC A q → ∀ v, vlC A i q.1 q.2 = some v → ¬ gi B2 217 (8 * q.1 + q.2) = 0 := by
      intro i
      induction i with
      | zero => intro q _ v hv; cases hv
      | succ i ih =>
        intro q hq v hv h0
        rw [vl_s] at hv
        have := evC_im (g := kn B2) (fun p hp u hu => by
          have z := ih p hp u hu
          unfold kn
          rw [if_neg z]
          obtain ⟨i', hi'⟩ := (b3 p hp).2 z
          rw [vl_uq hi' hu]) hv
        rw [b4 q hq (by omega) h0] at this; cases this
    have hq : isC A (y, k) := ⟨hy, s, hs, hk⟩
    obtain ⟨p1, p2⟩ := b3 (y, k) hq
    rcases cA y s hy hs k hk with ⟨m, i, hi⟩ | ⟨m, hi⟩
    · left
      have z := cpl i (y, k) hq _ hi
      have p2 := p2 z
      obtain ⟨i', hi'⟩ := p2
      refine ⟨m, ?_, vl_uq hi' hi⟩
      rcases p1 with p1 | p1
      · exact absurd p1 z
      · exact p1
    · right
      refine ⟨m, Classical.byContradiction fun z => ?_⟩
      obtain ⟨i', hi'⟩ := p2 z
      have := hi i'
      rw [this] at hi'; cases hi'
theorem FrWc.sm {sp : Nat} {B B' : Mem} (f : FrWc sp B B') {a : Nat} (h : a < 181 ∨ (181 < a ∧ a < 217) ∨ 219 < a) : Sm a B B' := f.1.sm (funext fun i => (f.2 a i (by omega)).1) (funext fun i => (f.2 a i (by omega)).2)
/-- the reference's consts are worked: the relation at rest stays -/
theorem sim_wc {N : Nat} {A B B' : Mem} (h : Sim N A B) (f : FrWc 0 B B') (e : gi B' 181 64 = gi B' 181 59) (c : CnB A B') : Sim N A B' := by
  obtain ⟨h1, h2, h3, h4, h5, h6, h7, h8, h9, h10, h11, h12, h13, h14, h15⟩ := h
  have b181 : ∀ j, j ≠ 64 → gi B' 181 j = gi B 181 j := fun j hj => (f.2 181 j (by omega)).1
  have kH : KpH A A := ⟨fun y hy => rfl, fun y s hy hs a ha hb => Sm.rf⟩
  have kT : KpT A A := ⟨fun y hy => rfl, fun y s hy hs a ha hb => Sm.rf⟩
  have kR : KpR B B' := fun a h1 h2 => f.sm (by omega)
  refine ⟨h1, h2.kg f.1, ?_, ?_, ?_, smSh_cg h6 kH (Nat.le_refl _) kR, smCl_cg h7 kT (Nat.le_refl _) kR (fun y hy => rfl) (fun y hy => rfl) (f.sm (by omega)).i (f.sm (by omega)).i (f.sm (by omega)).i (f.sm (by omega)).i (f.sm (by omega)).j, smCh_cg h8 kH.1 kT.1 rfl (f.sm (by omega)).i, ?_, h10, c, ?_, smVy_cg h13 (Nat.le_refl _) ⟨rfl, rfl, fun v q _ h1 _ a h2 _ => Sm.rf⟩ kH.1 kT.1 (b181 73 (by omega)) (fun a h1 h2 => f.sm (by omega)), ?_, by rw [b181 63 (by omega)]; exact h15⟩
  · unfold SmTp at h3 ⊢; rw [b181 1 (by omega), (f.sm (a := 182) (by omega)).i]; exact h3
  · unfold SmWd at h4 ⊢; rw [(f.sm (a := 183) (by omega)).j]; exact h4
  · unfold SmFt at h5 ⊢; rw [b181 2 (by omega), b181 3 (by omega)]; exact h5
  · obtain ⟨e0, he, q1, q2, q3⟩ := h9
    refine ⟨e0, he, q1, by rw [b181 59 (by omega)]; exact q2, Or.inr ⟨e0, Nat.le_refl _, ?_⟩⟩
    rw [e, b181 59 (by omega)]; exact q2
  · unfold SmSt at h12 ⊢; rw [b181 66 (by omega), (f.sm (a := 220) (by omega)).i]; exact h12
  · unfold SmBk at h14 ⊢; rw [b181 83 (by omega), b181 84 (by omega)]; exact h14
theorem FrWc.kcl {sp : Nat} {B B' : Mem} (f : FrWc sp B B') : KCl B B' := ⟨f.1.1, fun a ha => f.sm (by omega)⟩
theorem cal_constant (v u : Int32) : Cal (L_X10_constant (some 0) v u) (L_X11_constant (some 181) v u) := by
  intro N A B hN h
  rw [eqS_X10_constant h.1, eqS_X11_constant h.2.1]
  unfold S_X10_constant S_X11_constant
  have keep : ∀ x : Int64, ∃ v A' B', some (x, A) = some (v, A') ∧ some (x, B) = some (v, B') ∧ Sim (N + 1) A' B' ∧ KRf A A' ∧ KCl B B' ∧ nc A' ≤ nc A + 10 ∧ ns A' ≤ ns A + 2300 := fun x => ⟨x, A, B, rfl, rfl, sim_mono h, KRf.rf, KCl.rf, by omega, by omega⟩
  rcases year_cases v with ⟨y, hy, rfl⟩ | hv
  · rw [yI_yes hy, iY_yes hy, bS, bS]; dsimp only
    rw [if_pos (ni_ne1 (by omega)), if_neg (show ¬ (1 : Int32) = 0 by decide), ny_sub30, ny_sub, gdT ((ni_inb (by omega)).mpr hy), gdT ((ni_inb (by omega)).mpr (by omega)), gdT ((ni_inb (by omega)).mpr (by omega)), ni_tn (a := y) (by omega), ni_tn (a := 30 + y) (by omega)]
    have g := (h.2.2.2.2.2.2.1 y hy).1
    unfold S_X8_valueOf
    cases hs : gr A (21 + 4 * y) 0 with
    | none =>
      rw [hs] at g
      have g : gi B 194 (30 + y) = 0 := g
      rw [if_pos rfl, bS, g, if_pos rfl]
      exact keep _
    | some s =>
      rw [hs] at g
      obtain ⟨g1, g2, g3, g4, ⟨n', n1, n2⟩, g6⟩ := g
      have en : ln A (s + 3) = n' := by
        have : ln A (s + 3) = tn (gi B 197 (30 + y)) := g3.2.2.1.1
        rw [n1] at this
        exact this.trans (ni_tn (by omega))
      obtain ⟨o1, o2, o3, o4, o5, o6⟩ := g2
      rw [if_neg (by simp), g1, if_neg (show ¬ (1 : Int32) = 0 by decide), n1, bi_fR o3 o4.2.2.1, bi_aN o5.2.2.1 (by omega) (by omega) en]
      rcases in_cases u (n := n') (by omega) with ⟨k, hk, rfl⟩ | hu
      · rw [iI_yes hk (by omega), bS]; dsimp only
        rw [if_neg (ni_n0 (by omega)), if_neg (show ¬ Int32.ofNat n' ≤ ni k from fun e => by have := (ni_le (a := n') (by omega) (by omega)).mp e; omega), gdT ((ni_inb (by omega)).mpr (by omega)), gdT ((ni_inb (by omega)).mpr (by omega)), ni_tn (a := k) (by omega), if_pos (show ¬ (1 : Int32) = 0 by decide)]
        have hS : SlR A B := fun x hx => (h.2.2.2.2.2.2.1 x hx).1
        obtain ⟨B1, w1, w2, w3, w4⟩ := wc_ok hS h.2.2.2.2.2.2.2.2.2.1 h.2.2.2.2.2.2.2.2.2.2.1 (sp := 0) h.2.2.2.2.2.2.2.2.2.2.2.2.2.2 (by omega)
        rw [w1, bS]; dsimp only
        rw [show (8 : Int32) * ni y + ni k = ni (8 * y + k) by rw [show (8 : Int32) = ni 8 from rfl, ni_mul, ni_add], gdT ((ni_inb (by omega)).mpr (by omega)), gdT ((ni_inb (by omega)).mpr (by omega)), ni_tn (a := 8 * y + k) (by omega)]
        have sim := sim_mono (sim_wc h w2 w3 w4)
        rcases w4 w3 y s hy hs k (by omega) with ⟨m, m1, m2⟩ | ⟨m, m1⟩
        · rw [m, if_pos rfl, bS, m1, if_neg (show ¬ (1 : Int32) = 0 by decide), m2]
          exact ⟨_, A, B1, rfl, rfl, sim, KRf.rf, w2.kcl, by omega, by omega⟩
        · rw [m, if_neg (by decide), bS, m1, if_pos rfl]
          exact ⟨_, A, B1, rfl, rfl, sim, KRf.rf, w2.kcl, by omega, by omega⟩
      · rw [iI_no (by omega) hu, bS]; dsimp only
        rw [if_neg (show ¬ ¬ (0 : Int32) = 0 by decide)]
        have ex : (if u < 0 then some ((-2000000000000000 : Int64), A) else if Int32.ofNat n' ≤ u then some ((-2000000000000000 : Int64), A) else gd (inb u 8) (if gi A (22 + 4 * y) u.toNatClampNeg = 2 then gd (inb u 8) (some (gl A (23 + 4 * y) u.toNatClampNeg, A)) else some ((-2000000000000000 : Int64), A))) = some ((-2000000000000000 : Int64), A) := by
          by_cases u0 : u < 0
          · rw [if_pos u0]
          · rw [if_neg u0]
            rcases hu with hu | hu
            · exact absurd hu u0
            · rw [if_pos (show Int32.ofNat n' ≤ u from hu)]
        rw [ex, bS]
        exact keep _
  · rw [yI_no hv, iY_no hv, bS, bS]; dsimp only
    rw [if_neg (fun q => q rfl), if_pos rfl]
    exact keep _
