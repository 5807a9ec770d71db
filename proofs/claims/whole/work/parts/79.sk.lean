-- ===== issue =====
theorem cal_issue : Cal (L_X10_issue (some 0)) (L_X11_issue (some 181)) := by
  intro N A B hN h
  rw [eqS_X10_issue h.1, eqS_X11_issue h.2.1]
  obtain ⟨h1, h2, h3, h4, h5, h6, h7, h8, h9, h10, h11, h12, h13, h14, h15⟩ := h
  obtain ⟨e, he, e1, e2, e3⟩ := h9
  have h231 := h1.1
  obtain ⟨clo, hiT, sub⟩ := fi_clo (B := B) (t := gi A 18 2) h8.2
  unfold S_X10_issue S_X1_renew
  rw [touched_eq h6, bS, issue_eq h8, e1, e2, show ni e + 1 = ni (e + 1) from ni_add e 1]; dsimp only
  generalize fi B 30 (gi A 18 2) = T at *
  -- the class
  have s0 : ∀ a, a ≠ 18 → Sm a A (si A 18 3 (ni (e + 1))) := fun a ha => sm_si ha
  have f0 : FSC (si A 18 3 (ni (e + 1))) := h1.kg kg_si
  have v3 : gi (si A 18 3 (ni (e + 1))) 18 3 = ni (e + 1) := si_eq
  have k0 : KG A (si A 18 3 (ni (e + 1))) := kg_si
  have x18 : ∀ j, j ≠ 3 → gi (si A 18 3 (ni (e + 1))) 18 j = gi A 18 j := fun j hj => si_ff' hj
  generalize si A 18 3 (ni (e + 1)) = A0 at *
  obtain ⟨A1, a1, a2, a3, a4, a5, a6, a7⟩ := rn_lp (T := T) (j := 30) (y := 0) (F := FU) (v := 0) (A := A0) f0 (by omega) (by have : FU = 4000000 := rfl; omega) (by omega)
  have a1 : SJ_X1_renew_19 FU T 0 0 A0 = some (ni (0 + cr (fun x => bt T x && (gr A0 19 x).isSome) 30 0), A1) := a1
  -- the reference
  have t0 : ∀ a, a ≠ 181 → Sm a B (si B 181 59 (ni (e + 1))) := fun a ha => sm_si ha
  have w0 : FrW (fun p q => p = 181 ∧ q = 59) B (si B 181 59 (ni (e + 1))) := frw_si
  have v59 : gi (si B 181 59 (ni (e + 1))) 181 59 = ni (e + 1) := si_eq
  generalize si B 181 59 (ni (e + 1)) = B0 at *
  have h01 : ∀ x, x < 30 → gi B0 194 x = 0 ∨ gi B0 194 x = 1 := fun x hx => by
    rw [(t0 194 (by omega)).i]
    have g := h6 x hx
    cases hr : gr A 19 x with
    | none => rw [hr] at g; exact Or.inl g
    | some s => rw [hr] at g; exact Or.inr g.1
  obtain ⟨B1, b1, b2, b3, b4⟩ := is_lp (T := T) (j := 30) (y := 0) (F := FU) (v := 0) (B := B0) (by omega) (by have : FU = 4000000 := rfl; omega) (by omega) h01
  have b1 : SJ_X11_issue_103 FU T 0 0 B0 = some (ni (0 + cr (fun x => bt T x && decide (gi B0 194 x = 1)) 30 0), B1) := b1
  have ecr : cr (fun x => bt T x && (gr A0 19 x).isSome) 30 0 = cr (fun x => bt T x && decide (gi B0 194 x = 1)) 30 0 := by
    refine cr_cg fun x _ hx => ?_
    rw [(s0 19 (by omega)).r, (t0 194 (by omega)).i]
    have g := h6 x (by omega)
    cases hr : gr A 19 x with
    | none =>
      rw [hr] at g
      have g : gi B 194 x = 0 := g
      rw [g]; rfl
    | some s =>
      rw [hr] at g
      rw [g.1]; rfl
  rw [a1, bS, b1, ecr]; dsimp only
  -- cells
  have nmk : ∀ a, a < 21 ∨ 141 ≤ a → ¬ Mkc T 0 a := by
    rintro a ha ⟨x, _, q1, _, q2⟩; omega
  have cA : ∀ a, a < 18 ∨ a = 19 ∨ a = 20 ∨ 141 ≤ a → Sm a A A1 := fun a ha => (s0 a (by omega)).trans (a5 a (by omega) (nmk a (by omega)))
  have cU : ∀ x, x < 30 → bt T x = false → Sm (21 + 4 * x) A A1 ∧ Sm (22 + 4 * x) A A1 ∧ Sm (24 + 4 * x) A A1 := fun x hx hb => by
    have no : ∀ d, d = 21 ∨ d = 22 ∨ d = 24 → ¬ Mkc T 0 (d + 4 * x) := by
      rintro d hd ⟨x', _, q1, q2, q3⟩
      have : x' = x := by omega
      rw [this, hb] at q2; cases q2
    exact ⟨(s0 _ (by omega)).trans (a5 _ (by omega) (no 21 (by omega))), (s0 _ (by omega)).trans (a5 _ (by omega) (no 22 (by omega))), (s0 _ (by omega)).trans (a5 _ (by omega) (no 24 (by omega)))⟩
  have cV : ∀ x, x < 30 → Sm (23 + 4 * x) A A1 := fun x hx => (s0 _ (by omega)).trans (a5 _ (by omega) (by rintro ⟨x', _, q1, q2, q3⟩; omega))
  have cS : ∀ s, 231 ≤ s → KpS s A A1 := fun s hs a q1 q2 => cA a (by omega)
  have nA : nc A1 = nc A := a3.trans k0.nc
  have mkP : ∀ x, x < 30 → bt T x = true → MkP x (gr A 19 x) (ni (e + 1)) A1 := fun x hx hb => by
    have := a7 x (by omega) hx hb
    rw [(s0 19 (by omega)).r, v3] at this; exact this
  have nB : ∀ a i, a < 194 ∨ 216 < a → ¬ IsU T 0 a i := by
    rintro a i ha ⟨x, _, q1, q2 | ⟨_, q2⟩⟩
    · omega
    · unfold IsS Slt at q2; omega
  have cB : ∀ a, a ≠ 181 → a < 194 ∨ 216 < a → Sm a B B1 := fun a ha hb => (t0 a ha).trans (b2.1.sm (funext fun i => (b2.2 a i (nB a i hb)).1) (funext fun i => (b2.2 a i (nB a i hb)).2))
  have kgB : KG B B1 := w0.1.trans b2.1
  have b181 : ∀ j, j ≠ 59 → gi B1 181 j = gi B 181 j := fun j hj => (b2.2 181 j (nB 181 j (by omega))).1.trans (w0.2 181 j (by omega)).1
  have b59 : gi B1 181 59 = ni (e + 1) := (b2.2 181 59 (nB 181 59 (by omega))).1.trans v59
  have bS' : ∀ a i, 182 ≤ a → ¬ IsU T 0 a i → gi B1 a i = gi B a i ∧ gl B1 a i = gl B a i := fun a i ha hn => ⟨(b2.2 a i hn).1.trans (w0.2 a i (by omega)).1, (b2.2 a i hn).2.trans (w0.2 a i (by omega)).2⟩
  have rv0 : ∀ x, RvE (svR B x) (svR B0 x) := fun x => rve_fr w0 (fun a i z q => by unfold Slt at z; omega)
  have low : ∀ x a i, x < 30 → Slt x a i → ¬ IsU T 0 a i := fun x a i hx z => slt_no hx z
  have unt : ∀ x a i, x < 30 → bt T x = false → (Slt (30 + x) a i ∨ (212 ≤ a ∧ a ≤ 215 ∧ i = x) ∨ (a = 216 ∧ 72 * x ≤ i ∧ i < 72 * x + 72)) → ¬ IsU T 0 a i := by
    rintro x a i hx hb z ⟨x', _, q1, q2 | ⟨q0, q2⟩⟩
    · unfold Slt at z; omega
    · have : x' ≠ x := fun e => by rw [e, hb] at q0; cases q0
      unfold IsS at q2; unfold Slt at q2 z; omega
  -- sheets
  have shA : ∀ r x own, ShR A B r x own → ∀ B', ShR A B' r x own → ShR A1 B' r x own := fun r x own g B' g' => shr_cg g' (fun s hs => cS s (shr_ge g hs).1) (Nat.le_of_eq nA.symm) (fun _ _ _ => Sm.rf)
  have sh1 : ∀ x, x < 30 → ShR A1 B1 (gr A 19 x) x x := fun x hx => by
    refine shA _ _ _ (h6 x hx) _ (shr_rv (h6 x hx) (bS' 194 x (by omega) (low x 194 x hx (by unfold Slt; omega))).1 ⟨(bS' 203 x (by omega) (low x 203 x hx (by unfold Slt; omega))).1, (bS' 197 x (by omega) (low x 197 x hx (by unfold Slt; omega))).1, (bS' 200 x (by omega) (low x 200 x hx (by unfold Slt; omega))).1⟩ ((rv0 x).trans (rve_fr b2 (fun a i z => low x a i hx z))))
  have sh2 : ∀ x, x < 30 → ShR A1 B1 (gr A1 (21 + 4 * x) 0) (30 + x) x := fun x hx => by
    cases hb : bt T x
    · rw [(cU x hx hb).1.r]
      have no : ∀ a i, Slt (30 + x) a i → ¬ IsU T 0 a i := fun a i z => unt x a i hx hb (Or.inl z)
      exact shA _ _ _ (h7 x hx).1 _ (shr_rv (h7 x hx).1 (bS' 194 _ (by omega) (no 194 _ (by unfold Slt; omega))).1 ⟨(bS' 203 _ (by omega) (no 203 _ (by unfold Slt; omega))).1, (bS' 197 _ (by omega) (no 197 _ (by unfold Slt; omega))).1, (bS' 200 _ (by omega) (no 200 _ (by unfold Slt; omega))).1⟩ ((rv0 _).trans (rve_fr b2 no)))
    · rw [(mkP x hx hb).1]
      obtain ⟨p1, p2, p3, p4, p5, p6, p7⟩ := b4 x (by omega) hx hb
      have g := h6 x hx
      cases hr : gr A 19 x with
      | none =>
        rw [hr] at g
        have g : gi B 194 x = 0 := g
        show gi B1 194 (30 + x) = 0
        rw [p6, (t0 194 (by omega)).i]; exact g
      | some s =>
        rw [hr] at g
        have g1 : gi B0 194 x = 1 := by rw [(t0 194 (by omega)).i]; exact g.1
        obtain ⟨p8, p9⟩ := p7 g1
        have g' : ShR A B1 (some s) (30 + x) x := shr_rv g (by rw [p6, (t0 194 (by omega)).i]) ⟨by rw [p8.1, (t0 203 (by omega)).i], by rw [p8.2.1, (t0 197 (by omega)).i], by rw [p8.2.2, (t0 200 (by omega)).i]⟩ ((rv0 x).trans p9)
        exact shr_cg g' (fun s' hs' => by cases hs'; exact cS s (shr_ge g rfl).1) (Nat.le_of_eq nA.symm) (fun _ _ _ => Sm.rf)
  have clo1 : ClO A1 := clo_of a2 sh2
  -- years that are not touched
  have lean : ∀ x s, x < 30 → bt T x = false → gr A 19 x = some s → ∀ u, u < 30 → bt (gi A s 1) u = true → bt T u = false := fun x s hx hb hs u hu hl => by
    have g := h6 x hx
    rw [hs] at g
    have el : gi A s 1 = gi B 196 x := g.2.2.1.1.2
    cases hc : bt T u
    · rfl
    · have := clo x hx (by rw [g.1]; decide) (and_ne0.mpr ⟨u, by omega, by rw [← el]; exact hl, hc⟩)
      rw [hb] at this; cases this
  have same : ∀ x, x < 30 → bt T x = false → gr A (21 + 4 * x) 0 = gr A 19 x := fun x hx hb => (h8.1 x hx).2 (by
    cases hc : bt (gi A 18 2) x
    · rfl
    · rw [sub x hc] at hb; cases hb)
  have un : UnT (fun x => x < 30 ∧ bt T x = false) A A1 := by
    rintro x ⟨hx, hb⟩
    refine ⟨hx, by rw [(cU x hx hb).1.r], fun s hs => ?_⟩
    rw [same x hx hb] at hs
    have g := h6 x hx
    rw [hs] at g
    have le := lean x s hx hb hs
    obtain ⟨g1, g2, g3, -⟩ := g
    obtain ⟨⟨t1, t2⟩, t3, ⟨t4, t5, t6⟩, ⟨t7, t8, t9⟩, t10, t11, t12, c0, c1, t13, t14, t15, t16⟩ := g3
    refine ⟨cS s g2.1, ?_, t12, fun k hk => ?_⟩
    · rcases t13 with t13 | ⟨u, u1, u2, u3, u4, -⟩
      · left
        have : gi A s 0 = -1 := t13.1
        rw [this]; decide
      · right
        have : gi A s 0 = ni u := u4
        rw [this, show tn (ni u) = u from ni_tn (by omega)]
        exact ⟨u1, le u u1 u3⟩
    · obtain ⟨-, c, r, n, f1, f2, f3, f4, f5, f6, f7⟩ := t6 k hk
      refine ⟨c, n, f1, f6, f4, fun pc p1 p2 => ?_⟩
      obtain ⟨q1, q2⟩ := e2_lean f3 pc p1 p2
      refine ⟨q1, fun z => ?_⟩
      obtain ⟨Y, nm, y1, y2, y3, y4⟩ := q2 z
      refine ⟨Y, nm, y1, y2, y3, y1, ?_⟩
      by_cases eY : Y = x
      · rw [eY]; exact hb
      · exact le Y y1 (y4 eY)
  have si0 : SI0 A1 := by
    refine ⟨clo1, fun y s hy hs k hk => ?_, fun q hq => ?_⟩
    · cases hb : bt T y
      · rw [(cU y hy hb).2.1.i, (cV y hy).j]
        rw [(cU y hy hb).1.r] at hs
        rw [((un y ⟨hy, hb⟩).2.2 s hs).1 (s + 3) (by omega) (by omega) |>.l] at hk
        rcases h10 y s hy hs k hk with ⟨m, i, hi⟩ | ⟨m, hi⟩
        · exact ⟨fun _ => ⟨i, by rw [un.vl i y k ⟨hy, hb⟩]; exact hi⟩, fun q => by rw [m] at q; exact absurd q (by decide)⟩
        · exact ⟨fun q => by rw [m] at q; exact absurd q (by decide), fun _ i => by rw [un.vl i y k ⟨hy, hb⟩]; exact hi i⟩
      · have k8 : k < 8 := by have := (clo1.2 y hy s hs).2.2.1.2.1; omega
        rw [(mkP y hy hb).2.2.2.2.2.1 k k8]
        exact ⟨fun q => absurd q (by decide), fun q => absurd q (by decide)⟩
    · have q8 := isC8 clo1 hq
      obtain ⟨q30, s, hs, hk⟩ := hq
      unfold mkA
      cases hb : bt T q.1
      · rw [(cU q.1 q30 hb).2.1.i]
        rw [(cU q.1 q30 hb).1.r] at hs
        rw [((un q.1 ⟨q30, hb⟩).2.2 s hs).1 (s + 3) (by omega) (by omega) |>.l] at hk
        rcases h10 q.1 s q30 hs q.2 hk with ⟨m, _⟩ | ⟨m, _⟩
        · exact Or.inr (Or.inl m)
        · exact Or.inr (Or.inr m)
      · exact Or.inl ((mkP q.1 q30 hb).2.2.2.2.2.1 q.2 q8)
  obtain ⟨A2, z1, z2, z3⟩ := settleAll_ok si0
  rw [z1, bS]; dsimp only
  have kp := z2.kp clo1
  have cF : ∀ a, a ≠ 141 → a ≠ 142 → a ≠ 143 → (∀ y, y < 30 → a ≠ 22 + 4 * y ∧ a ≠ 23 + 4 * y) → Sm a A1 A2 := fun a q1 q2 q3 q4 => z2.1.sm (z2.2.1 a q1 q2 (fun y hy => (q4 y hy).1)) (z2.2.2.1 a q3 (fun y hy => (q4 y hy).2))
  have cA2 : ∀ a, a < 18 ∨ a = 19 ∨ a = 20 ∨ 144 ≤ a → Sm a A A2 := fun a ha => (cA a (by omega)).trans (cF a (by omega) (by omega) (by omega) (fun y hy => by omega))
  have c18 : Sm 18 A1 A2 := cF 18 (by omega) (by omega) (by omega) (fun y hy => by omega)
  have cT : ∀ x, x < 30 → Sm (21 + 4 * x) A1 A2 ∧ Sm (24 + 4 * x) A1 A2 := fun x hx => ⟨cF _ (by omega) (by omega) (by omega) (fun y hy => by omega), cF _ (by omega) (by omega) (by omega) (fun y hy => by omega)⟩
  have nA2 : nc A2 = nc A := z2.1.nc.trans nA
  have g19 : gr A2 19 = gr A 19 := (cA2 19 (by omega)).r
  have tgr : ∀ x, x < 30 → gr A2 (21 + 4 * x) 0 = gr A 19 x := fun x hx => by
    rw [(cT x hx).1.r]
    cases hb : bt T x
    · rw [(cU x hx hb).1.r]; exact same x hx hb
    · exact (mkP x hx hb).1
  refine ⟨_, A2, B1, rfl, rfl, ⟨a2.kg z2.1, h2.kg kgB, ?_, ?_, ?_, ?_, ?_, ?_, ?_, z3, ?_, ?_, ?_, ?_, ?_⟩, fun a q1 q2 => cA2 a (by omega), ⟨kgB.1, fun a ha => cB a (by omega) (by omega)⟩, by omega, ?_⟩
  · unfold SmTp at h3 ⊢; rw [(cA2 1 (by omega)).i, (cA2 2 (by omega)).i, b181 1 (by omega), (cB 182 (by omega) (by omega)).i]; exact h3
  · unfold SmWd at h4 ⊢; rw [(cA2 6 (by omega)).j, (cB 183 (by omega) (by omega)).j]; exact h4
  · unfold SmFt at h5 ⊢; rw [(cA2 7 (by omega)).i, b181 2 (by omega), b181 3 (by omega)]; exact h5
  · intro x hx
    rw [g19]
    exact shr_cg (sh1 x hx) (fun s hs a q1 q2 => cF a (by have := (shr_ge (h6 x hx) hs).1; omega) (by have := (shr_ge (h6 x hx) hs).1; omega) (by have := (shr_ge (h6 x hx) hs).1; omega) (fun y hy => by have := (shr_ge (h6 x hx) hs).1; omega)) (Nat.le_of_eq z2.1.nc.symm) (fun _ _ _ => Sm.rf)
  · intro x hx
    rw [(cT x hx).1.r, (cT x hx).1.i, (cT x hx).2.j]
    refine ⟨shr_cg (sh2 x hx) (fun s hs => kp.2 x s hx hs) (Nat.le_of_eq z2.1.nc.symm) (fun _ _ _ => Sm.rf), ?_⟩
    cases hb : bt T x
    · rw [(cU x hx hb).1.r, (cU x hx hb).1.i, (cU x hx hb).2.2.j]
      obtain ⟨-, c2, c3, c4⟩ := h7 x hx
      have q : ∀ a, 212 ≤ a → a ≤ 215 → gi B1 a x = gi B a x := fun a q1 q2 => (bS' a x (by omega) (unt x a x hx hb (Or.inr (Or.inl ⟨q1, q2, rfl⟩)))).1
      rw [q 212 (by omega) (by omega), q 213 (by omega) (by omega), q 214 (by omega) (by omega), q 215 (by omega) (by omega)]
      exact ⟨c2, fun k hk => by rw [(bS' 216 _ (by omega) (unt x 216 _ hx hb (Or.inr (Or.inr ⟨rfl, by omega, by omega⟩)))).2]; exact c3 k hk, c4⟩
    · obtain ⟨p1, p2, p3, p4, p5, p6, -⟩ := b4 x (by omega) hx hb
      obtain ⟨m1, m2, m3, m4, m5, m6, m7⟩ := mkP x hx hb
      rw [m1, m2, m3, m4, m5, p1, p2, p3, p4, (t0 194 (by omega)).i, v59]
      have g := h6 x hx
      refine ⟨?_, fun k hk => (m7 k hk).trans (p5 k hk).symm, ?_⟩
      · cases hr : gr A 19 x with
        | none =>
          rw [hr] at g
          have g : gi B 194 x = 0 := g
          rw [g, if_pos rfl, if_pos rfl, if_pos rfl]; exact ⟨rfl, rfl, rfl, rfl⟩
        | some s =>
          rw [hr] at g
          rw [g.1, if_neg (by simp), if_neg (by simp), if_neg (show ¬ (1 : Int32) = 0 by decide)]; exact ⟨rfl, rfl, rfl, rfl⟩
      · intro hr
        cases hr' : gr A 19 x with
        | none => exact absurd hr' hr
        | some s => rw [hr'] at g; exact Or.inl ⟨g.1, rfl⟩
  · have z : gi A2 18 2 = 0 := by rw [c18.i]; exact a6.1
    refine ⟨fun x hx => ?_, fun x x1 x2 => by rw [z, bt_0]⟩
    rw [z, bt_0, b3 x (by omega) hx, tgr x hx, g19]
    exact ⟨rfl, fun _ => rfl⟩
  · refine ⟨e + 1, by omega, ?_, b59, ?_⟩
    · rw [c18.i, a6.2.1 3 (by omega)]; exact v3
    · rw [b181 64 (by omega)]
      rcases e3 with e3 | ⟨f, f1, f2⟩
      · exact Or.inl e3
      · exact Or.inr ⟨f, by omega, f2⟩
  · intro q
    rw [b59, b181 64 (by omega)] at q
    rcases e3 with e3 | ⟨f, f1, f2⟩
    · rw [e3] at q; exact absurd q (m1_ne (by omega))
    · rw [f2] at q
      have := (ni_inj (by omega) (by omega)).mp q
      omega
  · exact smSt_mono h12 (congrFun (cA2 144 (by omega)).i 8) (cA2 179 (by omega)).i (b181 66 (by omega)) (cB 220 (by omega) (by omega)).i
  · obtain ⟨n, p0, p1, p2, p3, p4, p5, p6⟩ := h13
    have g180 : gr A2 180 = gr A 180 := (cA2 180 (by omega)).r
    refine ⟨n, p0, ?_, ?_, fun v hv => ?_, ?_, ?_, ?_⟩
    · rw [(cA2 0 (by omega)).i]; exact p1
    · rw [b181 73 (by omega)]; exact p2
    · obtain ⟨q, hq, hq2⟩ := p3 v hv
      exact ⟨q, by rw [g180]; exact hq, vyR_cg hq2 (by omega) (fun a q1 q2 => cA2 a (by have := hq2.1.1; omega)) (fun a q1 q2 => cB a (by omega) (by omega))⟩
    · rw [g180]; exact p4
    · rw [g180, g19]
      rintro v q s hv hq ⟨x, hx, hs⟩
      rw [tgr x hx] at hs
      exact p5 v q s hv hq ⟨x, hx, Or.inl (by rcases hs with hs | hs <;> exact hs)⟩
    · rw [(cB 224 (by omega) (by omega)).i]; exact p6
  · unfold SmBk at h14 ⊢; rw [(cA2 0 (by omega)).i, b181 83 (by omega), b181 84 (by omega)]; exact h14
  · rw [b181 63 (by omega)]; exact h15
  · rw [z2.1.ns, a4, k0.ns]; omega
