-- ===== a bill, in both =====
theorem WQ.sm {q : Nat} {A A' : Mem} (g : WQ q A A') {a : Nat} (h : a < 21 ∨ (a < 141 ∧ (a % 4 = 2 ∨ a % 4 = 3)) ∨ (141 ≤ a ∧ a < 144) ∨ a = 145 ∨ 180 ≤ a) (h1 : a ≠ q) (h2 : a ≠ q + 4) : Sm a A A' := FrV.sm g (fun j z => by omega) (fun j z => by omega) (fun j z => by omega)
theorem WP.sm {v : Nat} {B B' : Mem} (g : WP v B B') {a : Nat} (h : a < 181 ∨ (181 < a ∧ a < 212) ∨ a = 213 ∨ (221 < a ∧ a < 228) ∨ 230 < a) : Sm a B B' := FrV.sm g (fun j z => z) (fun j z => by omega) (fun j z => by omega)
theorem sim_vb {N q v n : Nat} {A A' B B' : Mem} (hN : N < 600) (h : Sim N A B) (m : Mi (30 * N + 30) A' B') (g : WQ q A A') (k : WP v B B') (e63 : gi B' 181 63 = 0) (n20 : n ≤ 20) (e6 : gi A 0 6 = ni n) (hv : v < n) (hq : gr A 180 v = some q) (q1 : 231 ≤ q) (hV : VyR A' B' q v) : Sim (N + 1) A' B' := by
  obtain ⟨h1, h2, h3, h4, h5, h6, h7, h8, h9, h10, h11, h12, ⟨n', p0, p1, p2, p3, p4, p5, p6⟩, h14, h15⟩ := h
  have en : n' = n := (ni_inj (by omega) (by omega)).mp (p1.symm.trans e6)
  subst en
  have hnc : nc A ≤ nc A' := Nat.le_of_eq (FrV.nc g).symm
  have g19 : ∀ y, gr A' 19 y = gr A 19 y := fun y => g.2.2.1 19 y (by omega)
  have g0 : ∀ y, y < 30 → gr A' (21 + 4 * y) 0 = gr A (21 + 4 * y) 0 := fun y hy => g.2.2.1 (21 + 4 * y) 0 (by omega)
  have kH : KpH A A' := ⟨fun y hy => g19 y, fun y s hy hs a ha hb => by
    have := shr_ge (h6 y hy) hs
    have := p5 v q s hv hq ⟨y, hy, Or.inl hs⟩
    exact g.sm (by omega) (by omega) (by omega)⟩
  have kT : KpT A A' := ⟨g0, fun y s hy hs a ha hb => by
    have := shr_ge (h7 y hy).1 hs
    have := p5 v q s hv hq ⟨y, hy, Or.inr hs⟩
    exact g.sm (by omega) (by omega) (by omega)⟩
  have kR : KpR B B' := fun a a1 a2 => k.sm (by omega)
  have b181 : ∀ j, j < 63 ∨ j = 65 ∨ 70 < j → gi B' 181 j = gi B 181 j := fun j hj => k.2.2.2.1 181 j (by omega)
  have sA : ∀ a, a < 19 → Sm a A A' := fun a ha => g.sm (by omega) (by omega) (by omega)
  have r180 : ∀ w, gr A' 180 w = gr A 180 w := fun w => g.2.2.1 180 w (by omega)
  refine ⟨m.1, m.2.1.1, ?_, ?_, ?_, smSh_cg h6 kH hnc kR, fun y hy => ?_, smCh_cg h8 kH.1 kT.1 (by rw [(sA 18 (by omega)).i]) (k.sm (a := 211) (by omega)).i, ?_, m.2.2.2.1, m.2.2.2.2.1, ?_, ?_, ?_, e63⟩
  · unfold SmTp at h3 ⊢; rw [(sA 1 (by omega)).i, (sA 2 (by omega)).i, b181 1 (by omega), (k.sm (a := 182) (by omega)).i]; exact h3
  · unfold SmWd at h4 ⊢; rw [(sA 6 (by omega)).j, (k.sm (a := 183) (by omega)).j]; exact h4
  · unfold SmFt at h5 ⊢; rw [(sA 7 (by omega)).i, b181 2 (by omega), b181 3 (by omega)]; exact h5
  · obtain ⟨⟨d1, d2, d3⟩, d4, d5⟩ := m.2.2.2.2.2.1 y hy
    refine ⟨m.2.2.1 y hy, ⟨d1, ?_, d2, d3⟩, d4, d5⟩
    rw [g.2.2.2.1 (21 + 4 * y) 2 (by omega), (k.sm (a := 213) (by omega)).i]; exact (h7 y hy).2.1.2.1
  · obtain ⟨e, e1, e2, e3, e4⟩ := h9
    obtain ⟨e', x1, x2, x3⟩ := m.2.1.2
    have ee : e' = e := (ni_inj (by omega) (by omega)).mp (x2.symm.trans ((b181 59 (by omega)).trans e3))
    subst ee
    exact ⟨e', by omega, by rw [(sA 18 (by omega)).i]; exact e2, x2, x3⟩
  · obtain ⟨n, n1, n2, n3, n4⟩ := m.2.2.2.2.2.2
    exact ⟨n, by omega, n2, n3, n4⟩
  · refine ⟨n', p0, by rw [(sA 0 (by omega)).i]; exact p1, by rw [b181 73 (by omega)]; exact p2, fun w hw => ?_, ?_, ?_, ?_⟩
    · by_cases e : w = v
      · subst e; exact ⟨q, by rw [r180]; exact hq, hV⟩
      · obtain ⟨p, hp, hv1⟩ := p3 w hw
        have ap : p + 5 ≤ q ∨ q + 5 ≤ p := by
          rcases (show w < v ∨ v < w by omega) with z | z
          · exact Or.inl (p4 w v p q z hv hp hq)
          · exact Or.inr (p4 v w q p z hw hq hp)
        have p1 := hv1.1.1
        have hv2 := vyR_cg (A' := A') (B' := B) hv1 hnc (fun a a1 a2 => g.sm (by omega) (by omega) (by omega)) (fun _ _ _ => Sm.rf)
        refine ⟨p, by rw [r180]; exact hp, ?_⟩
        obtain ⟨x1, x2, x3, x4, m, b, y1, y2, y3, y4, y5, y6, y7, y8, y9⟩ := hv2
        refine ⟨x1, x2, x3, ?_, m, b, y1, y2, y3, ?_, y5, ?_, ?_, ?_, ?_⟩
        · rw [(k.sm (a := 222) (by omega)).i, (k.sm (a := 223) (by omega)).i]; exact x4
        · rw [(k.sm (a := 224) (by omega)).i]; exact y4
        · rw [k.2.2.2.1 228 w (by omega)]; exact y6
        · rw [(k.sm (a := 225) (by omega)).i, (k.sm (a := 226) (by omega)).i, (k.sm (a := 227) (by omega)).i]; exact y7
        · rw [k.2.2.2.2 229 w (by omega)]; exact y8
        · intro i hi; rw [k.2.2.2.2 230 (8 * w + i) (by omega)]; exact y9 i hi
    · intro w u q p a b c d
      rw [r180] at c d
      exact p4 w u q p a b c d
    · rintro w p s hw hp ⟨y, hy, hs⟩
      rw [r180] at hp
      rw [g19, g0 y hy] at hs
      exact p5 w p s hw hp ⟨y, hy, hs⟩
    · rw [(k.sm (a := 224) (by omega)).i]; exact p6
  · unfold SmBk at h14 ⊢; rw [(sA 0 (by omega)).i, b181 83 (by omega), b181 84 (by omega)]; exact h14
theorem sim_book {N : Nat} {A A' B B' : Mem} (h : Sim N A B) (fA : FSC A') (fB : FSR B') (hn : nc A' = nc A) (kA : ∀ a, a ≠ 0 → Sm a A A') (k6 : gi A' 0 6 = gi A 0 6) (kB : ∀ a, a ≠ 181 → Sm a B B') (eB : ∀ j, j < 83 → gi B' 181 j = gi B 181 j) (bk : SmBk A' B') : Sim N A' B' := by
  obtain ⟨h1, h2, h3, h4, h5, h6, h7, h8, h9, h10, h11, h12, h13, h14, h15⟩ := h
  have hnc : nc A ≤ nc A' := Nat.le_of_eq hn.symm
  have kH : KpH A A' := ⟨fun y hy => by rw [(kA 19 (by omega)).r], fun y s hy hs a a1 a2 => kA a (by have := shr_ge (h6 y hy) hs; omega)⟩
  have kT : KpT A A' := ⟨fun y hy => by rw [(kA (21 + 4 * y) (by omega)).r], fun y s hy hs a a1 a2 => kA a (by have := shr_ge (h7 y hy).1 hs; omega)⟩
  have kR : KpR B B' := fun a a1 a2 => kB a (by omega)
  have kM : ∀ y, y < 30 → gi A' (22 + 4 * y) = gi A (22 + 4 * y) ∧ gl A' (23 + 4 * y) = gl A (23 + 4 * y) := fun y hy => ⟨(kA _ (by omega)).i, (kA _ (by omega)).j⟩
  refine ⟨fA, fB, ?_, ?_, ?_, smSh_cg h6 kH hnc kR, smCl_cg h7 kT hnc kR (fun y hy => (kA _ (by omega)).i) (fun y hy => (kA _ (by omega)).j) (kB _ (by omega)).i (kB _ (by omega)).i (kB _ (by omega)).i (kB _ (by omega)).i (kB _ (by omega)).j, smCh_cg h8 kH.1 kT.1 (by rw [(kA 18 (by omega)).i]) (kB _ (by omega)).i, ?_, cnA_cg h10 kT kM, cnB_cg h11 kT kM (eB _ (by omega)) (eB _ (by omega)) (kB _ (by omega)).i (kB _ (by omega)).j, ?_, smVy_cg h13 hnc ⟨k6, (kA 180 (by omega)).r, fun v q _ q1 _ a a1 _ => kA a (by omega)⟩ kH.1 kT.1 (eB 73 (by omega)) (fun a a1 a2 => kB a (by omega)), bk, (eB 63 (by omega)).trans h15⟩
  · unfold SmTp at h3 ⊢; rw [(kA 1 (by omega)).i, (kA 2 (by omega)).i, eB 1 (by omega), (kB 182 (by omega)).i]; exact h3
  · unfold SmWd at h4 ⊢; rw [(kA 6 (by omega)).j, (kB 183 (by omega)).j]; exact h4
  · unfold SmFt at h5 ⊢; rw [(kA 7 (by omega)).i, eB 2 (by omega), eB 3 (by omega)]; exact h5
  · unfold SmEd at h9 ⊢; rw [(kA 18 (by omega)).i, eB 59 (by omega), eB 64 (by omega)]; exact h9
  · unfold SmSt at h12 ⊢; rw [(kA 144 (by omega)).i, (kA 179 (by omega)).i, eB 66 (by omega), (kB 220 (by omega)).i]; exact h12
theorem cal_bill (v : Int32) : Cal (L_X10_bill (some 0) v) (L_X11_bill (some 181) v) := by
  intro N A B hN h
  have h0 := h
  obtain ⟨h1, h2, h3, h4, h5, h6, h7, h8, h9, h10, h11, h12, h13, h14, h15⟩ := h
  rw [eqS_X10_bill h1, eqS_X11_bill h2]
  have no : ∀ {x y : Option (Int32 × Mem)}, x = some (-1, A) → y = some (-1, B) → ∃ v A' B', x = some (v, A') ∧ y = some (v, B') ∧ Sim (N + 1) A' B' ∧ KRf A A' ∧ KCl B B' ∧ nc A' ≤ nc A + 10 ∧ ns A' ≤ ns A + 2300 :=
    fun e1 e2 => ⟨_, A, B, e1, e2, sim_mono h0, KRf.rf, KCl.rf, by omega, by omega⟩
  unfold S_X10_bill S_X11_bill
  obtain ⟨n, p0, p1, p2, p3, p4, p5, p6⟩ := h13
  have vo : ∃ r, S_X10_voyageOf v A = some (r, A) ∧ ((r = none ∧ (v < 0 ∨ ni n ≤ v)) ∨ ∃ k, k < n ∧ v = ni k ∧ r = gr A 180 k) := by
    unfold S_X10_voyageOf SJ_X10_voyageOf_21
    rw [p1]
    rcases in_cases v (n := n) (by omega) with ⟨k, hk, rfl⟩ | hv
    · refine ⟨_, ?_, Or.inr ⟨k, hk, rfl, rfl⟩⟩
      rw [if_neg (ni_n0 (by omega)), if_neg (fun e => by have := (ni_le (by omega) (by omega)).mp e; omega), gdT ((ni_inb (by omega)).mpr (by omega)), ni_tn (by omega)]
    · refine ⟨none, ?_, Or.inl ⟨rfl, hv⟩⟩
      by_cases q : v < 0
      · rw [if_pos q]
      · rw [if_neg q, if_pos (by rcases hv with c | c; exact absurd c q; exact c)]
  obtain ⟨r, vo1, vo2⟩ := vo
  rw [vo1, bS, p2]
  dsimp only
  rcases vo2 with ⟨rfl, hv⟩ | ⟨k, hk, rfl, rfl⟩
  · refine no ?_ ?_
    · rw [if_pos rfl]
    · rw [iI_no (by omega) hv, bS]; dsimp only
      rw [if_pos rfl]
  · obtain ⟨q, hq, hV⟩ := p3 k hk
    obtain ⟨⟨q1, q5, k0, k1, k2, k3, k4⟩, ⟨l1, l2, l3, l4⟩, ⟨r3, r4, r5, r6⟩, ⟨a0, a1⟩, m, b, hm, hb, e1, e2, e3, e4, e5, e6, e7⟩ := hV
    rw [hq, if_neg (by simp), bi_fI k0, e1, iI_yes hk (by omega), bS]
    dsimp only
    rw [if_neg (show ¬ (1 : Int32) = 0 by decide), gdT ((ni_inb (by omega)).mpr (by omega)), gdT ((ni_inb (by omega)).mpr (by omega)), gdT ((ni_inb (by omega)).mpr (by omega)), gdT ((ni_inb (by omega)).mpr (by omega))]
    simp only [show (ni k).toNatClampNeg = k from ni_tn (by omega)]
    rw [e2]
    by_cases m0 : m = 0
    · subst m0
      rw [if_neg (show ¬ ¬ ni 0 = 0 by decide), if_neg (show ¬ ¬ ni 0 = 0 by decide)]
      exact no rfl rfl
    · have mn : ¬ ni m = 0 := fun e => m0 ((ni_inj (b := 0) (by omega) (by omega)).mp e)
      rw [if_pos mn, if_pos mn]
      unfold S_X3_charge
      rw [bi_pI k0, gi_ne (show 223 ≠ 181 by omega)]
      have ap : Apt A q := ⟨q1, fun y s hy hs => p5 k q s hk hq ⟨y, hy, Or.inr hs⟩⟩
      have va : Mv q A (si A q 8 0) := frv_si (by omega)
      have pb : PB B (si (si B 181 67 (gi B 222 k)) 181 68 (gi B 223 k)) := FrV.tr (frv_si (by omega)) (frv_si (by omega))
      have vb : Mw k (si (si B 181 67 (gi B 222 k)) 181 68 (gi B 223 k)) (si (si (si B 181 67 (gi B 222 k)) 181 68 (gi B 223 k)) 228 k (-1)) := frv_si (by omega)
      have m2 : Mi (30 * N + 30) (si A q 8 0) (si (si (si B 181 67 (gi B 222 k)) 181 68 (gi B 223 k)) 228 k (-1)) := mi_w (mi_p (mi_v (sim_mi hN h0) ap va) FrV.rf pb) vb
      have wq1 : WQ q A (si A q 8 0) := va.wq
      have wp1 : WP k B (si (si (si B 181 67 (gi B 222 k)) 181 68 (gi B 223 k)) 228 k (-1)) := FrV.tr (WB2.wp pb.q) vb.wp
      have bl : BlR q k m (si A q 8 0) (si (si (si B 181 67 (gi B 222 k)) 181 68 (gi B 223 k)) 228 k (-1)) := by
        refine ⟨⟨?_, ?_⟩, ⟨si_eq, si_eq⟩, ⟨?_, ?_⟩, fun i hi => ?_⟩
        · rw [si_ff' (by omega)]; exact e1
        · rw [gi_ne (by omega), gi_ne (by omega), gi_ne (by omega)]; exact e2
        · rw [si_ff' (by omega), gi_ne (show 181 ≠ 228 by omega), si_ff' (by omega), si_eq]; exact a0
        · rw [si_ff' (by omega), gi_ne (show 181 ≠ 228 by omega), si_eq]; exact a1
        · rw [gi_ne (show q + 1 ≠ q by omega), gi_ne (show q + 2 ≠ q by omega), gi_ne (show q + 3 ≠ q by omega), gi_ne (show 225 ≠ 228 by omega), gi_ne (show 225 ≠ 181 by omega), gi_ne (show 225 ≠ 181 by omega), gi_ne (show 226 ≠ 228 by omega), gi_ne (show 226 ≠ 181 by omega), gi_ne (show 226 ≠ 181 by omega), gi_ne (show 227 ≠ 228 by omega), gi_ne (show 227 ≠ 181 by omega), gi_ne (show 227 ≠ 181 by omega)]
          exact e5 i hi
      obtain ⟨x, A', B', t1, t2, t3, t4, t5, t6, t7, t8⟩ := bill_lp (show 30 * N + 30 < 1000000 by omega) (show k < 20 by omega) hm m 0 (by omega) _ _ 0 FU FU m2 (by rw [gi_ne (show 181 ≠ 228 by omega), si_ff' (by omega), si_ff' (by omega)]; exact h15) (ap.wq wq1) ⟨q1, ⟨k0, k1, k2, k3, k4⟩, ⟨l1, l2, l3, l4⟩, ⟨r3, r4, r5, r6⟩⟩ bl (fun i hi => absurd hi (by omega)) (by have : FU = 4000000 := rfl; omega) (by have : FU = 4000000 := rfl; omega)
      have t1 : SJ_X3_charge_10 FU (some q) 0 0 (si A q 8 0) = _ := t1
      have t2 : SJ_X11_bill_54 FU (ni k) 0 0 (si (si (si B 181 67 (gi B 222 k)) 181 68 (gi B 223 k)) 228 k (-1)) = _ := t2
      have wq : WQ q A A' := FrV.tr wq1 t5
      have wp : WP k B B' := FrV.tr wp1 t6
      have sA : ∀ a, 231 ≤ a → a ≠ q → a ≠ q + 4 → Sm a A A' := fun a z z1 z2 => wq.sm (by omega) z1 z2
      have gq : ∀ j, gr A' q j = gr A q j := fun j => wq.2.2.1 q j (by omega)
      have iq : ∀ j, j ≠ 8 → gi A' q j = gi A q j := fun j hj => wq.2.2.2.1 q j (by omega)
      have vy : VyR A' B' q k := by
        refine ⟨⟨q1, by rw [FrV.nc wq]; exact q5, (FrV.kd wq _).trans k0, (FrV.kd wq _).trans k1, (FrV.kd wq _).trans k2, (FrV.kd wq _).trans k3, (FrV.kd wq _).trans k4⟩, ⟨(FrV.ln wq _).trans l1, (FrV.ln wq _).trans l2, (FrV.ln wq _).trans l3, (FrV.ln wq _).trans l4⟩, ⟨(gq 3).trans r3, (gq 4).trans r4, (gq 5).trans r5, (gq 6).trans r6⟩, ⟨?_, ?_⟩, ?_⟩
        · rw [iq 0 (by omega), (wp.sm (a := 222) (by omega)).i]; exact a0
        · rw [iq 1 (by omega), (wp.sm (a := 223) (by omega)).i]; exact a1
        · have z1 : gi A' q 2 = ni m := (iq 2 (by omega)).trans e1
          have z2 : gi B' 224 k = ni m := by rw [(wp.sm (a := 224) (by omega)).i]; exact e2
          have z5 : ∀ i, i < m → gi A' (q + 1) i = gi B' 225 (8 * k + i) ∧ gi A' (q + 2) i = gi B' 226 (8 * k + i) ∧ gi A' (q + 3) i = gi B' 227 (8 * k + i) ∧ ∃ y, y < 30 ∧ gi A' (q + 2) i = ni y := by
            rw [(sA (q + 1) (by omega) (by omega) (by omega)).i, (sA (q + 2) (by omega) (by omega) (by omega)).i, (sA (q + 3) (by omega) (by omega) (by omega)).i, (wp.sm (a := 225) (by omega)).i, (wp.sm (a := 226) (by omega)).i, (wp.sm (a := 227) (by omega)).i]; exact e5
          by_cases hx : x = 0
          · obtain ⟨y1, y2, y3, y4⟩ := t7 hx
            exact ⟨m, m, hm, Nat.le_refl m, z1, z2, y1, by rw [if_neg m0]; exact y2, z5, fun _ => y3, y4⟩
          · obtain ⟨y1, y2⟩ := t8 hx
            exact ⟨m, 0, hm, by omega, z1, z2, y1, by rw [if_pos rfl]; exact y2, z5, fun z => absurd rfl z, fun i hi => absurd hi (by omega)⟩
      have s1 : Sim (N + 1) A' B' := sim_vb hN h0 t3 wq wp t4 p0 p1 hk hq q1 vy
      have nsE : ns A' = ns A := congrArg Prod.snd wq.1
      have ncE := FrV.nc wq
      rw [t1, t2, bS]
      dsimp only
      unfold bkB
      have hs : ∀ (j : Nat) (z : Int32) (i : Nat) (w : Int32), (j = 7 ∨ j = 8) → (i = 83 ∨ i = 84) → SmBk (si A' 0 j z) (si B' 181 i w) → Sim (N + 1) (si A' 0 j z) (si B' 181 i w) ∧ KRf A (si A' 0 j z) ∧ KCl B (si B' 181 i w) ∧ nc (si A' 0 j z) ≤ nc A + 10 ∧ ns (si A' 0 j z) ≤ ns A + 2300 := by
        intro j z i w hj hi bk
        refine ⟨sim_book s1 (t3.1.kc kc_si) (t3.2.1.1.kg ⟨rfl, rfl, rfl⟩) rfl (fun a ha => sm_si ha) (si_ff' (by omega)) (fun a ha => sm_si ha) (fun y hy => si_ff' (by omega)) bk, fun a z1 z2 => (wq.sm (by omega) (by omega) (by omega)).trans (sm_si (by omega)), ⟨wp.1, fun a z1 => (wp.sm (by omega)).trans (sm_si (by omega))⟩, ?_, ?_⟩
        · show nc A' ≤ _; omega
        · show ns A' ≤ _; omega
      obtain ⟨-, -, -, -, -, -, -, -, -, -, -, -, -, ⟨u1, u2⟩, -⟩ := s1
      by_cases hx : x = 0
      · subst hx
        rw [if_neg (fun e => e rfl), if_pos rfl]
        exact ⟨0, _, _, rfl, rfl, hs 7 _ 83 _ (by omega) (by omega) ⟨by rw [si_eq, si_eq, u1], by rw [si_ff' (by omega), si_ff' (by omega)]; exact u2⟩⟩
      · rw [if_pos hx, if_neg hx]
        exact ⟨x, _, _, rfl, rfl, hs 8 _ 84 _ (by omega) (by omega) ⟨by rw [si_ff' (by omega), si_ff' (by omega)]; exact u1, by rw [si_eq, si_eq, u2]⟩⟩
