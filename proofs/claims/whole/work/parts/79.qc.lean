-- needs: 74.sclsb 75.num 76.rel 77.cong 78.sim 79.qa 79.qb
theorem bi_nA {α : Type} {M : Mem} {k n : Nat} {K : Mem → Option α} (hn : n ≤ 1000000) : (nA M k (ni n)).bind K = K (nw M k n n) := by
  unfold nA
  rw [if_neg, ni_tn (by omega)]; rfl
  rw [ni_tn (by omega)]
  rintro (h | h)
  · exact ni_n0 (by omega) h
  · omega
theorem gi_nw0 {M : Mem} {k n z j : Nat} : gi (nw M k n z) (nc M) j = 0 := by rw [gi_nw, if_pos rfl]
theorem voy_init (A : Mem) (v1 v2 : Int32) : ∃ M, L_X9_init (some (nc A)) v1 v2 (nw A 9 0 9) = some ((), M) ∧ nc M = nc A + 5 ∧ ns M = ns A + 41 ∧ (∀ a, a < nc A → Sm a A M) ∧
    (kd M (nc A) = 9 ∧ kd M (nc A + 1) = 20 ∧ kd M (nc A + 2) = 20 ∧ kd M (nc A + 3) = 20 ∧ kd M (nc A + 4) = 21) ∧
    (ln M (nc A + 1) = 8 ∧ ln M (nc A + 2) = 8 ∧ ln M (nc A + 3) = 8 ∧ ln M (nc A + 4) = 8) ∧
    (gr M (nc A) 3 = some (nc A + 1) ∧ gr M (nc A) 4 = some (nc A + 2) ∧ gr M (nc A) 5 = some (nc A + 3) ∧ gr M (nc A) 6 = some (nc A + 4)) ∧
    (gi M (nc A) 0 = v1 ∧ gi M (nc A) 1 = v2 ∧ gi M (nc A) 2 = 0 ∧ gi M (nc A) 8 = 0) := by
  have k0 : ∀ {M : Mem} {j : Nat} {x : Int32}, kd M (nc A) = 9 → kd (si M (nc A) j x) (nc A) = 9 := fun h => h
  unfold L_X9_init
  rw [if_neg (by simp), bi_pI (by rw [kd_nw, if_pos rfl]), bi_pI (by rw [kd_si, kd_nw, if_pos rfl]), show (8 : Int32) = ni 8 from rfl, bi_nA (by omega)]
  rw [bi_pR (by simp (disch := omega) only [kd_nw, kd_si, kd_sr, nc_si, nc_sr, nc_nw, if_pos, if_neg, if_true, if_false, and_self, and_true, true_and, and_false, false_and, ite_self]), bi_nA (by omega), bi_pR (by simp (disch := omega) only [kd_nw, kd_si, kd_sr, nc_si, nc_sr, nc_nw, if_pos, if_neg, if_true, if_false, and_self, and_true, true_and, and_false, false_and, ite_self]), bi_nA (by omega), bi_pR (by simp (disch := omega) only [kd_nw, kd_si, kd_sr, nc_si, nc_sr, nc_nw, if_pos, if_neg, if_true, if_false, and_self, and_true, true_and, and_false, false_and, ite_self]), bi_nA (by omega), bi_pR (by simp (disch := omega) only [kd_nw, kd_si, kd_sr, nc_si, nc_sr, nc_nw, if_pos, if_neg, if_true, if_false, and_self, and_true, true_and, and_false, false_and, ite_self])]
  refine ⟨_, rfl, ?_, ?_, ?_, ?_, ?_, ?_, ?_⟩
  · simp [nc_nw, nc_si, nc_sr]
  · simp [ns_nw, ns_si, ns_sr]
  · intro a ha
    refine ((((((((((sm_nw (by omega)).trans (sm_si (by omega))).trans (sm_si (by omega))).trans (sm_nw ?_)).trans (sm_sr (by omega))).trans (sm_nw ?_)).trans (sm_sr (by omega))).trans (sm_nw ?_)).trans (sm_sr (by omega))).trans (sm_nw ?_)).trans (sm_sr (by omega)) <;> simp only [nc_nw, nc_si, nc_sr] <;> omega
  · refine ⟨?_, ?_, ?_, ?_, ?_⟩ <;> simp (disch := omega) only [kd_nw, kd_si, kd_sr, nc_si, nc_sr, nc_nw, if_pos, if_neg, if_true, if_false, and_self, and_true, true_and, and_false, false_and, ite_self]
  · refine ⟨?_, ?_, ?_, ?_⟩ <;> simp (disch := omega) only [ln_nw, ln_si, ln_sr, nc_si, nc_sr, nc_nw, if_pos, if_neg, if_true, if_false, and_self, and_true, true_and, and_false, false_and, ite_self]
  · refine ⟨?_, ?_, ?_, ?_⟩ <;> simp (disch := omega) only [gr_nw, gr_si, gr_sr, nc_si, nc_sr, nc_nw, if_pos, if_neg, if_true, if_false, and_self, and_true, true_and, and_false, false_and, ite_self]
  · refine ⟨?_, ?_, ?_, ?_⟩ <;> simp (disch := omega) only [gi_nw, gi_si, gi_sr, nc_si, nc_sr, nc_nw, if_pos, if_neg, if_true, if_false, and_self, and_true, true_and, and_false, false_and, ite_self]
theorem si_ff {A : Mem} {a j i : Nat} {x : Int32} (h : i ≠ j) : gi (si A a j x) a i = gi A a i := by rw [gi_si, if_neg (fun e => h e.2)]
theorem cal_end (v : Int32) : Cal (L_X10_end (some 0) v) (L_X11_end (some 181) v) := by
  intro N A B hN h
  obtain ⟨n, hn, t1, t2, t3⟩ := h.2.2.1
  rw [eqS_X10_end h.1, eqS_X11_end h.2.1]
  unfold S_X10_end S_X11_end
  rw [t1, t2]
  by_cases h0 : v < 0
  · rw [if_pos h0, if_pos h0]; exact ⟨_, A, B, rfl, rfl, sim_mono h, KRf.rf, KCl.rf, by omega, by omega⟩
  rw [if_neg h0, if_neg h0]
  by_cases h1 : v ≤ ni n
  · rw [if_pos h1, if_pos h1]
    obtain ⟨m, hm, rfl⟩ : ∃ m, m ≤ n ∧ v = ni m := by
      rcases i_cases v with q | ⟨m, hm, rfl⟩
      · exact absurd q h0
      · exact ⟨m, (ni_le hm (by omega)).mp h1, rfl⟩
    refine ⟨_, _, _, rfl, rfl, ?_, krf_si (by omega), kcl_si, Nat.le_add_right _ _, Nat.le_add_right _ _⟩
    have kd : ∀ a, 231 ≤ a → a < nc A → Sm a A (si A 1 1 (ni m)) := fun a h1 h2 => sm_si (by omega)
    refine sim_of h (h.1.kc kc_si) (h.2.1.kg ⟨rfl, rfl, rfl⟩) (Nat.le_refl _) (fun a h1 h2 => sm_si (by omega)) (kps_of h kd) rfl (fun a h1 h2 => sm_si (by omega)) (si_ff (by omega)) (si_ff (by omega)) (si_ff (by omega)) ⟨m, by omega, by simp [gi_si], by simp [gi_si], fun k hk => ?_⟩ ?_ ?_ ?_ ?_
    · obtain ⟨b, b1, b2, b3⟩ := t3 k (by omega)
      exact ⟨b, b1, by rw [gi_si, if_neg (by omega)]; exact b2, by rw [gi_si, if_neg (by omega)]; exact b3⟩
    · have := h.2.2.2.2.1
      unfold SmFt at this ⊢
      rw [(sm_si (a := 7) (by omega)).i, si_ff (by omega), si_ff (by omega)]; exact this
    · exact smSt_mono h.2.2.2.2.2.2.2.2.2.2.2.1 (by rw [(sm_si (a := 144) (by omega)).i]) (sm_si (a := 179) (by omega)).i (si_ff (by omega)) (sm_si (by omega)).i
    · exact smVy_cg h.2.2.2.2.2.2.2.2.2.2.2.2.1 (Nat.le_refl _) (kpv_of h (by rw [(sm_si (a := 0) (by omega)).i]) rfl kd) (fun y hy => rfl) (fun y hy => rfl) (si_ff (by omega)) (fun a h1 h2 => sm_si (by omega))
    · have := h.2.2.2.2.2.2.2.2.2.2.2.2.2.1
      unfold SmBk at this ⊢
      rw [(sm_si (a := 0) (by omega)).i, si_ff (by omega), si_ff (by omega)]; exact this
  · rw [if_neg h1, if_neg h1]; exact ⟨_, A, B, rfl, rfl, sim_mono h, KRf.rf, KCl.rf, by omega, by omega⟩
theorem nar24_0 : vp_nar (aty 24) (0 : Int32) = 0 := by decide
theorem nar24_1 : vp_nar (aty 24) (1 : Int32) = 1 := by decide
theorem sr_ff {A : Mem} {a j i : Nat} {x : Option Nat} (h : i ≠ j) : gr (sr A a j x) a i = gr A a i := by rw [gr_sr, if_neg (fun e => h e.2)]
theorem cal_forget (v : Int32) : Cal (L_X10_forget (some 0) v) (L_X11_forget (some 181) v) := by
  intro N A B hN h
  rw [eqS_X10_forget h.1, eqS_X11_forget h.2.1]
  unfold S_X10_forget S_X11_forget
  rcases year_cases v with ⟨y, hy, rfl⟩ | hv
  · rw [yI_yes hy, iY_yes hy, bS, bS]
    dsimp only
    rw [ny_sub]
    have gT1 : ∀ {α : Type} {z : Option α}, gd (inb (ni y) 30) z = z := fun {α z} => gdT ((ni_inb (by omega)).mpr hy)
    have gT2 : ∀ {α : Type} {z : Option α}, gd (inb (ni y) 60) z = z := fun {α z} => gdT ((ni_inb (by omega)).mpr (by omega))
    simp only [gT1, gT2]
    rw [ni_tn (by omega), if_neg (ni_ne1 (by omega)), if_neg (show ¬ (1 : Int32) = 0 by decide)]
    have g := h.2.2.2.2.2.1 y hy
    cases hr : gr A 19 y with
    | none =>
      rw [hr] at g
      have g : gi B 194 y = 0 := g
      rw [g, if_neg (by simp), if_neg (by simp)]
      exact ⟨_, A, B, rfl, rfl, sim_mono h, KRf.rf, KCl.rf, by omega, by omega⟩
    | some s =>
      rw [hr] at g
      have g1 : gi B 194 y = 1 := g.1
      rw [g1, if_pos (by simp), if_pos (show ¬ (1 : Int32) = 0 by decide)]
      unfold S_X1_change
      rw [gdT ⟨(ni_inb (by omega)).mpr hy, rfl⟩, bS, nar24_0, nar24_1, ni_tn (by omega)]
      dsimp only
      rw [show gi (sr A 19 y none) 18 2 = gi A 18 2 from rfl]
      obtain ⟨h1, h2, h3, h4, h5, h6, h7, h8, h9, h10, h11, h12, h13, h14, h15⟩ := h
      have k19 : fxk 25 y = false := by unfold fxk; simp
      have cA : ∀ a, a ≠ 19 → a ≠ 18 → Sm a A (si (sr A 19 y none) 18 2 (gi A 18 2 ||| 1 <<< (ni y &&& 31))) := fun a q1 q2 => (sm_sr q1).trans (sm_si q2)
      have cB : ∀ a, a ≠ 194 → a ≠ 211 → Sm a B (si (si B 194 y 0) 211 y 1) := fun a q1 q2 => (sm_si q1).trans (sm_si q2)
      have fA : FSC (si (sr A 19 y none) 18 2 (gi A 18 2 ||| 1 <<< (ni y &&& 31))) := (h1.kc (kc_srk (h1.hk 19) k19)).kc kc_si
      have kT : KpT A (si (sr A 19 y none) 18 2 (gi A 18 2 ||| 1 <<< (ni y &&& 31))) := ⟨fun y hy => by rw [(cA _ (by omega) (by omega)).r], fun y s hy hs a ha hb => cA a (by have := shr_ge (h7 y hy).1 hs; omega) (by have := shr_ge (h7 y hy).1 hs; omega)⟩
      have kM : ∀ x, x < 30 → gi (si (sr A 19 y none) 18 2 (gi A 18 2 ||| 1 <<< (ni y &&& 31))) (22 + 4 * x) = gi A (22 + 4 * x) ∧ gl (si (sr A 19 y none) 18 2 (gi A 18 2 ||| 1 <<< (ni y &&& 31))) (23 + 4 * x) = gl A (23 + 4 * x) := fun x hx => ⟨(cA _ (by omega) (by omega)).i, (cA _ (by omega) (by omega)).j⟩
      have i194 : ∀ x, x ≠ y → gi (si (si B 194 y 0) 211 y 1) 194 x = gi B 194 x := fun x hx => by rw [gi_si, if_neg (by omega), gi_si, if_neg (by omega)]
      have shr : ∀ r x own, x ≠ y → ShR A B r x own → (∀ s, r = some s → 231 ≤ s ∧ s + 10 ≤ nc A) → ShR (si (sr A 19 y none) 18 2 (gi A 18 2 ||| 1 <<< (ni y &&& 31))) (si (si B 194 y 0) 211 y 1) r x own := by
        intro r x own hx g hg
        cases r with
        | none => exact (i194 x hx).trans g
        | some s =>
          have hs : KpS s A (si (sr A 19 y none) 18 2 (gi A 18 2 ||| 1 <<< (ni y &&& 31))) := fun a ha hb => cA a (by have := hg s rfl; omega) (by have := hg s rfl; omega)
          refine ⟨(i194 x hx).trans g.1, hs.so (Nat.le_refl _) g.2.1, ?_, ?_⟩
          · rw [hs.sv]; exact g.2.2.1
          · exact g.2.2.2
      refine ⟨_, _, _, rfl, rfl, ⟨fA, h2.kg ⟨rfl, rfl, rfl⟩, ?_, ?_, ?_, ?_, ?_, ?_, ?_, cnA_cg h10 kT kM, cnB_cg h11 kT kM rfl rfl rfl rfl, ?_, ?_, ?_, ?_⟩, ?_, ?_, Nat.le_add_right _ _, Nat.le_add_right _ _⟩
      · unfold SmTp at h3 ⊢; rw [(cA 1 (by omega) (by omega)).i, (cA 2 (by omega) (by omega)).i, (cB 181 (by omega) (by omega)).i, (cB 182 (by omega) (by omega)).i]; exact h3
      · exact h4
      · unfold SmFt at h5 ⊢; rw [(cA 7 (by omega) (by omega)).i, (cB 181 (by omega) (by omega)).i]; exact h5
      · intro x hx
        by_cases e : x = y
        · subst e
          rw [show gr (si (sr A 19 x none) 18 2 (gi A 18 2 ||| 1 <<< (ni x &&& 31))) 19 x = none by rw [gr_si, gr_sr, if_pos ⟨rfl, rfl⟩]]
          show gi (si (si B 194 x 0) 211 x 1) 194 x = 0
          rw [gi_si, if_neg (by omega), gi_si, if_pos ⟨rfl, rfl⟩]
        · rw [show gr (si (sr A 19 y none) 18 2 (gi A 18 2 ||| 1 <<< (ni y &&& 31))) 19 x = gr A 19 x by rw [gr_si, gr_sr, if_neg (by omega)]]
          exact shr _ _ _ e (h6 x hx) (fun s hs => shr_ge (h6 x hx) hs)
      · intro x hx
        obtain ⟨c1, c2, c3, c4⟩ := h7 x hx
        rw [(cA (21 + 4 * x) (by omega) (by omega)).r, (cA (21 + 4 * x) (by omega) (by omega)).i, (cA (24 + 4 * x) (by omega) (by omega)).j, (cB 212 (by omega) (by omega)).i, (cB 213 (by omega) (by omega)).i, (cB 214 (by omega) (by omega)).i, (cB 215 (by omega) (by omega)).i, (cB 216 (by omega) (by omega)).j]
        exact ⟨shr _ _ _ (by omega) c1 (fun s hs => shr_ge c1 hs), c2, c3, c4⟩
      · refine ⟨fun x hx => ?_, fun x x1 x2 => ?_⟩
        · rw [show gi (si (sr A 19 y none) 18 2 (gi A 18 2 ||| 1 <<< (ni y &&& 31))) 18 2 = gi A 18 2 ||| 1 <<< (ni y &&& 31) by rw [gi_si, if_pos ⟨rfl, rfl⟩], bt_or, bt_one (by omega) (by omega)]
          by_cases e : x = y
          · subst e
            refine ⟨by rw [gi_si, if_pos ⟨rfl, rfl⟩]; simp, fun q => ?_⟩
            simp at q
          · rw [show gi (si (si B 194 y 0) 211 y 1) 211 x = gi B 211 x by rw [gi_si, if_neg (by omega), gi_si, if_neg (by omega)], decide_eq_false e, Bool.or_false, (cA (21 + 4 * x) (by omega) (by omega)).r]
            refine ⟨(h8.1 x hx).1, fun q => ?_⟩
            rw [show gr (si (sr A 19 y none) 18 2 (gi A 18 2 ||| 1 <<< (ni y &&& 31))) 19 x = gr A 19 x by rw [gr_si, gr_sr, if_neg (by omega)]]
            exact (h8.1 x hx).2 q
        · rw [show gi (si (sr A 19 y none) 18 2 (gi A 18 2 ||| 1 <<< (ni y &&& 31))) 18 2 = gi A 18 2 ||| 1 <<< (ni y &&& 31) by rw [gi_si, if_pos ⟨rfl, rfl⟩], bt_or, bt_one (by omega) (by omega), h8.2 x x1 x2, decide_eq_false (by omega)]; rfl
      · obtain ⟨e, he, q1, q2, q3⟩ := h9
        refine ⟨e, by omega, ?_, q2, q3⟩
        rw [gi_si, if_neg (by omega)]; exact q1
      · exact smSt_mono h12 rfl rfl rfl rfl
      · obtain ⟨n, p0, p1, p2, p3, p4, p5, p6⟩ := h13
        refine ⟨n, p0, p1, p2, fun v hv => ?_, ?_, ?_, p6⟩
        · obtain ⟨q, hq, hv⟩ := p3 v hv
          refine ⟨q, by rw [(cA 180 (by omega) (by omega)).r]; exact hq, vyR_cg hv (Nat.le_refl _) (fun a a1 a2 => cA a (by have := hv.1.1; omega) (by have := hv.1.1; omega)) (fun a a1 a2 => cB a (by omega) (by omega))⟩
        · rw [(cA 180 (by omega) (by omega)).r]; exact p4
        · rw [(cA 180 (by omega) (by omega)).r]
          rintro v q s hv hq ⟨x, hx, hs⟩
          rw [(cA (21 + 4 * x) (by omega) (by omega)).r] at hs
          by_cases e : x = y
          · subst e
            rw [show gr (si (sr A 19 x none) 18 2 (gi A 18 2 ||| 1 <<< (ni x &&& 31))) 19 x = none by rw [gr_si, gr_sr, if_pos ⟨rfl, rfl⟩]] at hs
            rcases hs with hs | hs
            · cases hs
            · exact p5 v q s hv hq ⟨x, hx, Or.inr hs⟩
          · rw [show gr (si (sr A 19 y none) 18 2 (gi A 18 2 ||| 1 <<< (ni y &&& 31))) 19 x = gr A 19 x by rw [gr_si, gr_sr, if_neg (by omega)]] at hs
            exact p5 v q s hv hq ⟨x, hx, hs⟩
      · exact h14
      · exact h15
      · exact (krf_sr (by omega)).trans (krf_si (by omega))
      · exact KCl.trans kcl_si kcl_si
  · refine ⟨0, A, B, ?_, ?_, sim_mono h, KRf.rf, KCl.rf, by omega, by omega⟩
    · rw [yI_no hv, bS, if_pos rfl]
    · rw [iY_no hv, bS, if_pos rfl]
