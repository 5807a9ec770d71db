-- needs: 74.sclsb 75.num 76.rel 77.cong 78.sim 79.qa 79.qb 79.qc
theorem cal_line (v u : Int32) : Cal (L_X10_line (some 0) v u) (L_X11_line (some 181) v u) := by
  refine cal_same fun N A B hN hs => ?_
  obtain ⟨h1, h2, h3, h4, h5, h6, h7, h8, h9, h10, h11, h12, h13, h14, h15⟩ := hs
  rw [eqS_X10_line h1, eqS_X11_line h2]
  unfold S_X10_line S_X11_line S_X10_voyageOf SJ_X10_voyageOf_21
  obtain ⟨n, p0, p1, p2, p3, p4, p5, p6⟩ := h13
  rw [p1, p2]
  rcases in_cases v (n := n) (by omega) with ⟨k, hk, rfl⟩ | hv
  · obtain ⟨q, hq, ⟨-, -, ko, -, -, -, k4⟩, ⟨-, -, -, l4⟩, ⟨-, -, -, r6⟩, -, m, b, hm, hb, e1, e2, e3, e4, e5, e6, e7⟩ := p3 k hk
    rw [iI_yes hk (by omega), if_neg (ni_n0 (by omega)), if_neg (fun e => by have := (ni_le (by omega) (by omega)).mp e; omega), bS]
    have gT : ∀ {α : Type} {z : Option α}, gd (inb (ni k) 20) z = z := fun {α z} => gdT ((ni_inb (by omega)).mpr (by omega))
    simp only [gT, bS]
    rw [ni_tn (by omega), hq]
    rw [if_neg (show ¬ (some q : Option Nat) = none by simp), if_neg (show ¬ (1 : Int32) = 0 by decide), e4, bi_fI ko, bi_fI ko, bi_fR ko r6, bi_fL ko, e3]
    by_cases b0 : b = 0
    · subst b0
      rw [if_pos rfl, if_pos (show (-1 : Int32) < 0 by decide)]
      refine ⟨-2000000000000000, ?_, rfl⟩
      by_cases u0 : u < 0
      · rw [if_pos u0]
      · rw [if_neg u0]
        by_cases u1 : ni 0 < u
        · rw [if_pos u1]
        · rw [if_neg u1, if_neg (show ¬ ¬ ni 0 = 0 by decide)]
    · rw [if_neg b0, if_neg (ni_n0 (by omega)), if_pos (show ¬ ni b = 0 from fun e => b0 ((ni_inj (b := 0) (by omega) (by omega)).mp e))]
      by_cases u0 : u < 0
      · rw [if_pos u0, if_pos u0]; exact ⟨_, rfl, rfl⟩
      · rw [if_neg u0, if_neg u0]
        rcases i_cases u with q0 | ⟨j, hj, rfl⟩
        · exact absurd q0 u0
        · by_cases hj2 : j ≤ b
          · rw [if_neg (fun e => by have := (ni_lt (by omega) (by omega)).mp e; omega), if_pos ((ni_le (by omega) (by omega)).mpr hj2)]
            by_cases j0 : j = 0
            · subst j0
              rw [if_neg (show ¬ ¬ ni 0 = 0 by decide), if_neg (show ¬ ¬ ni 0 = 0 by decide), ← e6 b0]
              exact ⟨_, rfl, rfl⟩
            · have jn : ¬ ni j = 0 := fun e => j0 ((ni_inj (b := 0) (by omega) (by omega)).mp e)
              rw [if_pos jn, if_pos jn, show ni j - 1 = ni (j - 1) from ni_sub (a := j) (b := 1) (by omega), bi_aL k4 l4, gdT ((ni_inb (by omega)).mpr (by omega)), ni_tn (by omega)]
              rw [show (8 : Int32) * ni k + ni j - 1 = ni (8 * k + (j - 1)) by
                rw [show ((8 : Int32) * ni k) = ni (8 * k) from ni_mul _ _, ni_add]
                exact (ni_sub (a := 8 * k + j) (b := 1) (by omega)).trans (by rw [show 8 * k + j - 1 = 8 * k + (j - 1) by omega])]
              rw [gdT ((ni_inb (by omega)).mpr (by omega)), ni_tn (by omega), ← e7 (j - 1) (by omega)]
              exact ⟨_, rfl, rfl⟩
          · rw [if_pos ((ni_lt (by omega) (by omega)).mpr (by omega)), if_neg (fun e => by have := (ni_le (by omega) (by omega)).mp e; omega)]
            exact ⟨_, rfl, rfl⟩
  · refine ⟨-2000000000000000, ?_, ?_⟩
    · by_cases h0 : v < 0
      · rw [if_pos h0, bS, if_pos rfl]
      · rw [if_neg h0, if_pos (by rcases hv with q | q; exact absurd q h0; exact q), bS, if_pos rfl]
    · rw [iI_no (by omega) hv, bS, if_pos rfl]
theorem m1_lt : (-1 : Int32) < 0 := by decide
theorem cal_voyage (v u : Int32) : Cal (L_X10_voyage (some 0) v u) (L_X11_voyage (some 181) v u) := by
  intro N A B hN h
  have h0 := h
  obtain ⟨h1, h2, h3, h4, h5, h6, h7, h8, h9, h10, h11, h12, h13, h14, h15⟩ := h
  rw [eqS_X10_voyage h1, eqS_X11_voyage h2]
  unfold S_X10_voyage S_X11_voyage SJ_X10_voyage_24 SJ_X10_voyage_25
  obtain ⟨n, p0, p1, p2, p3, p4, p5, p6⟩ := h13
  rw [p1, p2]
  have no : ∀ {x y : Option (Int32 × Mem)}, x = some (-1, A) → y = some (-1, B) → ∃ v A' B', x = some (v, A') ∧ y = some (v, B') ∧ Sim (N + 1) A' B' ∧ KRf A A' ∧ KCl B B' ∧ nc A' ≤ nc A + 10 ∧ ns A' ≤ ns A + 2300 :=
    fun e1 e2 => ⟨_, A, B, e1, e2, sim_mono h0, KRf.rf, KCl.rf, by omega, by omega⟩
  rcases in_cases v (n := 100001) (by omega) with ⟨a, ha, rfl⟩ | hv
  · rcases in_cases u (n := 10) (by omega) with ⟨b, hb, rfl⟩ | hu
    · by_cases hn : n = 20
      · refine no ?_ ?_
        · subst hn
          rw [if_neg (ni_n0 (by omega)), if_neg (show ¬ (100000 : Int32) < ni a from fun e => by have := (ni_lt (a := 100000) (by omega) (by omega)).mp e; omega), if_neg (ni_n0 (by omega)), if_neg (show ¬ (9 : Int32) < ni b from fun e => by have := (ni_lt (a := 9) (by omega) (by omega)).mp e; omega), if_neg (show ¬ (1 : Int32) = 0 by decide), if_neg (show ¬ ni 20 < 20 by decide)]
        · subst hn; rw [if_pos (show ni 20 = 20 by decide)]
      · rw [if_neg (ni_n0 (by omega)), if_neg (show ¬ (100000 : Int32) < ni a from fun e => by have := (ni_lt (a := 100000) (by omega) (by omega)).mp e; omega), if_neg (ni_n0 (by omega)), if_neg (show ¬ (9 : Int32) < ni b from fun e => by have := (ni_lt (a := 9) (by omega) (by omega)).mp e; omega), if_neg (show ¬ (1 : Int32) = 0 by decide), if_pos (show ni n < 20 from (ni_lt (b := 20) (by omega) (by omega)).mpr (by omega))]
        rw [if_neg (show ¬ ni n = 20 from fun e => hn ((ni_inj (b := 20) (by omega) (by omega)).mp e)), show (100001 : Int32) = ni 100001 from rfl, iI_yes ha (by omega), bS]
        dsimp only
        rw [if_neg (show ¬ (1 : Int32) = 0 by decide), show (10 : Int32) = ni 10 from rfl, iI_yes hb (by omega), bS]
        dsimp only
        rw [if_pos (show ¬ (1 : Int32) = 0 by decide)]
        obtain ⟨M, i1, i2, i3, i4, ⟨k0, k1, k2, k3, k4⟩, ⟨l1, l2, l3, l4⟩, ⟨r3, r4, r5, r6⟩, f0, f1, f2, f8⟩ := voy_init A (ni a) (ni b)
        have hge : 231 ≤ nc A := h1.1
        rw [i1, bS, gdT ⟨(ni_inb (by omega)).mpr (by omega), by unfold okRd; simp [k0, acm]⟩]
        have e6 : gi M 0 6 = ni n := by rw [(i4 0 (by omega)).i]; exact p1
        simp (disch := omega) only [gi_si, gi_sr, if_pos, if_neg, if_true, if_false, and_self, and_true, true_and, and_false, false_and, ite_self, p2, gdT, ni_inb, ni_tn, e6]
        rw [show ni n + 1 = ni (n + 1) from ni_add n 1, show ni (n + 1) - 1 = ni n from ni_sub (a := n + 1) (b := 1) (by omega)]
        have cA : ∀ a, a ≠ 180 → a ≠ 0 → a < nc A → Sm a A (si (sr M 180 n (some (nc A))) 0 6 (ni (n + 1))) := fun a q1 q2 q3 => ((i4 a q3).trans (sm_sr q1)).trans (sm_si q2)
        have cB : ∀ c, c ≠ 222 → c ≠ 223 → c ≠ 228 → c ≠ 181 → Sm c B (si (si (si (si B 222 n (ni a)) 223 n (ni b)) 228 n (-1)) 181 73 (ni (n + 1))) := fun c q1 q2 q3 q4 => (((sm_si q1).trans (sm_si q2)).trans (sm_si q3)).trans (sm_si q4)
        have cF : ∀ j, j ≠ 73 → gi (si (si (si (si B 222 n (ni a)) 223 n (ni b)) 228 n (-1)) 181 73 (ni (n + 1))) 181 j = gi B 181 j := fun j hj => by rw [si_ff hj, gi_si, if_neg (by omega), gi_si, if_neg (by omega), gi_si, if_neg (by omega)]
        have k180 : fxk 28 n = false := by unfold fxk; simp
        have hM : KC A M := ⟨by omega, by omega, fun a ha => ⟨(i4 a ha).k, (i4 a ha).l⟩, fun a j ha _ => by rw [(i4 a ha).r]⟩
        have fM : FSC M := h1.kc hM
        have fA : FSC (si (sr M 180 n (some (nc A))) 0 6 (ni (n + 1))) := (fM.kc (kc_srk (fM.hk 180) k180)).kc kc_si
        refine ⟨_, _, _, rfl, rfl, ?_, ?_, ?_, ?_, ?_⟩
        · refine sim_of h0 fA (h2.kg ⟨rfl, rfl, rfl⟩) (by show nc A ≤ nc M; omega) (fun a q1 q2 => cA a (by omega) (by omega) (by omega)) (kps_of h0 (fun a q1 q2 => cA a (by omega) (by omega) q2)) (cA 6 (by omega) (by omega) (by omega)).j (fun a q1 q2 => cB a (by omega) (by omega) (by omega) (by omega)) (cF _ (by omega)) (cF _ (by omega)) (cF _ (by omega)) ?_ ?_ (smSt_mono h12 (by rw [(cA 144 (by omega) (by omega) (by omega)).i]) (cA 179 (by omega) (by omega) (by omega)).i (cF _ (by omega)) (cB _ (by omega) (by omega) (by omega) (by omega)).i) ?_ ?_
          · unfold SmTp at h3 ⊢; rw [(cA 1 (by omega) (by omega) (by omega)).i, (cA 2 (by omega) (by omega) (by omega)).i, cF _ (by omega), (cB 182 (by omega) (by omega) (by omega) (by omega)).i]; exact h3
          · unfold SmFt at h5 ⊢; rw [(cA 7 (by omega) (by omega) (by omega)).i, cF _ (by omega), cF _ (by omega)]; exact h5
          · have g180 : ∀ w, w ≠ n → gr (si (sr M 180 n (some (nc A))) 0 6 (ni (n + 1))) 180 w = gr A 180 w := fun w hw => by rw [gr_si, sr_ff hw, (i4 180 (by omega)).r]
            have g180n : gr (si (sr M 180 n (some (nc A))) 0 6 (ni (n + 1))) 180 n = some (nc A) := by rw [gr_si, gr_sr, if_pos ⟨rfl, rfl⟩]
            have cN : ∀ a, nc A ≤ a → Sm a M (si (sr M 180 n (some (nc A))) 0 6 (ni (n + 1))) := fun a q => (sm_sr (by omega)).trans (sm_si (by omega))
            refine ⟨n + 1, by omega, by rw [gi_si, if_pos ⟨rfl, rfl⟩], by rw [gi_si, if_pos ⟨rfl, rfl⟩], fun w hw => ?_, ?_, ?_, ?_⟩
            · by_cases e : w = n
              · subst e
                refine ⟨nc A, g180n, ?_⟩
                unfold VyR
                rw [(cN (nc A) (by omega)).k, (cN (nc A + 1) (by omega)).k, (cN (nc A + 2) (by omega)).k, (cN (nc A + 3) (by omega)).k, (cN (nc A + 4) (by omega)).k, (cN (nc A + 1) (by omega)).l, (cN (nc A + 2) (by omega)).l, (cN (nc A + 3) (by omega)).l, (cN (nc A + 4) (by omega)).l, (cN (nc A) (by omega)).r, (cN (nc A) (by omega)).i]
                refine ⟨⟨hge, by show nc A + 5 ≤ nc M; omega, k0, k1, k2, k3, k4⟩, ⟨l1, l2, l3, l4⟩, ⟨r3, r4, r5, r6⟩, ?_, 0, 0, by omega, by omega, f2, ?_, f8, ?_, ?_, ?_, ?_⟩
                · rw [f0, f1]
                  simp (disch := omega) only [gi_si, if_pos, if_neg, if_true, if_false, and_self, and_true, true_and, and_false, false_and, ite_self]
                · rw [(cB 224 (by omega) (by omega) (by omega) (by omega)).i]; exact p6 w (by omega) (by omega)
                · simp (disch := omega) only [gi_si, if_pos, if_neg, if_true, if_false, and_self, and_true, true_and, and_false, false_and, ite_self]
                · intro k hk; omega
                · intro hb; exact absurd rfl hb
                · intro k hk; omega
              · obtain ⟨q, hq, hv⟩ := p3 w (by omega)
                refine ⟨q, by rw [g180 w e]; exact hq, ?_⟩
                have e222 : gi (si (si (si (si B 222 n (ni a)) 223 n (ni b)) 228 n (-1)) 181 73 (ni (n + 1))) 222 w = gi B 222 w := by simp (disch := omega) only [gi_si, if_pos, if_neg, if_true, if_false, and_self, and_true, true_and, and_false, false_and, ite_self]
                have e223 : gi (si (si (si (si B 222 n (ni a)) 223 n (ni b)) 228 n (-1)) 181 73 (ni (n + 1))) 223 w = gi B 223 w := by simp (disch := omega) only [gi_si, if_pos, if_neg, if_true, if_false, and_self, and_true, true_and, and_false, false_and, ite_self]
                have e228 : gi (si (si (si (si B 222 n (ni a)) 223 n (ni b)) 228 n (-1)) 181 73 (ni (n + 1))) 228 w = gi B 228 w := by simp (disch := omega) only [gi_si, if_pos, if_neg, if_true, if_false, and_self, and_true, true_and, and_false, false_and, ite_self]
                have hv2 := vyR_cg (A' := si (sr M 180 n (some (nc A))) 0 6 (ni (n + 1))) (B' := B) hv (by show nc A ≤ nc M; omega) (fun a q1 q2 => cA a (by have := hv.1.1; omega) (by have := hv.1.1; omega) (by have := hv.1.2.1; omega)) (fun _ _ _ => Sm.rf)
                unfold VyR at hv2 ⊢
                rw [e222, e223, e228, (cB 224 (by omega) (by omega) (by omega) (by omega)).i, (cB 225 (by omega) (by omega) (by omega) (by omega)).i, (cB 226 (by omega) (by omega) (by omega) (by omega)).i, (cB 227 (by omega) (by omega) (by omega) (by omega)).i, (cB 229 (by omega) (by omega) (by omega) (by omega)).j, (cB 230 (by omega) (by omega) (by omega) (by omega)).j]
                exact hv2
            · intro w x q p hw hx e1 e2
              rw [g180 w (by omega)] at e1
              by_cases e : x = n
              · subst e
                rw [g180n] at e2
                obtain ⟨q', hq', hv⟩ := p3 w (by omega)
                rw [e1] at hq'; cases hq'; cases e2
                exact hv.1.2.1
              · rw [g180 x e] at e2
                exact p4 w x q p hw (by omega) e1 e2
            · rintro w q s hw e1 ⟨x, hx, hs⟩
              rw [(cA 19 (by omega) (by omega) (by omega)).r, (cA (21 + 4 * x) (by omega) (by omega) (by omega)).r] at hs
              by_cases e : w = n
              · subst e
                rw [g180n] at e1; cases e1
                have := shs_ge h0 ⟨x, hx, hs⟩
                exact Or.inr this.2
              · rw [g180 w e] at e1
                exact p5 w q s (by omega) e1 ⟨x, hx, hs⟩
            · intro w w1 w2
              rw [(cB 224 (by omega) (by omega) (by omega) (by omega)).i]; exact p6 w (by omega) w2
          · unfold SmBk at h14 ⊢
            rw [cF _ (by omega), cF _ (by omega), si_ff (by omega), si_ff (by omega), gi_sr, gi_sr, (i4 0 (by omega)).i]; exact h14
        · intro a q1 q2; exact cA a (by omega) (by omega) (by omega)
        · exact KCl.trans (KCl.trans (KCl.trans kcl_si kcl_si) kcl_si) kcl_si
        · show nc M ≤ nc A + 10; omega
        · show ns M ≤ ns A + 2300; omega
    · refine no ?_ ?_
      · rw [if_neg (ni_n0 (by omega)), if_neg (show ¬ (100000 : Int32) < ni a from fun e => by have := (ni_lt (a := 100000) (by omega) (by omega)).mp e; omega)]
        by_cases u0 : u < 0
        · rw [if_pos u0, if_pos rfl]
        · rw [if_neg u0, if_pos, if_pos rfl]
          rcases i_cases u with q | ⟨k, hk, rfl⟩
          · exact absurd q u0
          · rcases hu with q | q
            · exact absurd q u0
            · exact (ni_lt (a := 9) (by omega) hk).mpr (by have := (ni_le (by omega) hk).mp q; omega)
      · by_cases hn : n = 20
        · subst hn; rw [if_pos (show ni 20 = 20 by decide)]
        · rw [if_neg (show ¬ ni n = 20 from fun e => hn ((ni_inj (b := 20) (by omega) (by omega)).mp e)), show (100001 : Int32) = ni 100001 from rfl, iI_yes ha (by omega), bS]
          dsimp only
          rw [if_neg (show ¬ (1 : Int32) = 0 by decide), show (10 : Int32) = ni 10 from rfl, iI_no (by omega) hu, bS]
          rfl
  · refine no ?_ ?_
    · by_cases u0 : v < 0
      · rw [if_pos u0, if_pos rfl]
      · rw [if_neg u0, if_pos, if_pos rfl]
        rcases i_cases v with q | ⟨k, hk, rfl⟩
        · exact absurd q u0
        · rcases hv with q | q
          · exact absurd q u0
          · exact (ni_lt (a := 100000) (by omega) hk).mpr (by have := (ni_le (by omega) hk).mp q; omega)
    · by_cases hn : n = 20
      · subst hn; rw [if_pos (show ni 20 = 20 by decide)]
      · rw [if_neg (show ¬ ni n = 20 from fun e => hn ((ni_inj (b := 20) (by omega) (by omega)).mp e)), show (100001 : Int32) = ni 100001 from rfl, iI_no (by omega) hv, bS]
        rfl
