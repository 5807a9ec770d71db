-- needs: 74.sclsb 75.num 76.rel 77.cong 78.sim 79.qa 79.qb 79.qc
theorem addLock_eq {A : Mem} {q m : Nat} {x y z : Int32} (k0 : kd A q = 9) (k1 : kd A (q + 1) = 20) (k2 : kd A (q + 2) = 20) (k3 : kd A (q + 3) = 20) (l1 : ln A (q + 1) = 8) (l2 : ln A (q + 2) = 8) (l3 : ln A (q + 3) = 8)
    (r3 : gr A q 3 = some (q + 1)) (r4 : gr A q 4 = some (q + 2)) (r5 : gr A q 5 = some (q + 3)) (e : gi A q 2 = ni m) (hm : m < 8) :
    L_X9_addLock (some q) x y z A = some ((), si (si (si (si A (q + 1) m x) (q + 2) m y) (q + 3) m z) q 2 (ni (m + 1))) := by
  unfold L_X9_addLock
  have e1 : gi (si A (q + 1) m x) q 2 = ni m := by rw [gi_si, if_neg (by omega)]; exact e
  have e2 : gi (si (si A (q + 1) m x) (q + 2) m y) q 2 = ni m := by rw [gi_si, if_neg (by omega)]; exact e1
  have e3 : gi (si (si (si A (q + 1) m x) (q + 2) m y) (q + 3) m z) q 2 = ni m := by rw [gi_si, if_neg (by omega)]; exact e2
  rw [bi_fI k0, e, if_neg (show ¬ (8 : Int32) ≤ ni m from fun h => by have := (ni_le (a := 8) (by omega) (by omega)).mp h; omega), bi_fR k0 r3, bi_fI k0, e, bi_uI k1 l1, gdT ((ni_inb (by omega)).mpr hm), ni_tn (by omega)]
  rw [bi_fR (M := si A (q + 1) m x) k0 r4, bi_fI (M := si A (q + 1) m x) k0, e1, bi_uI (M := si A (q + 1) m x) k2 l2, gdT ((ni_inb (by omega)).mpr hm), ni_tn (by omega)]
  rw [bi_fR (M := si (si A (q + 1) m x) (q + 2) m y) k0 r5, bi_fI (M := si (si A (q + 1) m x) (q + 2) m y) k0, e2, bi_uI (M := si (si A (q + 1) m x) (q + 2) m y) k3 l3, gdT ((ni_inb (by omega)).mpr hm), ni_tn (by omega)]
  rw [bi_fI (M := si (si (si A (q + 1) m x) (q + 2) m y) (q + 3) m z) k0, e3, bi_pI (M := si (si (si A (q + 1) m x) (q + 2) m y) (q + 3) m z) k0, show ni m + 1 = ni (m + 1) from ni_add m 1]
theorem cal_lock (v u w x : Int32) : Cal (L_X10_lock (some 0) v u w x) (L_X11_lock (some 181) v u w x) := by
  intro N A B hN h
  have h0 := h
  obtain ⟨h1, h2, h3, h4, h5, h6, h7, h8, h9, h10, h11, h12, h13, h14, h15⟩ := h
  rw [eqS_X10_lock h1, eqS_X11_lock h2]
  have no : ∀ {x y : Option (Int32 × Mem)}, x = some (-1, A) → y = some (-1, B) → ∃ v A' B', x = some (v, A') ∧ y = some (v, B') ∧ Sim (N + 1) A' B' ∧ KRf A A' ∧ KCl B B' ∧ nc A' ≤ nc A + 10 ∧ ns A' ≤ ns A + 2300 :=
    fun e1 e2 => ⟨_, A, B, e1, e2, sim_mono h0, KRf.rf, KCl.rf, by omega, by omega⟩
  have no48 : ∀ r y, SJ_X10_lock_48 u x r y A = some (-1, A) := by
    intro r y
    unfold SJ_X10_lock_48 SJ_X10_lock_49
    cases r with
    | none => rw [if_pos rfl]
    | some q => rw [if_neg (by simp), if_pos rfl]
  unfold S_X10_lock S_X11_lock
  obtain ⟨n, p0, p1, p2, p3, p4, p5, p6⟩ := h13
  have vo : ∃ r, S_X10_voyageOf v A = some (r, A) ∧ ((r = none ∧ (v < 0 ∨ ni n ≤ v)) ∨ ∃ k, k < n ∧ v = ni k ∧ r = gr A 180 k) := by
    unfold S_X10_voyageOf SJ_X10_voyageOf_21
    rw [p1]
    rcases in_cases v (n := n) (by omega) with ⟨k, hk, rfl⟩ | hv
    · refine ⟨_, ?_, Or.inr ⟨k, hk, rfl, rfl⟩⟩
      rw [if_neg (ni_n0 (by omega)), if_neg (fun e => by have := (ni_le (by omega) (by omega)).mp e; omega), gdT ((ni_inb (by omega)).mpr (by omega)), ni_tn (by omega)]
    · refine ⟨none, ?_, Or.inl ⟨rfl, hv⟩⟩
      by_cases q : v < 0
      · rw [if_pos q]
      · rw [if_neg q, if_pos (by rcases hv with c | c; exact absurd c q; exact c)]
  have yi : ∃ j, L_X10_yearIndex w.toInt64 A = some (j, A) ∧ ((j = -1 ∧ L_X11_isYear w B = some (0, B)) ∨ ∃ y, y < 30 ∧ w = ni (1700 + y) ∧ j = ni y ∧ L_X11_isYear w B = some (1, B)) := by
    rcases year_cases w with ⟨y, hy, rfl⟩ | hw
    · exact ⟨_, yI_yes hy, Or.inr ⟨y, hy, rfl, rfl, iY_yes hy⟩⟩
    · exact ⟨_, yI_no hw, Or.inl ⟨rfl, iY_no hw⟩⟩
  obtain ⟨r, vo1, vo2⟩ := vo
  obtain ⟨j, yi1, yi2⟩ := yi
  rw [vo1, bS]
  dsimp only
  rw [yi1, bS]
  dsimp only
  rw [no48, p2]
  rcases vo2 with ⟨rfl, hv⟩ | ⟨k, hk, rfl, rfl⟩
  · -- no such voyage
    refine no ?_ ?_
    · have : SJ_X10_lock_49 u x none j 1 A = some (-1, A) := by unfold SJ_X10_lock_49; rw [if_pos rfl]
      rw [this]
      simp only [ite_self]
    · rw [iI_no (by omega) hv, bS, if_pos rfl]
  · obtain ⟨q, hq, hvy⟩ := p3 k hk
    have hvy0 := hvy
    obtain ⟨⟨q0, q1, k0, k1, k2, k3, k4⟩, ⟨l1, l2, l3, l4⟩, ⟨r3, r4, r5, r6⟩, e0, m, b, hm, hb, e1, e2, e3, e4, e5, e6, e7⟩ := hvy
    have gT : ∀ {α : Type} {z : Option α}, gd (inb (ni k) 20) z = z := fun {α z} => gdT ((ni_inb (by omega)).mpr (by omega))
    rw [iI_yes hk (by omega), bS]
    simp only [gT]
    rw [ni_tn (by omega), e2, hq]
    rw [if_neg (show ¬ (1 : Int32) = 0 by decide)]
    have c49 : SJ_X10_lock_49 u x (some q) j 1 A = if m < 8 then some (ni (m + 1), si (si (si (si A (q + 1) m u) (q + 2) m j) (q + 3) m x) q 2 (ni (m + 1))) else some (-1, A) := by
      unfold SJ_X10_lock_49
      rw [if_neg (by simp), if_neg (by decide), bi_fI k0, e1]
      by_cases h8 : m < 8
      · rw [if_pos (show ni m < 8 from (ni_lt (b := 8) (by omega) (by omega)).mpr h8), if_pos h8, bi_ck k0, addLock_eq k0 k1 k2 k3 l1 l2 l3 r3 r4 r5 e1 h8, bS, bi_fI (by simp only [kd_si]; exact k0), gi_si, if_pos ⟨rfl, rfl⟩]
      · rw [if_neg (show ¬ ni m < 8 from fun h => h8 ((ni_lt (b := 8) (by omega) (by omega)).mp h)), if_neg h8]
    rw [c49]
    by_cases h8 : m < 8
    · rw [if_pos h8, if_neg (show ¬ ni m = 8 from fun h => by have := (ni_inj (b := 8) (by omega) (by omega)).mp h; omega)]
      rcases in_cases u (n := 100) (by omega) with ⟨a, ha, rfl⟩ | hu
      · rw [show (100 : Int32) = ni 100 from rfl, iI_yes ha (by omega), bS]
        dsimp only
        rw [if_neg (show ¬ (1 : Int32) = 0 by decide), if_neg (ni_n0 (by omega)), if_neg (show ¬ (99 : Int32) < ni a from fun h => by have := (ni_lt (a := 99) (by omega) (by omega)).mp h; omega)]
        rcases yi2 with ⟨rfl, yi2⟩ | ⟨y, hy, rfl, rfl, yi2⟩
        · refine no ?_ ?_
          · rw [if_pos rfl]
          · rw [yi2, bS, if_pos rfl]
        · rw [yi2, bS, if_neg (ni_ne1 (by omega))]
          dsimp only
          rw [if_neg (show ¬ (1 : Int32) = 0 by decide)]
          by_cases x1 : x < 1
          · exact no (by rw [if_pos x1]) (by rw [if_pos x1])
          rw [if_neg x1, if_neg x1]
          by_cases x2 : (366 : Int32) < x
          · exact no (by rw [if_pos x2]) (by rw [if_neg (fun c => by rw [Int32.lt_iff_toInt_lt] at x2; rw [Int32.le_iff_toInt_le] at c; omega)])
          rw [if_neg x2, if_pos (by rw [Int32.lt_iff_toInt_lt] at x2; rw [Int32.le_iff_toInt_le]; omega)]
          simp only [e2]
          rw [show (8 : Int32) * ni k + ni m = ni (8 * k + m) by rw [show ((8 : Int32) * ni k) = ni (8 * k) from ni_mul _ _, ni_add], ny_sub]
          simp (disch := omega) only [gdT, ni_inb, ni_tn]
          rw [show gi (si (si (si B 225 (8 * k + m) (ni a)) 226 (8 * k + m) (ni y)) 227 (8 * k + m) x) 224 k = ni m by simp (disch := omega) only [gi_si, if_pos, if_neg, if_true, if_false, and_self, and_true, true_and, and_false, false_and, ite_self]; exact e2]
          rw [show ni m + 1 = ni (m + 1) from ni_add m 1, gi_si, if_pos ⟨rfl, rfl⟩]
          have cA : ∀ a', (a' < q ∨ q + 5 ≤ a') → Sm a' A (si (si (si (si A (q + 1) m (ni a)) (q + 2) m (ni y)) (q + 3) m x) q 2 (ni (m + 1))) := fun a' hh => (((sm_si (by omega)).trans (sm_si (by omega))).trans (sm_si (by omega))).trans (sm_si (by omega))
          have cB : ∀ c, c ≠ 224 → c ≠ 225 → c ≠ 226 → c ≠ 227 → Sm c B (si (si (si (si B 225 (8 * k + m) (ni a)) 226 (8 * k + m) (ni y)) 227 (8 * k + m) x) 224 k (ni (m + 1))) := fun c q1 q2 q3 q4 => (((sm_si q2).trans (sm_si q3)).trans (sm_si q4)).trans (sm_si q1)
          have kS : ∀ s, Shs A s → KpS s A (si (si (si (si A (q + 1) m (ni a)) (q + 2) m (ni y)) (q + 3) m x) q 2 (ni (m + 1))) := by
            intro s hs a' ha1 ha2
            have := p5 k q s hk hq hs
            exact cA a' (by omega)
          refine ⟨_, _, _, rfl, rfl, ?_, ?_, ?_, Nat.le_add_right _ _, Nat.le_add_right _ _⟩
          · refine sim_of h0 ((((h1.kc kc_si).kc kc_si).kc kc_si).kc kc_si) (h2.kg ⟨rfl, rfl, rfl⟩) (Nat.le_refl _) (fun a' g1 g2 => cA a' (by omega)) kS (cA 6 (by omega)).j (fun c g1 g2 => cB c (by omega) (by omega) (by omega) (by omega)) (by rw [(cB 181 (by omega) (by omega) (by omega) (by omega)).i]) (by rw [(cB 181 (by omega) (by omega) (by omega) (by omega)).i]) (by rw [(cB 181 (by omega) (by omega) (by omega) (by omega)).i]) ?_ ?_ (smSt_mono h12 (by rw [(cA 144 (by omega)).i]) (cA 179 (by omega)).i (by rw [(cB 181 (by omega) (by omega) (by omega) (by omega)).i]) (cB _ (by omega) (by omega) (by omega) (by omega)).i) ?_ ?_
            · unfold SmTp at h3 ⊢; rw [(cA 1 (by omega)).i, (cA 2 (by omega)).i, (cB 181 (by omega) (by omega) (by omega) (by omega)).i, (cB 182 (by omega) (by omega) (by omega) (by omega)).i]; exact h3
            · unfold SmFt at h5 ⊢; rw [(cA 7 (by omega)).i, (cB 181 (by omega) (by omega) (by omega) (by omega)).i]; exact h5
            · refine ⟨n, p0, by rw [(cA 0 (by omega)).i]; exact p1, by rw [(cB 181 (by omega) (by omega) (by omega) (by omega)).i]; exact p2, fun v hv => ?_, ?_, ?_, ?_⟩
              · by_cases e : v = k
                · subst e
                  refine ⟨q, by rw [(cA 180 (by omega)).r]; exact hq, ⟨q0, q1, k0, k1, k2, k3, k4⟩, ⟨l1, l2, l3, l4⟩, ⟨r3, r4, r5, r6⟩, ?_, m + 1, b, by omega, by omega, ?_, ?_, ?_, ?_, ?_, ?_, ?_⟩
                  · simp (disch := omega) only [gi_si, if_pos, if_neg, if_true, if_false, and_self, and_true, true_and, and_false, false_and, ite_self]; exact e0
                  · simp (disch := omega) only [gi_si, if_pos, if_neg, if_true, if_false, and_self, and_true, true_and, and_false, false_and, ite_self]
                  · simp (disch := omega) only [gi_si, if_pos, if_neg, if_true, if_false, and_self, and_true, true_and, and_false, false_and, ite_self]
                  · simp (disch := omega) only [gi_si, if_pos, if_neg, if_true, if_false, and_self, and_true, true_and, and_false, false_and, ite_self]; exact e3
                  · rw [(sm_si (a := 228) (by omega)).i, (sm_si (a := 228) (by omega)).i, (sm_si (a := 228) (by omega)).i, (sm_si (a := 228) (by omega)).i]; exact e4
                  · intro i hi
                    by_cases ei : i = m
                    · subst ei
                      refine ⟨?_, ?_, ?_, y, hy, ?_⟩ <;> simp (disch := omega) only [gi_si, if_pos, if_neg, if_true, if_false, and_self, and_true, true_and, and_false, false_and, ite_self]
                    · have := e5 i (by omega)
                      simp (disch := omega) only [gi_si, if_pos, if_neg, if_true, if_false, and_self, and_true, true_and, and_false, false_and, ite_self]
                      exact this
                  · exact e6
                  · exact e7
                · obtain ⟨p, hp, hv2⟩ := p3 v hv
                  refine ⟨p, by rw [(cA 180 (by omega)).r]; exact hp, ?_⟩
                  have d : p + 5 ≤ q ∨ q + 5 ≤ p := by
                    rcases Nat.lt_or_gt_of_ne e with e | e
                    · exact Or.inl (p4 v k p q e hk hp hq)
                    · exact Or.inr (p4 k v q p e hv hq hp)
                  have hv3 := vyR_cg (A' := si (si (si (si A (q + 1) m (ni a)) (q + 2) m (ni y)) (q + 3) m x) q 2 (ni (m + 1))) (B' := B) hv2 (Nat.le_refl _) (fun a' g1 g2 => cA a' (by omega)) (fun _ _ _ => Sm.rf)
                  obtain ⟨z1, z2, z3, z4, m', b', z5, z6, z7, z8, z9, z10, z11, z12⟩ := hv3
                  refine ⟨z1, z2, z3, ?_, m', b', z5, z6, z7, ?_, z9, ?_, ?_, z12⟩
                  · rw [(cB 222 (by omega) (by omega) (by omega) (by omega)).i, (cB 223 (by omega) (by omega) (by omega) (by omega)).i]; exact z4
                  · rw [si_ff e]; simp (disch := omega) only [gi_si, if_pos, if_neg, if_true, if_false, and_self, and_true, true_and, and_false, false_and, ite_self]; exact z8
                  · rw [(cB 228 (by omega) (by omega) (by omega) (by omega)).i]; exact z10
                  · intro i hi
                    have z := z11 i hi
                    rw [show gi (si (si (si (si B 225 (8 * k + m) (ni a)) 226 (8 * k + m) (ni y)) 227 (8 * k + m) x) 224 k (ni (m + 1))) 225 (8 * v + i) = gi B 225 (8 * v + i) by simp (disch := omega) only [gi_si, if_pos, if_neg, if_true, if_false, and_self, and_true, true_and, and_false, false_and, ite_self],
                      show gi (si (si (si (si B 225 (8 * k + m) (ni a)) 226 (8 * k + m) (ni y)) 227 (8 * k + m) x) 224 k (ni (m + 1))) 226 (8 * v + i) = gi B 226 (8 * v + i) by simp (disch := omega) only [gi_si, if_pos, if_neg, if_true, if_false, and_self, and_true, true_and, and_false, false_and, ite_self],
                      show gi (si (si (si (si B 225 (8 * k + m) (ni a)) 226 (8 * k + m) (ni y)) 227 (8 * k + m) x) 224 k (ni (m + 1))) 227 (8 * v + i) = gi B 227 (8 * v + i) by simp (disch := omega) only [gi_si, if_pos, if_neg, if_true, if_false, and_self, and_true, true_and, and_false, false_and, ite_self]]
                    exact z
              · rw [(cA 180 (by omega)).r]; exact p4
              · rw [(cA 180 (by omega)).r]
                rintro v q s hv hq ⟨z, hz, hs⟩
                rw [(cA 19 (by omega)).r, (cA (21 + 4 * z) (by omega)).r] at hs
                exact p5 v q s hv hq ⟨z, hz, hs⟩
              · intro v v1 v2
                rw [si_ff (by omega)]; simp (disch := omega) only [gi_si, if_pos, if_neg, if_true, if_false, and_self, and_true, true_and, and_false, false_and, ite_self]; exact p6 v v1 v2
            · unfold SmBk at h14 ⊢
              rw [(cA 0 (by omega)).i, (cB 181 (by omega) (by omega) (by omega) (by omega)).i]; exact h14
          · intro a' g1 g2; exact cA a' (by omega)
          · exact KCl.trans (KCl.trans (KCl.trans kcl_si kcl_si) kcl_si) kcl_si
      · refine no ?_ ?_
        · by_cases u0 : u < 0
          · rw [if_pos u0]
          · rw [if_neg u0, if_pos]
            rcases i_cases u with c | ⟨i, hi, rfl⟩
            · exact absurd c u0
            · rcases hu with c | c
              · exact absurd c u0
              · exact (ni_lt (a := 99) (by omega) hi).mpr (by have := (ni_le (by omega) hi).mp c; omega)
        · rw [show (100 : Int32) = ni 100 from rfl, iI_no (by omega) hu, bS, if_pos rfl]
    · rw [if_neg h8, if_pos (show ni m = 8 by rw [show m = 8 by omega]; rfl)]
      exact no (by simp only [ite_self]) rfl
