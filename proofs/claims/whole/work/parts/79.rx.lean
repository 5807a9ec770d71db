-- ===== a new sheet =====
theorem sm_cpI {M : Mem} {q0 q1 n a : Nat} (h : a ≠ q1) : Sm a M (cpI M q0 q1 0 0 n) := by
  refine ⟨rfl, rfl, ?_, rfl, rfl⟩
  funext j; rw [gi_cpI, if_neg (fun e => h e.1)]
theorem sm_cpL {M : Mem} {q0 q1 n a : Nat} (h : a ≠ q1) : Sm a M (cpL M q0 q1 0 0 n) := by
  refine ⟨rfl, rfl, rfl, ?_, rfl⟩
  funext j; rw [gl_cpL, if_neg (fun e => h e.1)]
theorem Sm.to {a : Nat} {A B C : Mem} (h : Sm a A B) (g : Sm a A C) : Sm a B C := ⟨g.1.trans h.1.symm, g.2.1.trans h.2.1.symm, g.2.2.1.trans h.2.2.1.symm, g.2.2.2.1.trans h.2.2.2.1.symm, g.2.2.2.2.trans h.2.2.2.2.symm⟩
theorem copyOfI {M : Mem} {q n l : Nat} (hk : kd M q = 20) (hl : ln M q = l) (hn : n ≤ l) (hl2 : l ≤ 2000) (hq : q ≠ nc M) : ∃ M', L_J7_copyOf_59c91 (some q) (ni n) M = some (some (nc M), M') ∧ nc M' = nc M + 1 ∧ ns M' = ns M + n ∧ (∀ a, a ≠ nc M → Sm a M M') ∧ kd M' (nc M) = 20 ∧ ln M' (nc M) = n ∧ ∀ j, j < n → gi M' (nc M) j = gi M q j := by
  have k2 : kd (nw M 20 n n) q = 20 := by rw [kd_nw, if_neg hq]; exact hk
  have l2 : ln (nw M 20 n n) q = l := by rw [ln_nw, if_neg hq]; exact hl
  unfold L_J7_copyOf_59c91
  rw [bi_aN hk (by omega) (by omega) hl]
  show ∃ M', (if ¬ ni n = ni l then _ else _) = _ ∧ _
  by_cases e : n = l
  · subst e
    rw [if_neg (fun q => q rfl)]
    unfold dupeI; dsimp only
    rw [if_pos hk, bS, hl]
    refine ⟨_, rfl, rfl, rfl, fun a ha => (sm_nw ha).trans (sm_cpI ha), ?_, ?_, fun j hj => ?_⟩
    · show kd (nw M 20 n n) (nc M) = 20
      rw [kd_nw, if_pos rfl]
    · show ln (nw M 20 n n) (nc M) = n
      rw [ln_nw, if_pos rfl]
    · rw [gi_cpI, if_pos ⟨rfl, by omega, by omega⟩, gi_nw, if_neg hq]; congr 1; omega
  · rw [if_pos (fun q => e ((ni_inj (by omega) (by omega)).mp q)), bi_nA (by omega), bi_aN k2 (by omega) (by omega) l2]
    show ∃ M', ((cpyI _ _ _ _ _ (if ni n < ni l then ni n else ni l)).bind _) = _ ∧ _
    rw [if_pos ((ni_lt (by omega) (by omega)).mpr (by omega))]
    unfold cpyI; dsimp only
    rw [if_pos ⟨k2, by rw [kd_nw, if_pos rfl], by decide, by decide, ni_n0 (by omega), by rw [ni_tn (by omega), l2]; show 0 + n ≤ l; omega, by rw [ni_tn (by omega), ln_nw, if_pos rfl]; show 0 + n ≤ n; omega⟩, bS, ni_tn (by omega)]
    refine ⟨_, rfl, rfl, rfl, fun a ha => (sm_nw ha).trans (sm_cpI ha), ?_, ?_, fun j hj => ?_⟩
    · show kd (nw M 20 n n) (nc M) = 20
      rw [kd_nw, if_pos rfl]
    · show ln (nw M 20 n n) (nc M) = n
      rw [ln_nw, if_pos rfl]
    · show gi (cpI (nw M 20 n n) q (nc M) 0 0 n) (nc M) j = _
      rw [gi_cpI, if_pos ⟨rfl, by omega, by omega⟩, gi_nw, if_neg hq]; congr 1; omega
theorem cpR_I {M : Mem} {q n l s f : Nat} (hk : kd M q = 20) (hl : ln M q = l) (hn : n ≤ l) (hl2 : l ≤ 2000) (hq : q ≠ nc M) (hs : s ≠ nc M) (h6 : kd M s = 6) : ∃ M', (∀ {α : Type} (K : Mem → Option α), ((L_J7_copyOf_59c91 (some q) (ni n) M).bind fun w => (pR w.2 6 f (some s) w.1).bind K) = K M') ∧ nc M' = nc M + 1 ∧ ns M' = ns M + n ∧ (∀ a, a ≠ nc M → a ≠ s → Sm a M M') ∧ (kd M' s = 6 ∧ gi M' s = gi M s ∧ ∀ j, gr M' s j = if j = f then some (nc M) else gr M s j) ∧ kd M' (nc M) = 20 ∧ ln M' (nc M) = n ∧ ∀ j, j < n → gi M' (nc M) j = gi M q j := by
  obtain ⟨M1, a1, a2, a3, a4, a5, a6, a7⟩ := copyOfI hk hl hn hl2 hq
  have k1 : kd M1 s = 6 := (a4 s hs).k.trans h6
  refine ⟨sr M1 s f (some (nc M)), fun K => by rw [a1, bS]; dsimp only; rw [bi_pR k1], a2, a3, fun a b1 b2 => (a4 a b1).trans (sm_sr b2), ⟨k1, (a4 s hs).i, fun j => ?_⟩, ?_, ?_, fun j hj => ?_⟩
  · rw [gr_sr, (a4 s hs).r]
    by_cases e : j = f
    · rw [if_pos ⟨rfl, e⟩, if_pos e]
    · rw [if_neg (fun z => e z.2), if_neg e]
  · exact a5
  · exact a6
  · exact a7 j hj
theorem copyOfL {M : Mem} {q n l : Nat} (hk : kd M q = 21) (hl : ln M q = l) (hn : n ≤ l) (hl2 : l ≤ 2000) (hq : q ≠ nc M) : ∃ M', L_J7_copyOf_c38d5 (some q) (ni n) M = some (some (nc M), M') ∧ nc M' = nc M + 1 ∧ ns M' = ns M + n ∧ (∀ a, a ≠ nc M → Sm a M M') ∧ kd M' (nc M) = 21 ∧ ln M' (nc M) = n ∧ ∀ j, j < n → gl M' (nc M) j = gl M q j := by
  have k2 : kd (nw M 21 n n) q = 21 := by rw [kd_nw, if_neg hq]; exact hk
  have l2 : ln (nw M 21 n n) q = l := by rw [ln_nw, if_neg hq]; exact hl
  unfold L_J7_copyOf_c38d5
  rw [bi_aN hk (by omega) (by omega) hl]
  show ∃ M', (if ¬ ni n = ni l then _ else _) = _ ∧ _
  by_cases e : n = l
  · subst e
    rw [if_neg (fun q => q rfl)]
    unfold dupeL; dsimp only
    rw [if_pos hk, bS, hl]
    refine ⟨_, rfl, rfl, rfl, fun a ha => (sm_nw ha).trans (sm_cpL ha), ?_, ?_, fun j hj => ?_⟩
    · show kd (nw M 21 n n) (nc M) = 21
      rw [kd_nw, if_pos rfl]
    · show ln (nw M 21 n n) (nc M) = n
      rw [ln_nw, if_pos rfl]
    · rw [gl_cpL, if_pos ⟨rfl, by omega, by omega⟩, gl_nw, if_neg hq]; congr 1; omega
  · rw [if_pos (fun q => e ((ni_inj (by omega) (by omega)).mp q)), bi_nA (by omega), bi_aN k2 (by omega) (by omega) l2]
    show ∃ M', ((cpyL _ _ _ _ _ (if ni n < ni l then ni n else ni l)).bind _) = _ ∧ _
    rw [if_pos ((ni_lt (by omega) (by omega)).mpr (by omega))]
    unfold cpyL; dsimp only
    rw [if_pos ⟨k2, by rw [kd_nw, if_pos rfl], by decide, by decide, ni_n0 (by omega), by rw [ni_tn (by omega), l2]; show 0 + n ≤ l; omega, by rw [ni_tn (by omega), ln_nw, if_pos rfl]; show 0 + n ≤ n; omega⟩, bS, ni_tn (by omega)]
    refine ⟨_, rfl, rfl, rfl, fun a ha => (sm_nw ha).trans (sm_cpL ha), ?_, ?_, fun j hj => ?_⟩
    · show kd (nw M 21 n n) (nc M) = 21
      rw [kd_nw, if_pos rfl]
    · show ln (nw M 21 n n) (nc M) = n
      rw [ln_nw, if_pos rfl]
    · show gl (cpL (nw M 21 n n) q (nc M) 0 0 n) (nc M) j = _
      rw [gl_cpL, if_pos ⟨rfl, by omega, by omega⟩, gl_nw, if_neg hq]; congr 1; omega
theorem cpR_L {M : Mem} {q n l s f : Nat} (hk : kd M q = 21) (hl : ln M q = l) (hn : n ≤ l) (hl2 : l ≤ 2000) (hq : q ≠ nc M) (hs : s ≠ nc M) (h6 : kd M s = 6) : ∃ M', (∀ {α : Type} (K : Mem → Option α), ((L_J7_copyOf_c38d5 (some q) (ni n) M).bind fun w => (pR w.2 6 f (some s) w.1).bind K) = K M') ∧ nc M' = nc M + 1 ∧ ns M' = ns M + n ∧ (∀ a, a ≠ nc M → a ≠ s → Sm a M M') ∧ (kd M' s = 6 ∧ gi M' s = gi M s ∧ ∀ j, gr M' s j = if j = f then some (nc M) else gr M s j) ∧ kd M' (nc M) = 21 ∧ ln M' (nc M) = n ∧ ∀ j, j < n → gl M' (nc M) j = gl M q j := by
  obtain ⟨M1, a1, a2, a3, a4, a5, a6, a7⟩ := copyOfL hk hl hn hl2 hq
  have k1 : kd M1 s = 6 := (a4 s hs).k.trans h6
  refine ⟨sr M1 s f (some (nc M)), fun K => by rw [a1, bS]; dsimp only; rw [bi_pR k1], a2, a3, fun a b1 b2 => (a4 a b1).trans (sm_sr b2), ⟨k1, (a4 s hs).i, fun j => ?_⟩, ?_, ?_, fun j hj => ?_⟩
  · rw [gr_sr, (a4 s hs).r]
    by_cases e : j = f
    · rw [if_pos ⟨rfl, e⟩, if_pos e]
    · rw [if_neg (fun z => e z.2), if_neg e]
  · exact a5
  · exact a6
  · exact a7 j hj
theorem sheet_init {A : Mem} {c k t y : Nat} (hF : FSC A) (hc : gi A 8 6 = ni c) (hc2 : c ≤ 1024) (hk : gi A 8 9 = ni k) (hk2 : k ≤ 8) (ht : gi A 8 12 = ni t) (ht2 : t ≤ 6) (hy : gi A 8 16 = ni y) (hy2 : y ≤ 40) :
    ∃ M, L_X6_init (some (nc A)) (some 8) (nw A 6 0 13) = some ((), M) ∧ nc M = nc A + 10 ∧ ns M = ns A + (13 + (c + c + k + k + t + t + y + y + y)) ∧ (∀ a, a < nc A → Sm a A M) ∧ ShO M (nc A) ∧ (gi M (nc A) 0 = gi A 8 0 ∧ gi M (nc A) 1 = gi A 8 1 ∧ gi M (nc A) 2 = gi A 8 2 ∧ gi M (nc A) 3 = gi A 8 3) ∧
    (ln M (nc A + 1) = c ∧ ln M (nc A + 3) = k ∧ ln M (nc A + 5) = t ∧ ln M (nc A + 7) = y) ∧
    (∀ j, j < c → gi M (nc A + 1) j = gi A 9 j ∧ gl M (nc A + 2) j = gl A 10 j) ∧ (∀ j, j < k → gl M (nc A + 3) j = gl A 11 j ∧ gi M (nc A + 4) j = gi A 12 j) ∧ (∀ j, j < t → gl M (nc A + 5) j = gl A 13 j ∧ gi M (nc A + 6) j = gi A 14 j) ∧ (∀ j, j < y → gi M (nc A + 7) j = gi A 15 j ∧ gi M (nc A + 8) j = gi A 16 j ∧ gi M (nc A + 9) j = gi A 17 j) := by
  have h231 : 231 ≤ nc A := hF.1
  have s0 : ∀ a, a ≠ nc A → Sm a A (si (si (si (si (nw A 6 0 13) (nc A) 0 (gi A 8 0)) (nc A) 1 (gi A 8 1)) (nc A) 2 (gi A 8 2)) (nc A) 3 (gi A 8 3)) := fun a ha => ((((sm_nw ha).trans (sm_si ha)).trans (sm_si ha)).trans (sm_si ha)).trans (sm_si ha)
  have c0 : nc (si (si (si (si (nw A 6 0 13) (nc A) 0 (gi A 8 0)) (nc A) 1 (gi A 8 1)) (nc A) 2 (gi A 8 2)) (nc A) 3 (gi A 8 3)) = nc A + 1 := rfl
  have z0 : ns (si (si (si (si (nw A 6 0 13) (nc A) 0 (gi A 8 0)) (nc A) 1 (gi A 8 1)) (nc A) 2 (gi A 8 2)) (nc A) 3 (gi A 8 3)) = ns A + 13 := rfl
  have k0 : kd (si (si (si (si (nw A 6 0 13) (nc A) 0 (gi A 8 0)) (nc A) 1 (gi A 8 1)) (nc A) 2 (gi A 8 2)) (nc A) 3 (gi A 8 3)) (nc A) = 6 := by
    show kd (nw A 6 0 13) (nc A) = 6
    rw [kd_nw, if_pos rfl]
  have g0 : gi (si (si (si (si (nw A 6 0 13) (nc A) 0 (gi A 8 0)) (nc A) 1 (gi A 8 1)) (nc A) 2 (gi A 8 2)) (nc A) 3 (gi A 8 3)) (nc A) 0 = gi A 8 0 ∧ gi (si (si (si (si (nw A 6 0 13) (nc A) 0 (gi A 8 0)) (nc A) 1 (gi A 8 1)) (nc A) 2 (gi A 8 2)) (nc A) 3 (gi A 8 3)) (nc A) 1 = gi A 8 1 ∧ gi (si (si (si (si (nw A 6 0 13) (nc A) 0 (gi A 8 0)) (nc A) 1 (gi A 8 1)) (nc A) 2 (gi A 8 2)) (nc A) 3 (gi A 8 3)) (nc A) 2 = gi A 8 2 ∧ gi (si (si (si (si (nw A 6 0 13) (nc A) 0 (gi A 8 0)) (nc A) 1 (gi A 8 1)) (nc A) 2 (gi A 8 2)) (nc A) 3 (gi A 8 3)) (nc A) 3 = gi A 8 3 := by
    refine ⟨?_, ?_, ?_, ?_⟩
    · rw [si_ff' (by omega), si_ff' (by omega), si_ff' (by omega), si_eq]
    · rw [si_ff' (by omega), si_ff' (by omega), si_eq]
    · rw [si_ff' (by omega), si_eq]
    · rw [si_eq]
  have d8 : ∀ {M : Mem} {j : Nat} {x : Int32}, kd M 8 = 0 → gi (si M (nc A) j x) 8 = gi M 8 := fun _ => gi_ne (by omega)
  have n8 : kd (nw A 6 0 13) 8 = 0 := by rw [kd_nw, if_neg (by omega)]; exact hF.hk 8
  have v8 : gi (nw A 6 0 13) 8 = gi A 8 := (sm_nw (by omega)).i
  have ns6 : kd (nw A 6 0 13) (nc A) = 6 := by rw [kd_nw, if_pos rfl]
  have e1 : gi (si (nw A 6 0 13) (nc A) 0 (gi A 8 0)) 8 1 = gi A 8 1 := by rw [gi_ne (by omega), v8]
  have e2 : gi (si (si (nw A 6 0 13) (nc A) 0 (gi A 8 0)) (nc A) 1 (gi A 8 1)) 8 2 = gi A 8 2 := by rw [gi_ne (by omega), gi_ne (by omega), v8]
  have e3 : gi (si (si (si (nw A 6 0 13) (nc A) 0 (gi A 8 0)) (nc A) 1 (gi A 8 1)) (nc A) 2 (gi A 8 2)) 8 3 = gi A 8 3 := by rw [gi_ne (by omega), gi_ne (by omega), gi_ne (by omega), v8]
  unfold L_X6_init
  rw [if_neg (by simp), bi_fI n8, v8, bi_pI ns6, bi_fI (by exact n8), e1, bi_pI (by exact ns6), bi_fI (by exact n8), e2, bi_pI (by exact ns6), bi_fI (by exact n8), e3, bi_pI (by exact ns6)]
  generalize si (si (si (si (nw A 6 0 13) (nc A) 0 (gi A 8 0)) (nc A) 1 (gi A 8 1)) (nc A) 2 (gi A 8 2)) (nc A) 3 (gi A 8 3) = M0 at *
  have u0 : ∀ a, a < nc A → Sm a A M0 := fun a ha => s0 a (by omega)
  obtain ⟨M1, E1, c1, z1, S1, k1, X1⟩ := cpR_I (M := M0) (q := 9) (n := c) (l := 1024) (s := nc A) (f := 4) ((u0 9 (by omega)).k.trans (hF.hk 9)) ((u0 9 (by omega)).l.trans (hF.hl 9)) hc2 (by omega) (by omega) (by omega) k0
  have u1 : ∀ a, a < nc A → Sm a A M1 := fun a ha => (u0 a ha).trans (S1 a (by omega) (by omega))
  rw [bi_fR (k := 0) ((u0 8 (by omega)).k.trans (hF.hk 8)) ((congrFun (u0 8 (by omega)).r 4).trans (hF.hg 8 4 9)), bi_fI (k := 0) ((u0 8 (by omega)).k.trans (hF.hk 8)), (congrFun (u0 8 (by omega)).i 6).trans hc, E1]
  obtain ⟨M2, E2, c2, z2, S2, k2, X2⟩ := cpR_L (M := M1) (q := 10) (n := c) (l := 1024) (s := nc A) (f := 5) ((u1 10 (by omega)).k.trans (hF.hk 10)) ((u1 10 (by omega)).l.trans (hF.hl 10)) hc2 (by omega) (by omega) (by omega) k1.1
  have u2 : ∀ a, a < nc A → Sm a A M2 := fun a ha => (u1 a ha).trans (S2 a (by omega) (by omega))
  rw [bi_fR (k := 0) ((u1 8 (by omega)).k.trans (hF.hk 8)) ((congrFun (u1 8 (by omega)).r 5).trans (hF.hg 8 5 10)), bi_fI (k := 0) ((u1 8 (by omega)).k.trans (hF.hk 8)), (congrFun (u1 8 (by omega)).i 6).trans hc, E2]
  obtain ⟨M3, E3, c3, z3, S3, k3, X3⟩ := cpR_L (M := M2) (q := 11) (n := k) (l := 8) (s := nc A) (f := 6) ((u2 11 (by omega)).k.trans (hF.hk 11)) ((u2 11 (by omega)).l.trans (hF.hl 11)) hk2 (by omega) (by omega) (by omega) k2.1
  have u3 : ∀ a, a < nc A → Sm a A M3 := fun a ha => (u2 a ha).trans (S3 a (by omega) (by omega))
  rw [bi_fR (k := 0) ((u2 8 (by omega)).k.trans (hF.hk 8)) ((congrFun (u2 8 (by omega)).r 7).trans (hF.hg 8 7 11)), bi_fI (k := 0) ((u2 8 (by omega)).k.trans (hF.hk 8)), (congrFun (u2 8 (by omega)).i 9).trans hk, E3]
  obtain ⟨M4, E4, c4, z4, S4, k4, X4⟩ := cpR_I (M := M3) (q := 12) (n := k) (l := 8) (s := nc A) (f := 7) ((u3 12 (by omega)).k.trans (hF.hk 12)) ((u3 12 (by omega)).l.trans (hF.hl 12)) hk2 (by omega) (by omega) (by omega) k3.1
  have u4 : ∀ a, a < nc A → Sm a A M4 := fun a ha => (u3 a ha).trans (S4 a (by omega) (by omega))
  rw [bi_fR (k := 0) ((u3 8 (by omega)).k.trans (hF.hk 8)) ((congrFun (u3 8 (by omega)).r 8).trans (hF.hg 8 8 12)), bi_fI (k := 0) ((u3 8 (by omega)).k.trans (hF.hk 8)), (congrFun (u3 8 (by omega)).i 9).trans hk, E4]
  obtain ⟨M5, E5, c5, z5, S5, k5, X5⟩ := cpR_L (M := M4) (q := 13) (n := t) (l := 6) (s := nc A) (f := 8) ((u4 13 (by omega)).k.trans (hF.hk 13)) ((u4 13 (by omega)).l.trans (hF.hl 13)) ht2 (by omega) (by omega) (by omega) k4.1
  have u5 : ∀ a, a < nc A → Sm a A M5 := fun a ha => (u4 a ha).trans (S5 a (by omega) (by omega))
  rw [bi_fR (k := 0) ((u4 8 (by omega)).k.trans (hF.hk 8)) ((congrFun (u4 8 (by omega)).r 10).trans (hF.hg 8 10 13)), bi_fI (k := 0) ((u4 8 (by omega)).k.trans (hF.hk 8)), (congrFun (u4 8 (by omega)).i 12).trans ht, E5]
  obtain ⟨M6, E6, c6, z6, S6, k6, X6⟩ := cpR_I (M := M5) (q := 14) (n := t) (l := 6) (s := nc A) (f := 9) ((u5 14 (by omega)).k.trans (hF.hk 14)) ((u5 14 (by omega)).l.trans (hF.hl 14)) ht2 (by omega) (by omega) (by omega) k5.1
  have u6 : ∀ a, a < nc A → Sm a A M6 := fun a ha => (u5 a ha).trans (S6 a (by omega) (by omega))
  rw [bi_fR (k := 0) ((u5 8 (by omega)).k.trans (hF.hk 8)) ((congrFun (u5 8 (by omega)).r 11).trans (hF.hg 8 11 14)), bi_fI (k := 0) ((u5 8 (by omega)).k.trans (hF.hk 8)), (congrFun (u5 8 (by omega)).i 12).trans ht, E6]
  obtain ⟨M7, E7, c7, z7, S7, k7, X7⟩ := cpR_I (M := M6) (q := 15) (n := y) (l := 40) (s := nc A) (f := 10) ((u6 15 (by omega)).k.trans (hF.hk 15)) ((u6 15 (by omega)).l.trans (hF.hl 15)) hy2 (by omega) (by omega) (by omega) k6.1
  have u7 : ∀ a, a < nc A → Sm a A M7 := fun a ha => (u6 a ha).trans (S7 a (by omega) (by omega))
  rw [bi_fR (k := 0) ((u6 8 (by omega)).k.trans (hF.hk 8)) ((congrFun (u6 8 (by omega)).r 13).trans (hF.hg 8 13 15)), bi_fI (k := 0) ((u6 8 (by omega)).k.trans (hF.hk 8)), (congrFun (u6 8 (by omega)).i 16).trans hy, E7]
  obtain ⟨M8, E8, c8, z8, S8, k8, X8⟩ := cpR_I (M := M7) (q := 16) (n := y) (l := 40) (s := nc A) (f := 11) ((u7 16 (by omega)).k.trans (hF.hk 16)) ((u7 16 (by omega)).l.trans (hF.hl 16)) hy2 (by omega) (by omega) (by omega) k7.1
  have u8 : ∀ a, a < nc A → Sm a A M8 := fun a ha => (u7 a ha).trans (S8 a (by omega) (by omega))
  rw [bi_fR (k := 0) ((u7 8 (by omega)).k.trans (hF.hk 8)) ((congrFun (u7 8 (by omega)).r 14).trans (hF.hg 8 14 16)), bi_fI (k := 0) ((u7 8 (by omega)).k.trans (hF.hk 8)), (congrFun (u7 8 (by omega)).i 16).trans hy, E8]
  obtain ⟨M9, E9, c9, z9, S9, k9, X9⟩ := cpR_I (M := M8) (q := 17) (n := y) (l := 40) (s := nc A) (f := 12) ((u8 17 (by omega)).k.trans (hF.hk 17)) ((u8 17 (by omega)).l.trans (hF.hl 17)) hy2 (by omega) (by omega) (by omega) k8.1
  have u9 : ∀ a, a < nc A → Sm a A M9 := fun a ha => (u8 a ha).trans (S9 a (by omega) (by omega))
  rw [bi_fR (k := 0) ((u8 8 (by omega)).k.trans (hF.hk 8)) ((congrFun (u8 8 (by omega)).r 15).trans (hF.hg 8 15 17)), bi_fI (k := 0) ((u8 8 (by omega)).k.trans (hF.hk 8)), (congrFun (u8 8 (by omega)).i 16).trans hy, E9]
  have T1 : Sm (nc A + 1) M1 M9 := (((((((S2 (nc A + 1) (by omega) (by omega)).trans (S3 (nc A + 1) (by omega) (by omega))).trans (S4 (nc A + 1) (by omega) (by omega))).trans (S5 (nc A + 1) (by omega) (by omega))).trans (S6 (nc A + 1) (by omega) (by omega))).trans (S7 (nc A + 1) (by omega) (by omega))).trans (S8 (nc A + 1) (by omega) (by omega))).trans (S9 (nc A + 1) (by omega) (by omega))
  rw [show nc M0 = nc A + 1 by omega] at X1 k1
  have T2 : Sm (nc A + 2) M2 M9 := ((((((S3 (nc A + 2) (by omega) (by omega)).trans (S4 (nc A + 2) (by omega) (by omega))).trans (S5 (nc A + 2) (by omega) (by omega))).trans (S6 (nc A + 2) (by omega) (by omega))).trans (S7 (nc A + 2) (by omega) (by omega))).trans (S8 (nc A + 2) (by omega) (by omega))).trans (S9 (nc A + 2) (by omega) (by omega))
  rw [show nc M1 = nc A + 2 by omega] at X2 k2
  have T3 : Sm (nc A + 3) M3 M9 := (((((S4 (nc A + 3) (by omega) (by omega)).trans (S5 (nc A + 3) (by omega) (by omega))).trans (S6 (nc A + 3) (by omega) (by omega))).trans (S7 (nc A + 3) (by omega) (by omega))).trans (S8 (nc A + 3) (by omega) (by omega))).trans (S9 (nc A + 3) (by omega) (by omega))
  rw [show nc M2 = nc A + 3 by omega] at X3 k3
  have T4 : Sm (nc A + 4) M4 M9 := ((((S5 (nc A + 4) (by omega) (by omega)).trans (S6 (nc A + 4) (by omega) (by omega))).trans (S7 (nc A + 4) (by omega) (by omega))).trans (S8 (nc A + 4) (by omega) (by omega))).trans (S9 (nc A + 4) (by omega) (by omega))
  rw [show nc M3 = nc A + 4 by omega] at X4 k4
  have T5 : Sm (nc A + 5) M5 M9 := (((S6 (nc A + 5) (by omega) (by omega)).trans (S7 (nc A + 5) (by omega) (by omega))).trans (S8 (nc A + 5) (by omega) (by omega))).trans (S9 (nc A + 5) (by omega) (by omega))
  rw [show nc M4 = nc A + 5 by omega] at X5 k5
  have T6 : Sm (nc A + 6) M6 M9 := ((S7 (nc A + 6) (by omega) (by omega)).trans (S8 (nc A + 6) (by omega) (by omega))).trans (S9 (nc A + 6) (by omega) (by omega))
  rw [show nc M5 = nc A + 6 by omega] at X6 k6
  have T7 : Sm (nc A + 7) M7 M9 := (S8 (nc A + 7) (by omega) (by omega)).trans (S9 (nc A + 7) (by omega) (by omega))
  rw [show nc M6 = nc A + 7 by omega] at X7 k7
  have T8 : Sm (nc A + 8) M8 M9 := S9 (nc A + 8) (by omega) (by omega)
  rw [show nc M7 = nc A + 8 by omega] at X8 k8
  have T9 : Sm (nc A + 9) M9 M9 := Sm.rf
  rw [show nc M8 = nc A + 9 by omega] at X9 k9
  refine ⟨M9, rfl, by omega, by omega, u9, ?_, ?_, ?_, ?_, ?_, ?_, ?_⟩
  · refine ⟨h231, by omega, k9.1, ⟨?_, ?_, ?_, ?_, ?_, ?_, ?_, ?_, ?_⟩, ⟨?_, ?_, ?_, ?_, ?_, ?_, ?_, ?_, ?_⟩, ?_, ?_, ?_, ?_, ?_⟩
    · rw [k9.2.2 4, if_neg (by omega), k8.2.2 4, if_neg (by omega), k7.2.2 4, if_neg (by omega), k6.2.2 4, if_neg (by omega), k5.2.2 4, if_neg (by omega), k4.2.2 4, if_neg (by omega), k3.2.2 4, if_neg (by omega), k2.2.2 4, if_neg (by omega), k1.2.2 4, if_pos rfl]
    · rw [k9.2.2 5, if_neg (by omega), k8.2.2 5, if_neg (by omega), k7.2.2 5, if_neg (by omega), k6.2.2 5, if_neg (by omega), k5.2.2 5, if_neg (by omega), k4.2.2 5, if_neg (by omega), k3.2.2 5, if_neg (by omega), k2.2.2 5, if_pos rfl]
    · rw [k9.2.2 6, if_neg (by omega), k8.2.2 6, if_neg (by omega), k7.2.2 6, if_neg (by omega), k6.2.2 6, if_neg (by omega), k5.2.2 6, if_neg (by omega), k4.2.2 6, if_neg (by omega), k3.2.2 6, if_pos rfl]
    · rw [k9.2.2 7, if_neg (by omega), k8.2.2 7, if_neg (by omega), k7.2.2 7, if_neg (by omega), k6.2.2 7, if_neg (by omega), k5.2.2 7, if_neg (by omega), k4.2.2 7, if_pos rfl]
    · rw [k9.2.2 8, if_neg (by omega), k8.2.2 8, if_neg (by omega), k7.2.2 8, if_neg (by omega), k6.2.2 8, if_neg (by omega), k5.2.2 8, if_pos rfl]
    · rw [k9.2.2 9, if_neg (by omega), k8.2.2 9, if_neg (by omega), k7.2.2 9, if_neg (by omega), k6.2.2 9, if_pos rfl]
    · rw [k9.2.2 10, if_neg (by omega), k8.2.2 10, if_neg (by omega), k7.2.2 10, if_pos rfl]
    · rw [k9.2.2 11, if_neg (by omega), k8.2.2 11, if_pos rfl]
    · rw [k9.2.2 12, if_pos rfl]
    · exact T1.k.trans X1.1
    · exact T2.k.trans X2.1
    · exact T3.k.trans X3.1
    · exact T4.k.trans X4.1
    · exact T5.k.trans X5.1
    · exact T6.k.trans X6.1
    · exact T7.k.trans X7.1
    · exact T8.k.trans X8.1
    · exact T9.k.trans X9.1
    · rw [T2.l, T1.l, X2.2.1, X1.2.1]
    · rw [T4.l, T3.l, X4.2.1, X3.2.1]
    · rw [T6.l, T5.l, X6.2.1, X5.2.1]
    · rw [T8.l, T7.l, X8.2.1, X7.2.1]
    · rw [T9.l, T7.l, X9.2.1, X7.2.1]
  · rw [k9.2.1, k8.2.1, k7.2.1, k6.2.1, k5.2.1, k4.2.1, k3.2.1, k2.2.1, k1.2.1]; exact g0
  · exact ⟨T1.l.trans X1.2.1, T3.l.trans X3.2.1, T5.l.trans X5.2.1, T7.l.trans X7.2.1⟩
  · exact fun j hj => ⟨(congrFun T1.i j).trans ((X1.2.2 j hj).trans (congrFun (u0 9 (by omega)).i j)), (congrFun T2.j j).trans ((X2.2.2 j hj).trans (congrFun (u1 10 (by omega)).j j))⟩
  · exact fun j hj => ⟨(congrFun T3.j j).trans ((X3.2.2 j hj).trans (congrFun (u2 11 (by omega)).j j)), (congrFun T4.i j).trans ((X4.2.2 j hj).trans (congrFun (u3 12 (by omega)).i j))⟩
  · exact fun j hj => ⟨(congrFun T5.j j).trans ((X5.2.2 j hj).trans (congrFun (u4 13 (by omega)).j j)), (congrFun T6.i j).trans ((X6.2.2 j hj).trans (congrFun (u5 14 (by omega)).i j))⟩
  · exact fun j hj => ⟨(congrFun T7.i j).trans ((X7.2.2 j hj).trans (congrFun (u6 15 (by omega)).i j)), (congrFun T8.i j).trans ((X8.2.2 j hj).trans (congrFun (u7 16 (by omega)).i j)), (congrFun T9.i j).trans ((X9.2.2 j hj).trans (congrFun (u8 17 (by omega)).i j))⟩
