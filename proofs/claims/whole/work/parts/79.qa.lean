-- needs: 74.sclsb 75.num 76.rel 77.cong 78.sim
-- ===== calls that ask =====
theorem toInt64_toInt (v : Int32) : v.toInt64.toInt = v.toInt := Int32.toInt_toInt64 v
theorem yI_no {v : Int32} {M : Mem} (h : v < 1700 ∨ 1730 ≤ v) : L_X10_yearIndex v.toInt64 M = some (-1, M) := by
  unfold L_X10_yearIndex
  by_cases h1 : v.toInt64 < (1700 : Int64)
  · rw [if_pos h1]
  · rw [if_neg h1, if_pos]
    rcases h with h | h
    · refine absurd ?_ h1
      rw [Int64.lt_iff_toInt_lt, toInt64_toInt]; rw [Int32.lt_iff_toInt_lt] at h; exact h
    · rw [Int64.le_iff_toInt_le, toInt64_toInt]; rw [Int32.le_iff_toInt_le] at h; exact h
theorem ny_sub {y : Nat} : ni (1700 + y) - 1700 = ni y := (ni_sub (a := 1700 + y) (b := 1700) (by omega)).trans (by rw [show 1700 + y - 1700 = y by omega])
theorem ny_sub30 {y : Nat} : (30 : Int32) + ni (1700 + y) - 1700 = ni (30 + y) := by
  rw [show ((30 : Int32) + ni (1700 + y)) = ni (30 + (1700 + y)) from ni_add _ _]
  exact (ni_sub (a := 30 + (1700 + y)) (b := 1700) (by omega)).trans (by rw [show 30 + (1700 + y) - 1700 = 30 + y by omega])
theorem yI_yes {y : Nat} {M : Mem} (h : y < 30) : L_X10_yearIndex (ni (1700 + y)).toInt64 M = some (ni y, M) := by
  unfold L_X10_yearIndex
  rw [ni_l (by omega), if_neg, if_neg, nl_i, ny_sub]
  · intro e; have := (nl_le (a := 1730) (by omega) (by omega)).mp e; omega
  · intro e; have := (nl_lt (b := 1700) (by omega) (by omega)).mp e; omega
theorem iY_no {v : Int32} {M : Mem} (h : v < 1700 ∨ 1730 ≤ v) : L_X11_isYear v M = some (0, M) := by
  unfold L_X11_isYear
  by_cases h1 : v < 1700
  · rw [if_pos h1]; rfl
  · rw [if_neg h1, if_pos (by rcases h with h | h; exact absurd h h1; exact h)]; rfl
theorem iY_yes {y : Nat} {M : Mem} (h : y < 30) : L_X11_isYear (ni (1700 + y)) M = some (1, M) := by
  unfold L_X11_isYear
  rw [if_neg, if_neg]
  · rfl
  · intro e; have := (ni_le (a := 1730) (by omega) (by omega)).mp e; omega
  · intro e; have := (ni_lt (b := 1700) (by omega) (by omega)).mp e; omega
theorem iI_yes {v n : Nat} {M : Mem} (h : v < n) (hn : n < 2147483648) : L_X11_isIn (ni v) (ni n) M = some (1, M) := by
  unfold L_X11_isIn
  rw [if_neg (ni_n0 (by omega)), if_neg]
  · rfl
  · intro e; have := (ni_le hn (by omega)).mp e; omega
theorem iI_no {v : Int32} {n : Nat} {M : Mem} (hn : n < 2147483648) (h : v < 0 ∨ ni n ≤ v) : L_X11_isIn v (ni n) M = some (0, M) := by
  unfold L_X11_isIn
  by_cases h1 : v < 0
  · rw [if_pos h1]; rfl
  · rw [if_neg h1, if_pos (by rcases h with h | h; exact absurd h h1; exact h)]; rfl
/-- inside of 0 .. n-1 or not -/
theorem in_cases (v : Int32) {n : Nat} (hn : n < 2147483648) : (∃ k, k < n ∧ v = ni k) ∨ (v < 0 ∨ ni n ≤ v) := by
  rcases i_cases v with h | ⟨k, hk, rfl⟩
  · exact Or.inr (Or.inl h)
  · by_cases h : k < n
    · exact Or.inl ⟨k, h, rfl⟩
    · exact Or.inr (Or.inr ((ni_le hn hk).mpr (by omega)))
theorem cal_fault (v : Int32) : Cal (L_X10_fault (some 0) v) (L_X11_fault (some 181) v) := by
  refine cal_same fun N A B hN hs => ?_
  obtain ⟨h1, h2, h3, h4, h5, -⟩ := hs
  rw [eqS_X10_fault h1, eqS_X11_fault h2]
  unfold S_X10_fault S_X11_fault
  by_cases e0 : v = 0
  · rw [if_pos e0, if_neg (by simp [e0]), h5.1]; exact ⟨_, rfl, rfl⟩
  · rw [if_neg e0, if_pos e0]
    by_cases e1 : v = 1
    · rw [if_pos e1, if_neg (by simp [e1]), h5.2]; exact ⟨_, rfl, rfl⟩
    · rw [if_neg e1, if_pos e1]; exact ⟨_, rfl, rfl⟩
theorem cal_count (v : Int32) : Cal (L_X10_count (some 0) v) (L_X11_count (some 181) v) := by
  refine cal_same fun N A B hN hs => ?_
  obtain ⟨h1, h2, h3, h4, h5, h6, h7, h8, h9, h10, h11, h12, h13, h14, h15⟩ := hs
  rw [eqS_X10_count h1, eqS_X11_count h2]
  unfold S_X10_count S_X11_count
  obtain ⟨e, -, e1, e2, -⟩ := h9
  obtain ⟨s, -, s1, s2, -⟩ := h12
  obtain ⟨n, -, n1, n2, -⟩ := h13
  rw [e1, e2, s1, s2, n1, n2, h14.1, h14.2]
  by_cases e0 : v = 0
  · rw [if_pos e0, if_pos e0]; exact ⟨_, rfl, rfl⟩
  · rw [if_neg e0, if_neg e0]
    by_cases e1 : v = 1
    · rw [if_pos e1, if_pos e1]; exact ⟨_, rfl, rfl⟩
    · rw [if_neg e1, if_neg e1]
      by_cases e2 : v = 2
      · rw [if_pos e2, if_pos e2]; exact ⟨_, rfl, rfl⟩
      · rw [if_neg e2, if_neg e2]
        by_cases e3 : v = 3
        · rw [if_pos e3, if_pos e3]; exact ⟨_, rfl, rfl⟩
        · rw [if_neg e3, if_neg e3]
          by_cases e4 : v = 4
          · rw [if_pos e4, if_pos e4]; exact ⟨_, rfl, rfl⟩
          · rw [if_neg e4, if_neg e4]; exact ⟨_, rfl, rfl⟩
theorem cal_started (v : Int32) : Cal (L_X10_started (some 0) v) (L_X11_started (some 181) v) := by
  refine cal_same fun N A B hN hs => ?_
  obtain ⟨h1, h2, h3, h4, h5, h6, h7, h8, h9, h10, h11, h12, h13, h14, h15⟩ := hs
  rw [eqS_X10_started h1, eqS_X11_started h2]
  unfold S_X10_started S_X11_started SJ_X11_started_21
  obtain ⟨n, hn, s1, s2, s3⟩ := h12
  rw [s1, s2]
  rcases in_cases v (n := if 300 ≤ n then 300 else n) (by split <;> omega) with ⟨k, hk, rfl⟩ | h
  · have hk1 : k < 300 := by split at hk <;> omega
    have hk2 : k < n := by split at hk <;> omega
    obtain ⟨y, hy, y1, y2⟩ := s3 k hk2 hk1
    refine ⟨ni (1700 + y), ?_, ?_⟩
    · simp (disch := omega) only [lit, litl, ni_lt, ni_le, ni_inj, ni_tn, ni_inb, ni_n0, ni_add, ni_sub, ni_mul, ni_ne1, ni_ne1', m1_ne, m1_ne', ni_l, nl_i, nl_lt, nl_le, nl_inj, nl_add, nl_sub, nl_mul, nl_n0, if_pos, if_neg, gdT, bS, not_false_iff, if_true, if_false]
      rw [y1, ni_add]
    · by_cases hb : 300 ≤ n
      · simp (disch := omega) only [lit, litl, ni_lt, ni_le, ni_inj, ni_tn, ni_inb, ni_n0, ni_add, ni_sub, ni_mul, ni_ne1, ni_ne1', m1_ne, m1_ne', ni_l, nl_i, nl_lt, nl_le, nl_inj, nl_add, nl_sub, nl_mul, nl_n0, if_pos, if_neg, gdT, bS, not_false_iff, if_true, if_false]
        simp (disch := omega) only [iI_yes, bS, if_neg, lit, litl, ni_lt, ni_le, ni_inj, ni_tn, ni_inb, ni_n0, ni_add, ni_sub, ni_mul, ni_ne1, ni_ne1', m1_ne, m1_ne', ni_l, nl_i, nl_lt, nl_le, nl_inj, nl_add, nl_sub, nl_mul, nl_n0, gdT]
        rw [y2]
      · simp (disch := omega) only [lit, litl, ni_lt, ni_le, ni_inj, ni_tn, ni_inb, ni_n0, ni_add, ni_sub, ni_mul, ni_ne1, ni_ne1', m1_ne, m1_ne', ni_l, nl_i, nl_lt, nl_le, nl_inj, nl_add, nl_sub, nl_mul, nl_n0, if_pos, if_neg, gdT, bS, not_false_iff, if_true, if_false]
        simp (disch := omega) only [iI_yes, bS, if_neg, lit, litl, ni_lt, ni_le, ni_inj, ni_tn, ni_inb, ni_n0, ni_add, ni_sub, ni_mul, ni_ne1, ni_ne1', m1_ne, m1_ne', ni_l, nl_i, nl_lt, nl_le, nl_inj, nl_add, nl_sub, nl_mul, nl_n0, gdT]
        rw [y2]
  · refine ⟨-1, ?_, ?_⟩
    · rcases h with h | h
      · rw [if_pos h]
      · rcases i_cases v with q | ⟨k, hk, rfl⟩
        · rw [if_pos q]
        · have := (ni_le (by split <;> omega) hk).mp h
          by_cases hb : 300 ≤ n
          · rw [if_pos hb] at this
            simp (disch := omega) only [lit, litl, ni_lt, ni_le, ni_inj, ni_tn, ni_inb, ni_n0, ni_add, ni_sub, ni_mul, ni_ne1, ni_ne1', m1_ne, m1_ne', ni_l, nl_i, nl_lt, nl_le, nl_inj, nl_add, nl_sub, nl_mul, nl_n0, if_pos, if_neg, gdT, bS, not_false_iff, if_true, if_false]
          · rw [if_neg hb] at this
            by_cases hc : 300 ≤ k
            · simp (disch := omega) only [lit, litl, ni_lt, ni_le, ni_inj, ni_tn, ni_inb, ni_n0, ni_add, ni_sub, ni_mul, ni_ne1, ni_ne1', m1_ne, m1_ne', ni_l, nl_i, nl_lt, nl_le, nl_inj, nl_add, nl_sub, nl_mul, nl_n0, if_pos, if_neg, gdT, bS, not_false_iff, if_true, if_false]
            · simp (disch := omega) only [lit, litl, ni_lt, ni_le, ni_inj, ni_tn, ni_inb, ni_n0, ni_add, ni_sub, ni_mul, ni_ne1, ni_ne1', m1_ne, m1_ne', ni_l, nl_i, nl_lt, nl_le, nl_inj, nl_add, nl_sub, nl_mul, nl_n0, if_pos, if_neg, gdT, bS, not_false_iff, if_true, if_false]
    · by_cases hb : 300 ≤ n
      · rw [if_pos hb] at h
        rw [if_pos (show (300 : Int32) ≤ ni n from (ni_le (a := 300) (by omega) (by omega)).mpr hb)]
        rw [show (300 : Int32) = ni 300 from rfl, iI_no (by omega) h]; rfl
      · rw [if_neg hb] at h
        rw [if_neg (show ¬ (300 : Int32) ≤ ni n from fun e => hb ((ni_le (a := 300) (by omega) (by omega)).mp e))]
        rw [iI_no (by omega) h]; rfl
theorem ite01 {b : Bool} : ((if b then (1 : Int32) else 0) = 0) ↔ b = false := by cases b <;> decide
theorem ite01' {b : Bool} : ((if b then (1 : Int32) else 0) = 1) ↔ b = true := by cases b <;> decide
theorem cal_leans (v u : Int32) : Cal (L_X10_leans (some 0) v u) (L_X11_leans (some 181) v u) := by
  refine cal_same fun N A B hN hs => ?_
  obtain ⟨h1, h2, h3, h4, h5, h6, h7, h8, h9, h10, h11, h12, h13, h14, h15⟩ := hs
  rw [eqS_X10_leans h1, eqS_X11_leans h2]
  unfold S_X10_leans S_X11_leans
  rcases year_cases v with ⟨y, hy, rfl⟩ | hv
  · rcases year_cases u with ⟨x, hx, rfl⟩ | hu
    · simp (disch := omega) only [yI_yes, iY_yes, bS, ny_sub, bt_sshr, bt_ushr]
      rw [if_neg (ni_ne1 (by omega)), if_pos (ni_ne1 (by omega))]
      simp (disch := omega) only [gdT, ni_inb, ni_tn]
      have g := h6 y hy
      cases hr : gr A 19 y with
      | none =>
        rw [hr] at g; unfold ShR at g
        refine ⟨0, by simp, ?_⟩
        rw [g]; simp
      | some s =>
        rw [hr] at g
        unfold ShR at g; dsimp only at g
        obtain ⟨g1, g2, g3, -⟩ := g
        have e : gi A s 1 = gi B 196 y := g3.1.2
        rw [g1, if_neg (by simp), bi_fI g2.2.2.1, e]
        cases bt (gi B 196 y) x
        · exact ⟨0, by simp, by simp⟩
        · exact ⟨1, by simp, by simp⟩
    · refine ⟨0, ?_, ?_⟩
      · simp (disch := omega) only [yI_yes, yI_no hu, bS]
        rw [if_neg (ni_ne1 (by omega)), if_neg (by simp)]
      · simp (disch := omega) only [iY_yes, iY_no hu, bS]
        rw [if_neg (by decide)]; rfl
  · refine ⟨0, ?_, ?_⟩
    · rw [yI_no hv, bS]
      rcases year_cases u with ⟨x, hx, rfl⟩ | hu
      · rw [yI_yes hx, bS, if_pos rfl]
      · rw [yI_no hu, bS, if_pos rfl]
    · rw [iY_no hv, bS, if_pos rfl]
theorem cal_state (v u : Int32) : Cal (L_X10_state (some 0) v u) (L_X11_state (some 181) v u) := by
  refine cal_same fun N A B hN hs => ?_
  obtain ⟨h1, h2, h3, h4, h5, h6, h7, h8, h9, h10, h11, h12, h13, h14, h15⟩ := hs
  rw [eqS_X10_state h1, eqS_X11_state h2]
  unfold S_X10_state S_X11_state
  rcases year_cases v with ⟨y, hy, rfl⟩ | hv
  · obtain ⟨-, ⟨c1, c2, c3, c4⟩, -⟩ := h7 y hy
    obtain ⟨q1, -⟩ := h8.1 y hy
    rw [yI_yes hy, iY_yes hy, bS, bS]
    dsimp only
    rw [ny_sub]
    have gT1 : ∀ {α : Type} {z : Option α}, gd (inb (ni y) 30) z = z := fun {α z} => gdT ((ni_inb (by omega)).mpr hy)
    have gT2 : ∀ {α : Type} {z : Option α}, gd (inb (ni y) 60) z = z := fun {α z} => gdT ((ni_inb (by omega)).mpr (by omega))
    simp only [gT1, gT2]
    rw [ni_tn (by omega), if_pos (ni_ne1 (by omega)), if_pos (show ¬ (1 : Int32) = 0 by decide)]
    by_cases e0 : u = 0
    · rw [if_pos e0, if_pos e0, c1]; exact ⟨_, rfl, rfl⟩
    rw [if_neg e0, if_neg e0]
    by_cases e1 : u = 1
    · rw [if_pos e1, if_pos e1, c2]; exact ⟨_, rfl, rfl⟩
    rw [if_neg e1, if_neg e1]
    by_cases e2 : u = 2
    · rw [if_pos e2, if_pos e2, c3]; exact ⟨_, rfl, rfl⟩
    rw [if_neg e2, if_neg e2]
    by_cases e3 : u = 3
    · rw [if_pos e3, if_pos e3, c4]; exact ⟨_, rfl, rfl⟩
    rw [if_neg e3, if_neg e3]
    by_cases e7 : u = 7
    · subst e7
      rw [if_pos rfl, if_neg (by decide), if_neg (by decide), if_neg (by decide), if_pos rfl, q1, bt_ushr (by omega)]
      cases bt (gi A 18 2) y
      · exact ⟨0, rfl, rfl⟩
      · exact ⟨1, rfl, rfl⟩
    rw [if_neg e7, if_neg e7]
    unfold SJ_X10_state_108 L_X10_sheetState
    have g := h6 y hy
    rw [gT1, ni_tn (by omega)]
    cases hr : gr A 19 y with
    | none =>
      rw [hr] at g; unfold ShR at g; dsimp only at g
      rw [g]
      by_cases e4 : u = 4
      · subst e4; exact ⟨0, by simp, by simp⟩
      rw [if_neg e4, if_neg e4]
      by_cases e5 : u = 5
      · subst e5; exact ⟨0, by simp, by simp⟩
      rw [if_neg e5, if_neg e5]
      by_cases e6 : u = 6
      · subst e6; exact ⟨-1, by simp, by simp⟩
      rw [if_neg e6, if_neg e6]
      exact ⟨-1, rfl, rfl⟩
    | some s =>
      rw [hr] at g
      unfold ShR at g; dsimp only at g
      obtain ⟨g1, g2, g3, -, ⟨nC, gC, lC⟩, nT, gT, lT⟩ := g
      obtain ⟨-, -, ko, ⟨-, -, r6, -, r8, -⟩, ⟨-, -, k3, -, k5, -⟩, -⟩ := g2
      have eC : ln A (s + 3) = nC := by
        have : cNc (svC A s) = rNc (svR B y) := g3.2.2.1.1
        have e : ln A (s + 3) = tn (gi B 197 y) := this
        rw [e, gC]; exact ni_tn (by omega)
      have eT : ln A (s + 5) = nT := by
        have : cNt (svC A s) = rNt (svR B y) := g3.2.2.2.1.1
        have e : ln A (s + 5) = tn (gi B 200 y) := this
        rw [e, gT]; exact ni_tn (by omega)
      have eU : gi A s 0 = gi B 195 y := g3.1.1
      have hU : gi A s 0 = -1 ∨ ∃ k, k < 30 ∧ gi A s 0 = ni k := by
        obtain ⟨-, -, -, c0, c1, hu, -⟩ := g3.2.2.2.2
        rcases hu with ⟨hu, -⟩ | ⟨k, hk, -, -, hu, -⟩
        · exact Or.inl hu
        · exact Or.inr ⟨k, hk, hu⟩
      rw [g1]
      by_cases e4 : u = 4
      · subst e4
        rw [if_pos rfl, if_pos rfl, if_pos (by simp), bi_fR ko r6, bi_aN k3 (by decide) (by decide) eC, if_neg (by decide), gC]
        exact ⟨_, rfl, rfl⟩
      rw [if_neg e4, if_neg e4]
      by_cases e5 : u = 5
      · subst e5
        rw [if_pos rfl, if_pos rfl, if_pos (by simp), bi_fR ko r8, bi_aN k5 (by decide) (by decide) eT, if_neg (by decide), gT]
        exact ⟨_, rfl, rfl⟩
      rw [if_neg e5, if_neg e5]
      by_cases e6 : u = 6
      · subst e6
        rw [if_pos rfl, if_pos rfl, if_neg (by simp), bi_fI ko, bi_fI ko, if_neg (show ¬ (1 : Int32) = 0 by decide), ← eU]
        rcases hU with hU | ⟨k, hk, hU⟩
        · rw [hU]; exact ⟨-1, rfl, rfl⟩
        · rw [hU, if_pos (ni_ne1 (by omega)), if_neg (ni_n0 (by omega))]; exact ⟨_, rfl, rfl⟩
      rw [if_neg e6, if_neg e6]
      exact ⟨-1, rfl, rfl⟩
  · refine ⟨-1, ?_, ?_⟩
    · rw [yI_no hv, bS, if_neg (by simp)]
    · rw [iY_no hv, bS, if_neg (by simp)]
theorem ni_l' {a : Nat} (h : a < 2147483648) : Int32.toInt64 (ni a) = nl a := ni_l h
theorem neg_l {v : Int32} (h : v < 0) : v.toInt64 < 0 := by
  rw [Int32.lt_iff_toInt_lt] at h
  rw [Int64.lt_iff_toInt_lt, toInt64_toInt]; exact h
/-- has an entry, of a class there is -/
theorem hasE {A B : Mem} {y : Nat} (hF : FSC A) (hy : y < 30) {s : Nat} (hr : gr A (21 + 4 * y) 0 = some s) (g : ShR A B (some s) (30 + y) y) (v : Int32) (x : Int64) :
    (∃ k q j, k < ln A (s + 5) ∧ v = ni k ∧ gi B 202 (6 * (30 + y) + k) = ni q ∧ j < q ∧ q ≤ 12 ∧ x = nl j ∧ S_X8_hasEntry y v x A = some (1, A)) ∨
    (S_X8_hasEntry y v x A = some (0, A) ∧ (¬ (∃ k, k < ln A (s + 5) ∧ v = ni k) ∨ ∃ k q, k < ln A (s + 5) ∧ v = ni k ∧ gi B 202 (6 * (30 + y) + k) = ni q ∧ 1 ≤ q ∧ q ≤ 12 ∧ (x < 0 ∨ nl q ≤ x))) := by
  unfold ShR at g; dsimp only at g
  obtain ⟨g1, g2, g3, -, -, nT, gT, lT⟩ := g
  obtain ⟨-, -, ko, ⟨-, -, -, -, -, r9, -⟩, ⟨-, -, -, -, k5, k6, -⟩, ⟨-, -, l6, -⟩⟩ := g2
  obtain ⟨t1, t2, t3⟩ := g3.2.2.2.1
  have t2 : ln A (s + 5) ≤ 6 := t2
  have eT : ln A (s + 6) = ln A (s + 5) := l6
  unfold S_X8_hasEntry
  rw [hr, if_neg (by simp), bi_fR ko r9, bi_aN k6 (by decide) (by decide) eT, bi_fR ko r9]
  rcases in_cases v (n := ln A (s + 5)) (by omega) with ⟨k, hk, rfl⟩ | hv
  · obtain ⟨-, z1, q, q1, q2, z2⟩ := t3 k hk
    have z1 : gi A (s + 6) k = gi B 202 (6 * (30 + y) + k) := z1
    have z2 : gi A (s + 6) k = ni q := z2
    rw [if_neg (ni_n0 (by omega)), if_neg (fun e => by have := (ni_le (by omega) (by omega)).mp e; omega), bi_aI k6 eT, gdT ((ni_inb (by omega)).mpr hk), ni_tn (by omega), z2, ni_l (by omega)]
    rcases l_cases x with hx | ⟨j, hj, rfl⟩
    · refine Or.inr ⟨by rw [if_pos hx], Or.inr ⟨k, q, hk, rfl, by rw [← z1]; exact z2, q1, q2, Or.inl hx⟩⟩
    · rw [if_neg (nl_n0 hj)]
      by_cases hc : j < q
      · refine Or.inl ⟨k, q, j, hk, rfl, by rw [← z1]; exact z2, hc, q2, rfl, ?_⟩
        rw [if_neg (fun e => by have := (nl_le (by omega) hj).mp e; omega)]
      · refine Or.inr ⟨?_, Or.inr ⟨k, q, hk, rfl, by rw [← z1]; exact z2, q1, q2, Or.inr ((nl_le (by omega) hj).mpr (by omega))⟩⟩
        rw [if_pos ((nl_le (by omega) hj).mpr (by omega))]
  · refine Or.inr ⟨?_, Or.inl ?_⟩
    · by_cases h0 : v < 0
      · rw [if_pos h0]
      · rw [if_neg h0, if_pos]
        rcases hv with hv | hv
        · exact absurd hv h0
        · exact hv
    · rintro ⟨k, hk, rfl⟩
      rcases hv with hv | hv
      · exact ni_n0 (by omega) hv
      · have := (ni_le (by omega) (by omega)).mp hv; omega
theorem cal_entry (v u x : Int32) : Cal (L_X10_entry (some 0) v u x) (L_X11_entry (some 181) v u x) := by
  refine cal_same fun N A B hN hs => ?_
  obtain ⟨h1, h2, h3, h4, h5, h6, h7, h8, h9, h10, h11, h12, h13, h14, h15⟩ := hs
  rw [eqS_X10_entry h1, eqS_X11_entry h2]
  unfold S_X10_entry S_X11_entry
  rcases year_cases v with ⟨y, hy, rfl⟩ | hv
  · obtain ⟨g, -, ce, -⟩ := h7 y hy
    simp (disch := omega) only [yI_yes, iY_yes, bS, ny_sub, ny_sub30, gdT, ni_inb, ni_tn]
    rw [if_neg (ni_ne1 (by omega)), if_neg (by decide)]
    cases hr : gr A (21 + 4 * y) 0 with
    | none =>
      rw [hr] at g
      unfold ShR at g; dsimp only at g
      refine ⟨-2000000000000000, ?_, ?_⟩
      · unfold S_X8_hasEntry; rw [hr]; simp
      · rw [g]; simp
    | some s =>
      rw [hr] at g
      have hE := hasE h1 hy hr g u x.toInt64
      unfold ShR at g; dsimp only at g
      obtain ⟨g1, g2, g3, -, -, nT, gT, lT⟩ := g
      have eT : ln A (s + 5) = nT := by
        have : cNt (svC A s) = rNt (svR B (30 + y)) := g3.2.2.2.1.1
        have e : ln A (s + 5) = tn (gi B 200 (30 + y)) := this
        rw [e, gT]; exact ni_tn (by omega)
      rw [g1, if_pos (by decide), gT]
      rw [eT] at hE
      rcases hE with ⟨k, q, j, hk, rfl, hq, hj, hq2, hx, e⟩ | ⟨e, hE⟩
      · have hx : x = ni j := by
          apply Int32.toInt_inj.mp
          rw [← toInt64_toInt, hx, nl_toInt (by omega), ni_toInt (by omega)]
        subst hx
        refine ⟨gl A (24 + 4 * y) (12 * k + j), ?_, ?_⟩
        · rw [e]
          rw [show ni k * 12 + ni j = ni (12 * k + j) by rw [show (ni k * 12) = ni (k * 12) from ni_mul _ _, ni_add, Nat.mul_comm]]
          simp (disch := omega) only [bS, gdT, ni_inb, ni_tn]
          rw [if_pos (by decide)]
        · rw [iI_yes hk (by omega)]
          simp only [bS]
          rw [if_neg (by decide)]
          rw [show (6 : Int32) * ni (30 + y) + ni k = ni (6 * (30 + y) + k) by rw [show ((6 : Int32) * ni (30 + y)) = ni (6 * (30 + y)) from ni_mul _ _, ni_add]]
          simp (disch := omega) only [gdT, ni_inb, ni_tn]
          rw [hq, iI_yes hj (by omega)]
          simp only [bS]
          rw [if_pos (by decide)]
          rw [show (72 : Int32) * ni y + 12 * ni k + ni j = ni (72 * y + (12 * k + j)) by rw [show ((72 : Int32) * ni y) = ni (72 * y) from ni_mul _ _, show ((12 : Int32) * ni k) = ni (12 * k) from ni_mul _ _, ni_add, ni_add, Nat.add_assoc]]
          simp (disch := omega) only [gdT, ni_inb, ni_tn]
          rw [ce (12 * k + j) (by omega)]
      · refine ⟨-2000000000000000, ?_, ?_⟩
        · rw [e]; simp only [bS]; rw [if_neg (by decide)]
        · rcases hE with hE | ⟨k, q, hk, rfl, hq, q1, q2, hx⟩
          · rw [iI_no (by omega)]
            · rfl
            · rcases in_cases u (n := nT) (by omega) with hh | hh
              · exact absurd hh hE
              · exact hh
          · rw [iI_yes hk (by omega)]
            simp only [bS]
            rw [if_neg (by decide)]
            rw [show (6 : Int32) * ni (30 + y) + ni k = ni (6 * (30 + y) + k) by rw [show ((6 : Int32) * ni (30 + y)) = ni (6 * (30 + y)) from ni_mul _ _, ni_add]]
            simp (disch := omega) only [gdT, ni_inb, ni_tn]
            rw [hq, iI_no (by omega)]
            · simp only [bS]; rw [if_neg (by decide)]
            · rcases hx with hx | hx
              · rcases i_cases x with h0 | ⟨j, hj, rfl⟩
                · exact Or.inl h0
                · rw [ni_l hj] at hx; exact absurd hx (nl_n0 (by omega))
              · rcases i_cases x with h0 | ⟨j, hj, rfl⟩
                · exact Or.inl h0
                · rw [ni_l hj] at hx
                  exact Or.inr ((ni_le (by omega) hj).mpr ((nl_le (by omega) (by omega)).mp hx))
  · refine ⟨-2000000000000000, ?_, ?_⟩
    · rw [yI_no hv, bS, if_pos rfl]
    · rw [iY_no hv, bS, if_pos rfl]
