-- needs: 74.sclsb 75.num 76.rel 77.cong 78.sim 79.qa 79.qb 79.ra 79.rb 79.rc 79.rd 79.re 79.rf 79.rg 79.rh 79.ri 79.rj 79.rk
-- ===== counters, names, numbers =====
def Ct (k t s m y : Nat) (A B : Mem) : Prop := (gi A 8 9 = ni (m8 8 k) ∧ gi B 181 15 = ni k) ∧ (gi A 8 12 = ni (m8 6 t) ∧ gi B 181 18 = ni t) ∧ (gi A 8 2 = ni s ∧ gi B 181 22 = ni s) ∧ gi B 181 21 = ni m ∧ (gi A 8 16 = ni y ∧ y ≤ 40)
theorem m8_le {a b : Nat} : m8 a b ≤ a := by unfold m8; split <;> omega
theorem m8_le' {a b : Nat} : m8 a b ≤ b := by unfold m8; split <;> omega
theorem Ct.fr {k t s m y : Nat} {A B A' B' : Mem} (h : Ct k t s m y A B) (f : FrC A A') (g : FrB B B') : Ct k t s m y A' B' := by
  unfold Ct at h ⊢
  rw [f.2.2.2.2 9 (by omega) (by omega), f.2.2.2.2 12 (by omega) (by omega), f.2.2.2.2 2 (by omega) (by omega), f.2.2.2.2 16 (by omega) (by omega), g.2.2.2.1 15 (by omega), g.2.2.2.1 18 (by omega), g.2.2.2.1 22 (by omega), g.2.2.2.1 21 (by omega)]
  exact h
section Nm
variable {by_ : Nat → Nat} {n T own : Nat} {wd : Nat → Int64}
theorem br_of {A B : Mem} {b k t s m y : Nat} (h : Bk by_ n T own wd b A B) (hb : b ≤ 1200) (ct : Ct k t s m y A B) (hk : k ≤ 910) (ht : t ≤ 910) (hm : m ≤ 305) : Br n T 0 A B := by
  obtain ⟨hs, h1, h2, h3, h4, h5, ⟨r, r1, r2⟩⟩ := h
  obtain ⟨⟨c1, c2⟩, ⟨c3, c4⟩, ⟨c5, c6⟩, c7, c8, c9⟩ := ct
  exact ⟨⟨hs.1, ⟨hs.2.2.2.2.2.1.2.1, hs.tn, hs.n9⟩, h1, h4, h5, ⟨_, m8_le, c1⟩, ⟨_, m8_le, c3⟩, ⟨y, c9, c8⟩⟩, ⟨hs.2.1, h2, ⟨r, by omega, r2⟩, ⟨k, by omega, c2⟩, ⟨t, by omega, c4⟩, ⟨m, by omega, c7⟩⟩, h3⟩
theorem pos_succ {f : Nat → Int64} {x : Int64} {j q : Nat} : pos f x (j + 1) q = if f q = x then some q else pos f x j (q + 1) := rfl
theorem taken52 {B : Mem} {t : Nat} {x : Int64} (ht : gi B 181 18 = ni t) (ht2 : t < 1000) : ∀ {j q F : Nat} {is : Int32}, (is = 0 ∨ is = 1) → q + j = m8 6 t → j < F → SJ_X11_isTaken_52 F x is (ni q) B = some (if is = 1 ∨ (pos (gl B 186) x j q) ≠ none then 1 else 0, B) := by
  intro j
  induction j with
  | zero =>
    intro q F is his hq hF
    obtain ⟨F, rfl⟩ : ∃ g, F = g + 1 := ⟨F - 1, by omega⟩
    rw [SJ_X11_isTaken_52]; dsimp only
    have h1 := @m8_le 6 t
    have e : (bz is).bind (fun _ => some (is, B)) = some (if is = 1 ∨ (pos (gl B 186) x 0 q) ≠ none then 1 else 0, B) := by
      rcases his with rfl | rfl
      · simp [pos]; rfl
      · simp; rfl
    by_cases h2 : t ≤ q
    · rw [ht, if_pos ((ni_le (by omega) (by omega)).mpr h2)]; exact e
    · rw [ht, if_neg (fun z => h2 ((ni_le (by omega) (by omega)).mp z)), if_pos (show (6 : Int32) ≤ ni q from (ni_le (a := 6) (by omega) (by omega)).mpr (by unfold m8 at hq; split at hq <;> omega))]; exact e
  | succ j ih =>
    intro q F is his hq hF
    obtain ⟨F, rfl⟩ : ∃ g, F = g + 1 := ⟨F - 1, by omega⟩
    rw [SJ_X11_isTaken_52]; dsimp only
    have h1 := @m8_le 6 t
    have h2 := @m8_le' 6 t
    rw [ht, if_neg (fun z => by have := (ni_le (by omega) (by omega)).mp z; omega), if_neg (show ¬ (6 : Int32) ≤ ni q from fun z => by have := (ni_le (a := 6) (by omega) (by omega)).mp z; omega)]
    unfold SJ_X11_isTaken_84 SJ_X11_isTaken_89
    rw [show ni q + 1 = ni (q + 1) from ni_add q 1]
    rcases his with rfl | rfl
    · rw [if_neg (by simp), gdT ((ni_inb (by omega)).mpr (by omega)), ni_tn (by omega)]
      rw [pos_succ]
      by_cases e : gl B 186 q = x
      · rw [if_neg (by simp [e]), if_pos e, ih (q := q + 1) (Or.inr rfl) (by omega) (by omega), if_pos (Or.inl rfl), if_pos (Or.inr (by simp))]
      · rw [if_pos e, if_neg e, ih (q := q + 1) (Or.inl rfl) (by omega) (by omega)]
    · rw [if_pos (by decide), ih (q := q + 1) (Or.inr rfl) (by omega) (by omega), if_pos (Or.inl rfl), if_pos (Or.inl rfl)]
theorem taken5 {B : Mem} {k t : Nat} {x : Int64} (hk : gi B 181 15 = ni k) (hk2 : k < 1000) (ht : gi B 181 18 = ni t) (ht2 : t < 1000) : ∀ {j q F : Nat} {is : Int32}, (is = 0 ∨ is = 1) → q + j = m8 8 k → j < F → SJ_X11_isTaken_5 F x is (ni q) B = some (if is = 1 ∨ pos (gl B 184) x j q ≠ none ∨ pos (gl B 186) x (m8 6 t) 0 ≠ none then 1 else 0, B) := by
  intro j
  induction j with
  | zero =>
    intro q F is his hq hF
    obtain ⟨F, rfl⟩ : ∃ g, F = g + 1 := ⟨F - 1, by omega⟩
    rw [SJ_X11_isTaken_5]; dsimp only
    have h1 := @m8_le 8 k
    have h6 := @m8_le 6 t
    have e : SJ_X11_isTaken_49 x is B = some (if is = 1 ∨ pos (gl B 184) x 0 q ≠ none ∨ pos (gl B 186) x (m8 6 t) 0 ≠ none then 1 else 0, B) := by
      unfold SJ_X11_isTaken_49
      have w : SJ_X11_isTaken_52 FU x is 0 B = _ := taken52 ht ht2 (q := 0) (j := m8 6 t) his (by omega) (Nat.lt_of_le_of_lt h6 (by decide))
      rw [w, show pos (gl B 184) x 0 q = none from rfl]
      simp
    by_cases h2 : k ≤ q
    · rw [hk, if_pos ((ni_le (by omega) (by omega)).mpr h2)]; exact e
    · rw [hk, if_neg (fun z => h2 ((ni_le (by omega) (by omega)).mp z)), if_pos (show (8 : Int32) ≤ ni q from (ni_le (a := 8) (by omega) (by omega)).mpr (by unfold m8 at hq; split at hq <;> omega))]; exact e
  | succ j ih =>
    intro q F is his hq hF
    obtain ⟨F, rfl⟩ : ∃ g, F = g + 1 := ⟨F - 1, by omega⟩
    rw [SJ_X11_isTaken_5]; dsimp only
    have h1 := @m8_le 8 k
    have h2 := @m8_le' 8 k
    rw [hk, if_neg (fun z => by have := (ni_le (by omega) (by omega)).mp z; omega), if_neg (show ¬ (8 : Int32) ≤ ni q from fun z => by have := (ni_le (a := 8) (by omega) (by omega)).mp z; omega)]
    unfold SJ_X11_isTaken_37 SJ_X11_isTaken_42
    rw [show ni q + 1 = ni (q + 1) from ni_add q 1]
    rcases his with rfl | rfl
    · rw [if_neg (by simp), gdT ((ni_inb (by omega)).mpr (by omega)), ni_tn (by omega)]
      rw [pos_succ]
      by_cases e : gl B 184 q = x
      · rw [if_neg (by simp [e]), if_pos e, ih (q := q + 1) (Or.inr rfl) (by omega) (by omega), if_pos (Or.inl rfl), if_pos (Or.inr (Or.inl (by simp)))]
      · rw [if_pos e, if_neg e, ih (q := q + 1) (Or.inl rfl) (by omega) (by omega)]
    · rw [if_pos (by decide), ih (q := q + 1) (Or.inr rfl) (by omega) (by omega), if_pos (Or.inl rfl), if_pos (Or.inl rfl)]
theorem isTaken_eq {B : Mem} {k t : Nat} {x : Int64} (hk : gi B 181 15 = ni k) (hk2 : k < 1000) (ht : gi B 181 18 = ni t) (ht2 : t < 1000) : S_X11_isTaken x B = some (if pos (gl B 184) x (m8 8 k) 0 ≠ none ∨ pos (gl B 186) x (m8 6 t) 0 ≠ none then 1 else 0, B) := by
  unfold S_X11_isTaken
  have h1 := @m8_le 8 k
  have w : SJ_X11_isTaken_5 FU x 0 0 B = _ := taken5 (x := x) hk hk2 ht ht2 (j := m8 8 k) (q := 0) (F := FU) (is := 0) (Or.inl rfl) (by omega) (Nat.lt_of_le_of_lt h1 (by decide))
  rw [w]
  simp
theorem hasName_eq {A : Mem} {k t : Nat} {x : Int64} (hF : FSC A) (hk : gi A 8 9 = ni k) (hk2 : k ≤ 8) (ht : gi A 8 12 = ni t) (ht2 : t ≤ 6) : S_X0_hasName x A = some (if pos (gl A 11) x k 0 ≠ none ∨ pos (gl A 13) x t 0 ≠ none then 1 else 0, A) := by
  unfold S_X0_hasName L_X10_positionOf
  rw [hk, show (0 : Int32) = ni 0 from rfl, posOf_eq' (m := k) (l := 8) (hF.hk 11) (hF.hl 11) (by decide) hk2 (j := k) (k := 0) (F := FU) (by omega) (Nat.lt_of_le_of_lt hk2 (by decide)), bS]; dsimp only
  cases hp : pos (gl A 11) x k 0 with
  | some w =>
    have := pos_some hp
    dsimp only
    rw [if_pos (ni_ne1 (by omega)), if_pos (Or.inl (by simp))]
  | none =>
    dsimp only
    rw [if_neg (by simp), ht, posOf_eq' (m := t) (l := 6) (hF.hk 13) (hF.hl 13) (by decide) ht2 (j := t) (k := 0) (F := FU) (by omega) (Nat.lt_of_le_of_lt ht2 (by decide)), bS]; dsimp only
    cases hq : pos (gl A 13) x t 0 with
    | some w =>
      have := pos_some hq
      dsimp only
      rw [if_neg (ni_ne1 (by omega)), if_pos (Or.inr (by simp))]
    | none =>
      dsimp only
      rw [if_pos rfl, if_neg (by simp)]
theorem pos_cg {f g : Nat → Int64} {x : Int64} : ∀ {j q : Nat}, (∀ i, q ≤ i → i < q + j → f i = g i) → pos f x j q = pos g x j q := by
  intro j
  induction j with
  | zero => intro q _; rfl
  | succ j ih => intro q h; unfold pos; rw [h q (by omega) (by omega), ih fun i i1 i2 => h i (by omega) (by omega)]
/-- names are the same where no fault has been told -/
def NmE (k t : Nat) (A B : Mem) : Prop := gi A 7 6 = 0 → (k ≤ 8 ∧ t ≤ 6 ∧ (∀ j, j < k → gl A 11 j = gl B 184 j) ∧ ∀ j, j < t → gl A 13 j = gl B 186 j)
theorem lk_newName {A B : Mem} {i c r k t s m y : Nat} (h : R by_ n T own wd i c r A B) (hc : c ≤ 1000) (ct : Ct k t s m y A B) (hk : k < 950) (ht : t < 950) (hn : NmE k t A B) :
    (∃ x z A' B', S_X4_takeNewName A = some (x, A') ∧ S_X11_takesName B = some (z, B') ∧ FrC A A' ∧ FrB B B' ∧ Bk by_ n T own wd r A' B') ∨
    (∃ A' B' B1 nm, S_X4_takeNewName A = some (nl nm, A') ∧ S_X11_takesName B = some (nl nm, B1) ∧ gi B1 181 11 = 0 ∧ (∀ K : Mem → Option (Unit × Mem), ((S_X11_isTaken (nl nm) B1).bind fun w => if w.1 = 0 then K w.2 else (S_X11_tells 2 (gi B 181 7) w.2).bind fun u => K u.2) = K B') ∧
      FrC A A' ∧ FrB B B' ∧ R by_ n T own wd (i + 1) c r A' B' ∧ Kb c r A B A' B' ∧ pfN by_ n i + 1 ≤ pfN by_ n (i + 1) ∧ kap by_ n T wd i = 2) := by
  have p9 := h.p9
  have kl := kap_lt h
  have h8 := @m8_le 8 k
  have h6 := @m8_le 6 t
  unfold S_X4_takeNewName S_X11_takesName SJ_X11_takesName_14
  rw [place_eq h, bS, h.2.2.2.2.1, if_neg (show ¬ ¬ (0 : Int32) = 0 by simp)]; dsimp only
  rw [content_eq h, bS]; dsimp only
  by_cases k2 : kap by_ n T wd i = 2
  · right
    have tk : gi B 181 6 = 0 ∧ gl B 181 8 = nl (chi by_ n T i) ∧ chi by_ n T i < 1099511627776 := by
      rcases tok h with t | t | t | t | ⟨w, t⟩ | ⟨b', t⟩
      · omega
      · omega
      · exact t.2.2
      · omega
      · omega
      · omega
    obtain ⟨t1, t2, t3⟩ := tk
    obtain ⟨B1, a1, a2, a3, a4, a5, a6, a7, a8⟩ := adv' h (by omega)
    have ct1 := ct.fr a4 a5
    rw [take_y h (b := 2) (x := 2) rfl k2, bS, if_pos t1, a1, bS, t2]; dsimp only
    rw [if_neg (show ¬ (1 : Int32) = 0 by decide), hasName_eq a2.1.1 ct1.1.1 h8 ct1.2.1.1 h6, bS]; dsimp only
    have eT := isTaken_eq (x := nl (chi by_ n T i)) ct1.1.2 (by omega) ct1.2.1.2 (by omega)
    have ft := FI.lt h (by omega)
    have hw := where_eq h
    by_cases f0 : gi A 7 6 = 0
    · obtain ⟨n1, n2, n3, n4⟩ := hn f0
      have e1 : pos (gl (si A 7 2 (gi A 7 2 + 1)) 11) (nl (chi by_ n T i)) (m8 8 k) 0 = pos (gl B1 184) (nl (chi by_ n T i)) (m8 8 k) 0 := pos_cg fun j j1 j2 => by
        rw [show m8 8 k = k from if_pos n1] at j2
        rw [a5.2.2.1 184 (by omega) (by omega), a4.2.2.1 11 (by omega)]; exact n3 j (by omega)
      have e2 : pos (gl (si A 7 2 (gi A 7 2 + 1)) 13) (nl (chi by_ n T i)) (m8 6 t) 0 = pos (gl B1 186) (nl (chi by_ n T i)) (m8 6 t) 0 := pos_cg fun j j1 j2 => by
        rw [show m8 6 t = t from if_pos n2] at j2
        rw [a5.2.2.1 186 (by omega) (by omega), a4.2.2.1 13 (by omega)]; exact n4 j (by omega)
      rw [e1, e2]
      by_cases q : pos (gl B1 184) (nl (chi by_ n T i)) (m8 8 k) 0 ≠ none ∨ pos (gl B1 186) (nl (chi by_ n T i)) (m8 6 t) 0 ≠ none
      · rw [if_pos q] at eT
        rw [if_pos q, if_neg (show ¬ (1 : Int32) = 0 by decide)]
        obtain ⟨A', B', u1, u2, u3, u4, u5, u6, u7, u8, u9, u10, u11, u12, u13⟩ := tell (k := 2) (q := pfN by_ n i) a2 (by omega) (by omega) (by omega) (Or.inl (by omega)) (Or.inl ((si_ff' (by omega)).trans f0))
        rw [show (2 : Int32) = ni 2 from rfl, u1, bS]
        refine ⟨A', B', B1, chi by_ n T i, rfl, rfl, a2.2.2.2.2.1, fun K => ?_, a4.trans u3, a5.trans u4, u5, a6.trans ⟨fun j _ => ⟨by rw [u6], by rw [u7]⟩, fun j _ => ⟨by rw [u9], by rw [u10], by rw [u11]⟩, fun Y e => by rw [u8]; exact e, fun _ => u13⟩ (Nat.le_refl _) (Nat.le_refl _), a8, k2⟩
        rw [eT, bS]; dsimp only
        rw [if_neg (show ¬ (1 : Int32) = 0 by decide), hw, u2, bS]
      · rw [if_neg q] at eT
        rw [if_neg q, if_pos rfl]
        refine ⟨_, B1, B1, chi by_ n T i, rfl, rfl, a2.2.2.2.2.1, fun K => ?_, a4, a5, a2, a6, a8, k2⟩
        rw [eT, bS]; dsimp only
        rw [if_pos rfl]
    · -- a fault has been told: another one changes nothing
      have tA : ∀ x : Int32, S_X4_note x (ni (pfN by_ n i)) (si A 7 2 (gi A 7 2 + 1)) = some ((), si A 7 2 (gi A 7 2 + 1)) := fun x => by
        unfold S_X4_note; rw [if_pos (by rw [si_ff' (by omega)]; exact f0)]
      have tB : S_X11_tells 2 (gi B 181 7) B1 = some ((), B1) := by
        obtain ⟨A', B', u1, u2, u3, u4, u5, u6, u7, u8, u9, u10, u11, u12, u13⟩ := tell (k := 2) (q := pfN by_ n i) a2 (by omega) (by omega) (by omega) (Or.inl (by omega)) (by
          rw [si_ff' (by omega), si_ff' (by omega)]
          rcases ft with ft | ⟨p, p1, p2⟩
          · exact Or.inl ft
          · exact Or.inr ⟨p, p1, Or.inl p2⟩)
        unfold S_X11_tells
        have d6 := a2.2.2.2.2.2.2.1
        rcases ft with ft | ⟨p, p1, p2⟩
        · exact absurd ft f0
        · rw [a2.2.2.2.2.1, if_neg (show ¬ ¬ (0 : Int32) = 0 by simp), if_neg (by rw [← d6.1, si_ff' (by omega)]; exact f0), ← d6.2.1, si_ff' (by omega), p1, hw, if_pos ((ni_lt (by omega) (by omega)).mpr p2)]
      refine ⟨si A 7 2 (gi A 7 2 + 1), B1, B1, chi by_ n T i, ?_, rfl, a2.2.2.2.2.1, fun K => ?_, a4, a5, a2, a6, a8, k2⟩
      · by_cases q : pos (gl (si A 7 2 (gi A 7 2 + 1)) 11) (nl (chi by_ n T i)) (m8 8 k) 0 ≠ none ∨ pos (gl (si A 7 2 (gi A 7 2 + 1)) 13) (nl (chi by_ n T i)) (m8 6 t) 0 ≠ none
        · rw [if_pos q, if_neg (show ¬ (1 : Int32) = 0 by decide), tA, bS]
        · rw [if_neg q, if_pos rfl]
      · rw [eT, bS]; dsimp only
        rw [tB, bS, ite_self]
  · left
    have t1 : ¬ gi B 181 6 = 0 := by
      rcases tok h with t | t | t | t | ⟨w, t⟩ | ⟨b', t⟩
      · rw [t.2.2]; decide
      · rw [t.2.2]; decide
      · omega
      · rw [t.2.2.1]; decide
      · rw [t.2.2.2.1]; decide
      · rw [t.2.2.2.2.1]; decide
    obtain ⟨A', B', r1, r2, r3, r4, r5⟩ := stop h (by omega)
    rw [take_n h (b := 2) (x := 2) rfl (by omega) k2, r1, bS, bS, if_neg t1, r2, bS]; dsimp only
    rw [if_pos rfl]
    exact ⟨_, _, A', B', rfl, rfl, r3, r4, r5⟩
theorem lk_number {A B : Mem} {i c r hi : Nat} (h : R by_ n T own wd i c r A B) (hc : c ≤ 1000) (hhi : hi < 1000) :
    (∃ x z A' B', S_X4_takeNumber 1 (ni hi) A = some (x, A') ∧ S_X11_takesNumber B = some (z, B') ∧ FrC A A' ∧ FrB B B' ∧ Bk by_ n T own wd r A' B') ∨
    (∃ A' B' B1 m, S_X4_takeNumber 1 (ni hi) A = some (nl m, A') ∧ S_X11_takesNumber B = some (ni m, B1) ∧ gi B1 181 11 = 0 ∧ m < 1000000000 ∧ (∀ K : Mem → Option (Unit × Mem), (if ni m < (1 : Int32) then (S_X11_tells 4 (gi B 181 7) B1).bind fun u => K u.2 else if ni m ≤ ni hi then K B1 else (S_X11_tells 4 (gi B 181 7) B1).bind fun u => K u.2) = K B') ∧
      FrC A A' ∧ FrB B B' ∧ R by_ n T own wd (i + 1) c r A' B' ∧ Kb c r A B A' B' ∧ pfN by_ n i + 1 ≤ pfN by_ n (i + 1) ∧ (gi A' 7 6 = 0 → 1 ≤ m ∧ m ≤ hi)) := by
  have p9 := h.p9
  have kl := kap_lt h
  unfold S_X4_takeNumber S_X11_takesNumber SJ_X11_takesNumber_15 SJ_X4_takeNumber_35
  rw [place_eq h, bS, h.2.2.2.2.1, if_neg (show ¬ ¬ (0 : Int32) = 0 by simp)]; dsimp only
  rw [content_eq h, bS]; dsimp only
  by_cases k3 : kap by_ n T wd i = 3
  · right
    have tk : gi B 181 6 = 1 ∧ gi B 181 9 = ni (chi by_ n T i) ∧ chi by_ n T i < 1000000000 := by
      rcases tok h with t | t | t | t | ⟨w, t⟩ | ⟨b', t⟩
      · omega
      · omega
      · omega
      · exact t.2.2
      · omega
      · omega
    obtain ⟨t1, t2, t3⟩ := tk
    obtain ⟨B1, a1, a2, a3, a4, a5, a6, a7, a8⟩ := adv' h (by omega)
    rw [take_y h (b := 3) (x := 3) rfl k3, bS, if_pos t1, a1, bS, t2]; dsimp only
    rw [if_neg (show ¬ (1 : Int32) = 0 by decide), show (1 : Int32).toInt64 = nl 1 from rfl, ni_l (by omega)]
    have ft := FI.lt h (by omega)
    have hw := where_eq h
    obtain ⟨A', B', u1, u2, u3, u4, u5, u6, u7, u8, u9, u10, u11, u12, u13⟩ := tell (k := 4) (q := pfN by_ n i) a2 (by omega) (by omega) (by omega) (Or.inl (by omega)) (by
      rw [si_ff' (by omega), si_ff' (by omega)]
      rcases ft with ft | ⟨p, p1, p2⟩
      · exact Or.inl ft
      · exact Or.inr ⟨p, p1, Or.inl p2⟩)
    have bad : R by_ n T own wd (i + 1) c r A' B' ∧ Kb c r A B A' B' := ⟨u5, a6.trans ⟨fun j _ => ⟨by rw [u6], by rw [u7]⟩, fun j _ => ⟨by rw [u9], by rw [u10], by rw [u11]⟩, fun Y e => by rw [u8]; exact e, fun _ => u13⟩ (Nat.le_refl _) (Nat.le_refl _)⟩
    rw [show (4 : Int32) = ni 4 from rfl, hw]
    by_cases c1 : chi by_ n T i < 1
    · refine ⟨A', B', B1, chi by_ n T i, ?_, rfl, a2.2.2.2.2.1, t3, fun K => ?_, a4.trans u3, a5.trans u4, bad.1, bad.2, a8, fun e => absurd e u13⟩
      · rw [if_pos ((nl_lt (by omega) (by omega)).mpr c1), u1, bS]
      · rw [if_pos (show ni (chi by_ n T i) < 1 from (ni_lt (b := 1) (by omega) (by omega)).mpr c1), u2, bS]
    · by_cases c2 : chi by_ n T i ≤ hi
      · refine ⟨_, B1, B1, chi by_ n T i, ?_, rfl, a2.2.2.2.2.1, t3, fun K => ?_, a4, a5, a2, a6, a8, fun e => ⟨by omega, c2⟩⟩
        · rw [if_neg (fun e => c1 ((nl_lt (by omega) (by omega)).mp e)), if_pos ((nl_le (by omega) (by omega)).mpr c2)]
        · rw [if_neg (show ¬ ni (chi by_ n T i) < 1 from fun e => c1 ((ni_lt (b := 1) (by omega) (by omega)).mp e)), if_pos ((ni_le (by omega) (by omega)).mpr c2)]
      · refine ⟨A', B', B1, chi by_ n T i, ?_, rfl, a2.2.2.2.2.1, t3, fun K => ?_, a4.trans u3, a5.trans u4, bad.1, bad.2, a8, fun e => absurd e u13⟩
        · rw [if_neg (fun e => c1 ((nl_lt (by omega) (by omega)).mp e)), if_neg (fun e => c2 ((nl_le (by omega) (by omega)).mp e)), u1, bS]
        · rw [if_neg (show ¬ ni (chi by_ n T i) < 1 from fun e => c1 ((ni_lt (b := 1) (by omega) (by omega)).mp e)), if_neg (fun e => c2 ((ni_le (by omega) (by omega)).mp e)), u2, bS]
  · left
    have t1 : ¬ gi B 181 6 = 1 := by
      rcases tok h with t | t | t | t | ⟨w, t⟩ | ⟨b', t⟩
      · rw [t.2.2]; decide
      · rw [t.2.2]; decide
      · rw [t.2.2.1]; decide
      · omega
      · rw [t.2.2.2.1]; decide
      · rw [t.2.2.2.2.1]; decide
    obtain ⟨A', B', r1, r2, r3, r4, r5⟩ := stop h (by omega)
    rw [take_n h (b := 3) (x := 3) rfl (by omega) k3, r1, bS, bS, if_neg t1, r2, bS]; dsimp only
    rw [if_pos rfl]
    exact ⟨_, _, A', B', rfl, rfl, r3, r4, r5⟩
/-- a whole formula; the reference writes an end behind it -/
theorem lk_whole {qq : Nat} {A B : Mem} {i c r : Nat} (h : R by_ n T own wd i c r A B) (hcq : CxQ qq A) (hc : c ≤ pfN by_ n i + 60) (hr : r ≤ pfN by_ n i + 60) :
    ∃ A' B', S_X4_readChoice 14 1 A = some ((), A') ∧ S_X11_whole B = some ((), B') ∧ FrC A A' ∧ FrB B B' ∧ (Bk by_ n T own wd 1121 A' B' ∨
      ∃ i' m, R by_ n T own wd i' (c + m) (r + m + 1) A' B' ∧ Kb c r A B A' B' ∧ pfN by_ n i + m ≤ pfN by_ n i' ∧ EF (false, qq) own c r m 37 A' B' ∧ gi B' 191 (r + m) = 11) := by
  obtain ⟨A1, B1, u1, u2, u3, u4, u5⟩ := (lk_choice (f := 14) (v := 1) (by omega) (by omega) (by omega)).1 i c r A (si B 181 31 0) (r_f31 h) si_eq hcq hc hr
  unfold S_X11_whole
  have u1' : S_X4_readChoice 14 1 A = some ((), A1) := u1
  rw [u1', u2, bS]; dsimp only
  have fB : FrB B B1 := (frB_f (by omega)).trans u4
  rcases u5 with u5 | ⟨_, i1, m, o1, o2, o3, o4, o5⟩
  · obtain ⟨B2, y1, y2, y3, _⟩ := u5.emR (by omega) (w := 11) (v := 0) (z := -1)
    rw [y1, bS]
    exact ⟨A1, B2, rfl, rfl, u3, fB.trans y2, Or.inl (y3.mono (by omega))⟩
  · have p9 := o1.p9
    rw [emR_eq o1.2.2.2.2.2.2.2.2.1 (by omega), bS]
    refine ⟨A1, _, rfl, rfl, u3, fB.trans emB_fr, Or.inr ⟨i1, m, r_emB o1, (kb_f31.trans o2 (Nat.le_refl _) (Nat.le_refl _)).trans kb_emB (by omega) (by omega), o3, o4.kb kb_emB (Nat.le_refl _) (Nat.le_refl _), ?_⟩⟩
    rw [emB_1, if_pos rfl]
end Nm
