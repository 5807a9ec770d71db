-- needs: 74.sclsb 75.num 76.rel 77.cong 78.sim 79.qa 79.qb 79.ra 79.rb
-- ===== the reference's next token =====
def Ad (B B' : Mem) : Prop := KG B B' ∧ (∀ a, a ≠ 181 → gi B' a = gi B a ∧ gl B' a = gl B a) ∧ (∀ j, j < 5 ∨ 10 < j → gi B' 181 j = gi B 181 j) ∧ ∀ j, j ≠ 8 → gl B' 181 j = gl B 181 j
theorem Ad.rf {B : Mem} : Ad B B := ⟨KG.rf, fun _ _ => ⟨rfl, rfl⟩, fun _ _ => rfl, fun _ _ => rfl⟩
theorem Ad.trans {A B C : Mem} (h : Ad A B) (g : Ad B C) : Ad A C := ⟨h.1.trans g.1, fun a ha => ⟨(g.2.1 a ha).1.trans (h.2.1 a ha).1, (g.2.1 a ha).2.trans (h.2.1 a ha).2⟩, fun j hj => (g.2.2.1 j hj).trans (h.2.2.1 j hj), fun j hj => (g.2.2.2 j hj).trans (h.2.2.2 j hj)⟩
theorem kg_si {M : Mem} {a j : Nat} {x : Int32} : KG M (si M a j x) := ⟨rfl, rfl, rfl⟩
theorem kg_sl {M : Mem} {a j : Nat} {x : Int64} : KG M (sl M a j x) := ⟨rfl, rfl, rfl⟩
theorem gi_ne {M : Mem} {a b j : Nat} {x : Int32} (h : a ≠ b) : gi (si M b j x) a = gi M a := (sm_si h).i
theorem gl_ne {M : Mem} {a b j : Nat} {x : Int64} (h : a ≠ b) : gl (sl M b j x) a = gl M a := (sm_sl h).j
theorem ad_si {M : Mem} {j : Nat} {x : Int32} (h : 5 ≤ j ∧ j ≤ 10) : Ad M (si M 181 j x) := ⟨kg_si, fun a ha => ⟨gi_ne ha, rfl⟩, fun i hi => si_ff' (by omega), fun _ _ => rfl⟩
theorem ad_sl {M : Mem} {x : Int64} : Ad M (sl M 181 8 x) := ⟨kg_sl, fun a ha => ⟨rfl, gl_ne ha⟩, fun i hi => rfl, fun j hj => by rw [gl_sl, if_neg (fun e => hj e.2)]⟩
theorem Ad.rby {B B' : Mem} {n : Nat} {by_ : Nat → Nat} (h : Ad B B') (g : RBy B n by_) : RBy B' n by_ := ⟨g.1, (h.2.2.1 4 (by omega)).trans g.2.1, fun k hk => ⟨(g.2.2 k hk).1, by rw [(h.2.1 182 (by omega)).1]; exact (g.2.2 k hk).2⟩⟩
theorem si_eq {M : Mem} {a j : Nat} {x : Int32} : gi (si M a j x) a j = x := by rw [gi_si, if_pos ⟨rfl, rfl⟩]
theorem sl_eq {M : Mem} {a j : Nat} {x : Int64} : gl (sl M a j x) a j = x := by rw [gl_sl, if_pos ⟨rfl, rfl⟩]
section Adv
variable {n : Nat} {by_ : Nat → Nat}
def m8 (m k : Nat) : Nat := if k ≤ m then k else m
theorem adv85 {p : Nat} : ∀ {g q F : Nat} {B : Mem}, RBy B n by_ → gi B 181 5 = ni q → gi B 181 7 = ni p → p ≤ q → q ≤ n → gl B 181 8 = nl (vlN 32 96 by_ (m8 8 (q - p)) p 0) → n ≤ q + g → g < F →
    ∃ B1, Ad B B1 ∧ gi B1 181 5 = ni (rnE isL by_ n g q) ∧ gi B1 181 7 = ni p ∧ gl B1 181 8 = nl (vlN 32 96 by_ (m8 8 (rnE isL by_ n g q - p)) p 0) ∧ gi B1 181 10 = gi B 181 10 ∧
      SJ_X11_advance_85 F B = if rnE isL by_ n g q - p ≤ 8 then SJ_X11_advance_172 0 B1 else SJ_X11_advance_172 5 B1 := by
  intro g
  induction g with
  | zero =>
    intro q F B hb h5 h7 hpq hqn hnm hg hF
    obtain ⟨F, rfl⟩ : ∃ g, F = g + 1 := ⟨F - 1, by omega⟩
    have hn := hb.1
    refine ⟨B, Ad.rf, h5, h7, hnm, rfl, ?_⟩
    rw [SJ_X11_advance_85]; dsimp only
    rw [h5, byteAt_ge hb (by omega) (by omega), bS]; dsimp only
    rw [isLetter_m1, bS]; dsimp only
    rw [if_pos rfl, h5, h7, ni_sub (by omega)]
    show (if ni (q - p) ≤ ni 8 then _ else _) = if q - p ≤ 8 then _ else _
    simp only [ni_le (show q - p < 2147483648 by omega) (show 8 < 2147483648 by omega)]
  | succ g ih =>
    intro q F B hb h5 h7 hpq hqn hnm hg hF
    obtain ⟨F, rfl⟩ : ∃ g, F = g + 1 := ⟨F - 1, by omega⟩
    have hn := hb.1
    unfold rnE
    by_cases hc : q < n ∧ isL (by_ q) = true
    · rw [if_pos hc]
      have hb2 := (hb.2.2 q hc.1).1
      have hl := of_decide_eq_true hc.2
      by_cases h8 : q - p < 8
      · have w : gl (si (sl B 181 8 (nl (vlN 32 96 by_ (m8 8 (q + 1 - p)) p 0))) 181 5 (ni (q + 1))) 181 8 = nl (vlN 32 96 by_ (m8 8 (q + 1 - p)) p 0) := sl_eq
        have ad : Ad B (si (sl B 181 8 (nl (vlN 32 96 by_ (m8 8 (q + 1 - p)) p 0))) 181 5 (ni (q + 1))) := ad_sl.trans (ad_si (by omega))
        obtain ⟨B1, a1, a2, a3, a4, a5, a6⟩ := ih (q := q + 1) (F := F) (B := si (sl B 181 8 (nl (vlN 32 96 by_ (m8 8 (q + 1 - p)) p 0))) 181 5 (ni (q + 1))) (ad.rby hb) si_eq ((si_ff' (by omega)).trans h7) (by omega) (by omega) w (by omega) (by omega)
        refine ⟨B1, ad.trans a1, a2, a3, a4, a5.trans (si_ff' (by omega)), ?_⟩
        rw [← a6, SJ_X11_advance_85]; dsimp only
        rw [h5, byteAt_lt hb hc.1, bS]; dsimp only
        rw [isLetter_ni hb2, bS]; dsimp only
        rw [if_pos hc.2, if_neg (show ¬ (1 : Int32) = 0 by decide), h5, h7, ni_sub (by omega), if_neg (show ¬ (8 : Int32) ≤ ni (q - p) from fun e => by have := (ni_le (a := 8) (by omega) (by omega)).mp e; omega), byteAt_lt hb hc.1, bS]; dsimp only
        unfold SJ_X11_advance_139
        have e : ((32 : Int64) * nl (vlN 32 96 by_ (m8 8 (q - p)) p 0) + (ni (by_ q)).toInt64) - 96 = nl (vlN 32 96 by_ (m8 8 (q + 1 - p)) p 0) := by
          rw [ni_l (by omega), show (32 : Int64) * nl (vlN 32 96 by_ (m8 8 (q - p)) p 0) = nl (32 * (vlN 32 96 by_ (m8 8 (q - p)) p 0)) from nl_mul 32 _, nl_add, show (96 : Int64) = nl 96 from rfl, nl_sub (by omega)]
          have : m8 8 (q - p) = q - p := if_pos (by omega)
          have e2 : m8 8 (q + 1 - p) = (q - p) + 1 := by unfold m8; rw [if_pos (by omega)]; omega
          rw [this, e2, vlN_snoc, show p + (q - p) = q by omega]
          congr 1; omega
        rw [hnm, e, show gi (sl B 181 8 (nl (vlN 32 96 by_ (m8 8 (q + 1 - p)) p 0))) 181 5 = ni q from h5, show ni q + 1 = ni (q + 1) from ni_add q 1]
      · have ad : Ad B (si B 181 5 (ni (q + 1))) := ad_si (by omega)
        have em : m8 8 (q + 1 - p) = m8 8 (q - p) := by unfold m8; split <;> split <;> omega
        obtain ⟨B1, a1, a2, a3, a4, a5, a6⟩ := ih (q := q + 1) (F := F) (B := si B 181 5 (ni (q + 1))) (ad.rby hb) si_eq ((si_ff' (by omega)).trans h7) (by omega) (by omega) (by rw [em]; exact hnm) (by omega) (by omega)
        refine ⟨B1, ad.trans a1, a2, a3, a4, a5.trans (si_ff' (by omega)), ?_⟩
        rw [← a6, SJ_X11_advance_85]; dsimp only
        rw [h5, byteAt_lt hb hc.1, bS]; dsimp only
        rw [isLetter_ni hb2, bS]; dsimp only
        rw [if_pos hc.2, if_neg (show ¬ (1 : Int32) = 0 by decide), h5, h7, ni_sub (by omega), if_pos (show (8 : Int32) ≤ ni (q - p) from (ni_le (a := 8) (by omega) (by omega)).mpr (by omega))]
        unfold SJ_X11_advance_139
        rw [h5, show ni q + 1 = ni (q + 1) from ni_add q 1]
    · rw [if_neg hc]
      refine ⟨B, Ad.rf, h5, h7, hnm, rfl, ?_⟩
      rw [SJ_X11_advance_85]; dsimp only
      have e : ∃ x : Int32, S_X11_byteAt (ni q) B = some (x, B) ∧ L_X11_isLetter x B = some (0, B) := by
        by_cases hq : q < n
        · refine ⟨_, byteAt_lt hb hq, ?_⟩
          rw [isLetter_ni (hb.2.2 q hq).1, if_neg (fun e => hc ⟨hq, e⟩)]
        · exact ⟨_, byteAt_ge hb (by omega) (by omega), isLetter_m1⟩
      obtain ⟨x, e1, e2⟩ := e
      rw [h5, e1, bS]; dsimp only
      rw [e2, bS]; dsimp only
      rw [if_pos rfl, h5, h7, ni_sub (by omega)]
      show (if ni (q - p) ≤ ni 8 then _ else _) = if q - p ≤ 8 then _ else _
      simp only [ni_le (show q - p < 2147483648 by omega) (show 8 < 2147483648 by omega)]
theorem adv242 {p : Nat} : ∀ {g q F : Nat} {B : Mem}, RBy B n by_ → gi B 181 5 = ni q → gi B 181 7 = ni p → p ≤ q → q ≤ n → gi B 181 9 = ni (vlN 10 48 by_ (m8 9 (q - p)) p 0) → n ≤ q + g → g < F →
    ∃ B1, Ad B B1 ∧ gi B1 181 5 = ni (rnE isD by_ n g q) ∧ gi B1 181 7 = ni p ∧ gi B1 181 9 = ni (vlN 10 48 by_ (m8 9 (rnE isD by_ n g q - p)) p 0) ∧ gi B1 181 10 = gi B 181 10 ∧
      SJ_X11_advance_242 F B = some ((), si B1 181 6 (if rnE isD by_ n g q - p ≤ 9 then 1 else 5)) := by
  intro g
  induction g with
  | zero =>
    intro q F B hb h5 h7 hpq hqn hnm hg hF
    obtain ⟨F, rfl⟩ : ∃ g, F = g + 1 := ⟨F - 1, by omega⟩
    have hn := hb.1
    refine ⟨B, Ad.rf, h5, h7, hnm, rfl, ?_⟩
    rw [SJ_X11_advance_242]; dsimp only
    rw [h5, byteAt_ge hb (by omega) (by omega), bS]; dsimp only
    rw [isDigit_m1, bS]; dsimp only
    rw [if_pos rfl, h5, h7, ni_sub (by omega)]
    unfold SJ_X11_advance_326
    show (if ni (q - p) ≤ ni 9 then _ else _) = some ((), si B 181 6 (if q - p ≤ 9 then 1 else 5))
    simp only [ni_le (show q - p < 2147483648 by omega) (show 9 < 2147483648 by omega)]
    split <;> rfl
  | succ g ih =>
    intro q F B hb h5 h7 hpq hqn hnm hg hF
    obtain ⟨F, rfl⟩ : ∃ g, F = g + 1 := ⟨F - 1, by omega⟩
    have hn := hb.1
    unfold rnE
    by_cases hc : q < n ∧ isD (by_ q) = true
    · rw [if_pos hc]
      have hb2 := (hb.2.2 q hc.1).1
      have hl := of_decide_eq_true hc.2
      by_cases h8 : q - p < 9
      · have w : gi (si (si B 181 9 (ni (vlN 10 48 by_ (m8 9 (q + 1 - p)) p 0))) 181 5 (ni (q + 1))) 181 9 = ni (vlN 10 48 by_ (m8 9 (q + 1 - p)) p 0) := (si_ff' (by omega)).trans si_eq
        have ad : Ad B (si (si B 181 9 (ni (vlN 10 48 by_ (m8 9 (q + 1 - p)) p 0))) 181 5 (ni (q + 1))) := (ad_si (by omega)).trans (ad_si (by omega))
        obtain ⟨B1, a1, a2, a3, a4, a5, a6⟩ := ih (q := q + 1) (F := F) (B := si (si B 181 9 (ni (vlN 10 48 by_ (m8 9 (q + 1 - p)) p 0))) 181 5 (ni (q + 1))) (ad.rby hb) si_eq ((si_ff' (by omega)).trans ((si_ff' (by omega)).trans h7)) (by omega) (by omega) w (by omega) (by omega)
        refine ⟨B1, ad.trans a1, a2, a3, a4, a5.trans ((si_ff' (by omega)).trans (si_ff' (by omega))), ?_⟩
        rw [← a6, SJ_X11_advance_242]; dsimp only
        rw [h5, byteAt_lt hb hc.1, bS]; dsimp only
        rw [isDigit_ni hb2, bS]; dsimp only
        rw [if_pos hc.2, if_neg (show ¬ (1 : Int32) = 0 by decide), h5, h7, ni_sub (by omega), if_neg (show ¬ (9 : Int32) ≤ ni (q - p) from fun e => by have := (ni_le (a := 9) (by omega) (by omega)).mp e; omega), byteAt_lt hb hc.1, bS]; dsimp only
        unfold SJ_X11_advance_293
        have e : ((10 : Int32) * ni (vlN 10 48 by_ (m8 9 (q - p)) p 0) + ni (by_ q)) - 48 = ni (vlN 10 48 by_ (m8 9 (q + 1 - p)) p 0) := by
          rw [show (10 : Int32) * ni (vlN 10 48 by_ (m8 9 (q - p)) p 0) = ni (10 * (vlN 10 48 by_ (m8 9 (q - p)) p 0)) from ni_mul 10 _, ni_add, show (48 : Int32) = ni 48 from rfl, ni_sub (by omega)]
          have : m8 9 (q - p) = q - p := if_pos (by omega)
          have e2 : m8 9 (q + 1 - p) = (q - p) + 1 := by unfold m8; rw [if_pos (by omega)]; omega
          rw [this, e2, vlN_snoc, show p + (q - p) = q by omega]
          congr 1; omega
        rw [hnm, e, show gi (si B 181 9 (ni (vlN 10 48 by_ (m8 9 (q + 1 - p)) p 0))) 181 5 = ni q from (si_ff' (by omega)).trans h5, show ni q + 1 = ni (q + 1) from ni_add q 1]
      · have ad : Ad B (si B 181 5 (ni (q + 1))) := ad_si (by omega)
        have em : m8 9 (q + 1 - p) = m8 9 (q - p) := by unfold m8; split <;> split <;> omega
        obtain ⟨B1, a1, a2, a3, a4, a5, a6⟩ := ih (q := q + 1) (F := F) (B := si B 181 5 (ni (q + 1))) (ad.rby hb) si_eq ((si_ff' (by omega)).trans h7) (by omega) (by omega) (by rw [em]; exact (si_ff' (by omega)).trans hnm) (by omega) (by omega)
        refine ⟨B1, ad.trans a1, a2, a3, a4, a5.trans (si_ff' (by omega)), ?_⟩
        rw [← a6, SJ_X11_advance_242]; dsimp only
        rw [h5, byteAt_lt hb hc.1, bS]; dsimp only
        rw [isDigit_ni hb2, bS]; dsimp only
        rw [if_pos hc.2, if_neg (show ¬ (1 : Int32) = 0 by decide), h5, h7, ni_sub (by omega), if_pos (show (9 : Int32) ≤ ni (q - p) from (ni_le (a := 9) (by omega) (by omega)).mpr (by omega))]
        unfold SJ_X11_advance_293
        rw [h5, show ni q + 1 = ni (q + 1) from ni_add q 1]
    · rw [if_neg hc]
      refine ⟨B, Ad.rf, h5, h7, hnm, rfl, ?_⟩
      rw [SJ_X11_advance_242]; dsimp only
      have e : ∃ x : Int32, S_X11_byteAt (ni q) B = some (x, B) ∧ L_X11_isDigit x B = some (0, B) := by
        by_cases hq : q < n
        · refine ⟨_, byteAt_lt hb hq, ?_⟩
          rw [isDigit_ni (hb.2.2 q hq).1, if_neg (fun e => hc ⟨hq, e⟩)]
        · exact ⟨_, byteAt_ge hb (by omega) (by omega), isDigit_m1⟩
      obtain ⟨x, e1, e2⟩ := e
      rw [h5, e1, bS]; dsimp only
      rw [e2, bS]; dsimp only
      rw [if_pos rfl, h5, h7, ni_sub (by omega)]
      unfold SJ_X11_advance_326
      show (if ni (q - p) ≤ ni 9 then _ else _) = some ((), si B 181 6 (if q - p ≤ 9 then 1 else 5))
      simp only [ni_le (show q - p < 2147483648 by omega) (show 9 < 2147483648 by omega)]
      split <;> rfl
/-- the words, one after another -/
theorem adv177n {wd : Nat → Int64} {nm : Int64} : ∀ {j k F : Nat} {B : Mem}, (∀ i, i < 12 → gl B 183 (i + 1) = wd i) → gl B 181 8 = nm → gi B 181 6 = 0 → k + j = 12 → pos wd nm j k = none → j < F → SJ_X11_advance_177 F (ni (k + 1)) B = SJ_X11_advance_215 B := by
  intro j
  induction j with
  | zero =>
    intro k F B hw hn ht hk hp hF
    obtain ⟨F, rfl⟩ : ∃ g, F = g + 1 := ⟨F - 1, by omega⟩
    rw [SJ_X11_advance_177]; dsimp only
    rw [if_pos (show (13 : Int32) ≤ ni (k + 1) from (ni_le (a := 13) (by omega) (by omega)).mpr (by omega))]
  | succ j ih =>
    intro k F B hw hn ht hk hp hF
    obtain ⟨F, rfl⟩ : ∃ g, F = g + 1 := ⟨F - 1, by omega⟩
    rw [SJ_X11_advance_177]; dsimp only
    unfold pos at hp
    have hne : ¬ wd k = nm := by intro e; rw [if_pos e] at hp; cases hp
    rw [if_neg hne] at hp
    rw [if_neg (show ¬ (13 : Int32) ≤ ni (k + 1) from fun e => by have := (ni_le (a := 13) (by omega) (by omega)).mp e; omega), if_neg (by rw [ht]; simp), gdT ((ni_inb (by omega)).mpr (by omega)), ni_tn (by omega), hw k (by omega), hn, if_pos hne]
    unfold SJ_X11_advance_209
    rw [show ni (k + 1) + 1 = ni (k + 1 + 1) from ni_add (k + 1) 1]
    exact ih hw hn ht (by omega) hp (by omega)
theorem pos_none {wd : Nat → Int64} {x : Int64} : ∀ {j k : Nat}, (∀ i, k ≤ i → i < k + j → ¬ wd i = x) → pos wd x j k = none := by
  intro j
  induction j with
  | zero => intro k _; rfl
  | succ j ih => intro k h; unfold pos; rw [if_neg (h k (by omega) (by omega))]; exact ih fun i i1 i2 => h i (by omega) (by omega)
theorem pos_some {wd : Nat → Int64} {x : Int64} : ∀ {j k w : Nat}, pos wd x j k = some w → k ≤ w ∧ w < k + j ∧ wd w = x := by
  intro j
  induction j with
  | zero => intro k w h; cases h
  | succ j ih =>
    intro k w h
    unfold pos at h
    by_cases e : wd k = x
    · rw [if_pos e] at h; cases h; exact ⟨by omega, by omega, e⟩
    · rw [if_neg e] at h; have := ih h; exact ⟨by omega, by omega, this.2.2⟩
theorem adv177s {wd : Nat → Int64} {nm : Int64} (hd : ∀ i j, i < 12 → j < 12 → wd i = wd j → i = j) : ∀ {j k F w : Nat} {B : Mem}, (∀ i, i < 12 → gl B 183 (i + 1) = wd i) → gl B 181 8 = nm → gi B 181 6 = 0 → k + j = 12 → pos wd nm j k = some w → j < F → SJ_X11_advance_177 F (ni (k + 1)) B = SJ_X11_advance_215 (si B 181 10 (ni (w + 1))) := by
  intro j
  induction j with
  | zero => intro k F w B hw hn ht hk hp hF; cases hp
  | succ j ih =>
    intro k F w B hw hn ht hk hp hF
    obtain ⟨F, rfl⟩ : ∃ g, F = g + 1 := ⟨F - 1, by omega⟩
    rw [SJ_X11_advance_177]; dsimp only
    rw [if_neg (show ¬ (13 : Int32) ≤ ni (k + 1) from fun e => by have := (ni_le (a := 13) (by omega) (by omega)).mp e; omega), if_neg (by rw [ht]; simp), gdT ((ni_inb (by omega)).mpr (by omega)), ni_tn (by omega), hw k (by omega), hn]
    unfold SJ_X11_advance_209
    rw [show ni (k + 1) + 1 = ni (k + 1 + 1) from ni_add (k + 1) 1]
    unfold pos at hp
    by_cases e : wd k = nm
    · rw [if_pos e] at hp
      cases hp
      rw [if_neg (by simp [e])]
      exact adv177n (wd := wd) (nm := nm) (j := j) (k := k + 1) (B := si B 181 10 (ni (k + 1))) hw hn ((si_ff' (by omega)).trans ht) (by omega) (pos_none fun i i1 i2 ei => by have := hd i k (by omega) (by omega) (ei.trans e.symm); omega) (by omega)
    · rw [if_neg e] at hp
      rw [if_pos e]
      exact ih hw hn ht (by omega) hp (by omega)
/-- what the reference knows of the token at p -/
def RTk (B : Mem) (wd : Nat → Int64) (by_ : Nat → Nat) (n p : Nat) : Prop := gi B 181 7 = ni p ∧ (if n ≤ p then gi B 181 6 = 4 ∧ gi B 181 5 = ni n ∧ gi B 181 10 = 0 else gi B 181 5 = ni (tkE by_ n p) ∧
  (if isL (by_ p) then (if tkE by_ n p - p ≤ 8 then gl B 181 8 = nl (tkC by_ n p) ∧ (match pos wd (nl (tkC by_ n p)) 12 0 with
    | some w => gi B 181 6 = 2 ∧ gi B 181 10 = ni (w + 1)
    | none => gi B 181 6 = 0) else gi B 181 6 = 5) else if isD (by_ p) then (if tkE by_ n p - p ≤ 9 then gi B 181 6 = 1 ∧ gi B 181 9 = ni (tkC by_ n p) else gi B 181 6 = 5)
    else if isS (by_ p) then gi B 181 6 = 3 else gi B 181 6 = 5))
theorem adv_ok {wd : Nat → Int64} (hd : ∀ i j, i < 12 → j < 12 → wd i = wd j → i = j) : ∀ {g q F : Nat} {B : Mem}, RBy B n by_ → (∀ i, i < 12 → gl B 183 (i + 1) = wd i) → gi B 181 5 = ni q → q ≤ n → n ≤ q + g → g < F →
    ∃ B', SJ_X11_advance_0 F B = some ((), B') ∧ Ad B B' ∧ RTk B' wd by_ n (rnE isB by_ n g q) := by
  intro g
  induction g with
  | zero =>
    intro q F B hb hw h5 hq hg hF
    obtain ⟨F, rfl⟩ : ∃ g, F = g + 1 := ⟨F - 1, by omega⟩
    have hn := hb.1
    have eq : q = n := by omega
    subst eq
    refine ⟨si (si (si B 181 7 (ni q)) 181 10 0) 181 6 4, ?_, ((ad_si (by omega)).trans (ad_si (by omega))).trans (ad_si (by omega)), ?_, ?_⟩
    · rw [SJ_X11_advance_0]; dsimp only
      rw [h5, byteAt_ge hb (by omega) (by omega), bS]; dsimp only
      rw [if_neg (by decide), h5, byteAt_ge hb (by omega) (by omega), bS]; dsimp only
      rw [if_pos (by decide), show gi (si B 181 7 (gi B 181 5)) 181 5 = ni q from (si_ff' (by omega)).trans h5, byteAt_ge ((ad_si (by omega)).rby hb) (by omega) (by omega), bS]; dsimp only
      rw [if_neg (by decide), h5]
    · exact (si_ff' (by omega)).trans ((si_ff' (by omega)).trans si_eq)
    · rw [if_pos (by exact Nat.le_refl q)]
      exact ⟨si_eq, (si_ff' (by omega)).trans ((si_ff' (by omega)).trans ((si_ff' (by omega)).trans h5)), (si_ff' (by omega)).trans si_eq⟩
  | succ g ih =>
    intro q F B hb hw h5 hq hg hF
    have hn := hb.1
    by_cases hqn : q < n
    · obtain ⟨F, rfl⟩ : ∃ g, F = g + 1 := ⟨F - 1, by omega⟩
      have hb2 := (hb.2.2 q hqn).1
      unfold rnE
      by_cases hB : isB (by_ q) = true
      · rw [if_pos ⟨hqn, hB⟩]
        have ad : Ad B (si B 181 5 (ni (q + 1))) := ad_si (by omega)
        obtain ⟨B', r1, r2, r3⟩ := ih (q := q + 1) (F := F) (B := si B 181 5 (ni (q + 1))) (ad.rby hb) hw si_eq (by omega) (by omega) (by omega)
        refine ⟨B', ?_, ad.trans r2, r3⟩
        rw [← r1, SJ_X11_advance_0]; dsimp only
        rw [h5, byteAt_lt hb hqn, bS]; dsimp only
        unfold SJ_X11_advance_26
        have hB := of_decide_eq_true hB
        by_cases e : by_ q = 10
        · rw [e, if_pos (show ni 10 = 10 from rfl), h5, show ni q + 1 = ni (q + 1) from ni_add q 1]
        · rw [if_neg (show ¬ ni (by_ q) = 10 from fun h => e ((ni_inj (b := 10) (by omega) (by omega)).mp h)), h5, byteAt_lt hb hqn, bS]; dsimp only
          rw [if_neg (show ¬ ¬ ni (by_ q) = 32 by rw [show by_ q = 32 by omega]; simp; rfl), h5, show ni q + 1 = ni (q + 1) from ni_add q 1]
      · rw [if_neg (fun e => hB e.2)]
        have hB : ¬ _ := fun q => hB (decide_eq_true q)
        have gt := tkE_gt (by_ := by_) hqn
        have a0 : Ad B (si B 181 7 (ni q)) := ad_si (by omega)
        have a1 : Ad B (si (si B 181 7 (ni q)) 181 10 0) := a0.trans (ad_si (by omega))
        have start : ∀ r, ((L_X11_isLetter (ni (by_ q)) (si (si B 181 7 (ni q)) 181 10 0)).bind fun w10 =>
            if w10.1 = 0 then ((L_X11_isDigit (ni (by_ q)) w10.2).bind fun w11 =>
            if w11.1 = 0 then ((L_X11_isSignByte (ni (by_ q)) (si w11.2 181 5 ((gi w11.2 181 5) + (1 : Int32)))).bind fun w12 =>
            if w12.1 = 0 then (SJ_X11_advance_355 (5 : Int32) w12.2) else (SJ_X11_advance_355 (3 : Int32) w12.2))
            else (SJ_X11_advance_242 FU  (si w11.2 181 9 (0 : Int32))))
            else (SJ_X11_advance_85 FU  (sl w10.2 181 8 (0 : Int64)))) = r → SJ_X11_advance_0 (F + 1) B = r := by
          rintro r rfl
          rw [SJ_X11_advance_0]; dsimp only
          rw [h5, byteAt_lt hb hqn, bS]; dsimp only
          rw [if_neg (show ¬ ni (by_ q) = 10 from fun h => hB (Or.inl ((ni_inj (b := 10) (by omega) (by omega)).mp h))), h5, byteAt_lt hb hqn, bS]; dsimp only
          rw [if_pos (show ¬ ni (by_ q) = 32 from fun h => hB (Or.inr ((ni_inj (b := 32) (by omega) (by omega)).mp h))), h5, show gi (si B 181 7 (ni q)) 181 5 = ni q from (si_ff' (by omega)).trans h5, byteAt_lt (a0.rby hb) hqn, bS]; dsimp only
          rw [if_pos (show (0 : Int32) ≤ ni (by_ q) from (ni_le (a := 0) (by omega) (by omega)).mpr (by omega))]
        by_cases hL : isL (by_ q) = true
        · have eE : tkE by_ n q = rnE isL by_ n 1000 q := by unfold tkE; rw [if_pos hL]
          have a2 : Ad B (sl (si (si B 181 7 (ni q)) 181 10 0) 181 8 0) := a1.trans ad_sl
          obtain ⟨B1, b1, b2, b3, b4, b5, b6⟩ := adv85 (p := q) (g := 1000) (q := q) (F := FU) (a2.rby hb) (by rw [gi_sl]; exact (si_ff' (by omega)).trans ((si_ff' (by omega)).trans h5)) (by rw [gi_sl]; exact (si_ff' (by omega)).trans si_eq) (Nat.le_refl _) hq (by rw [Nat.sub_self]; exact sl_eq) (by omega) (by decide)
          rw [← eE] at b2 b4 b6
          have le := tkE_le (by_ := by_) hqn
          have b5 : gi B1 181 10 = 0 := b5.trans (by rw [gi_sl]; exact si_eq)
          have a3 := a2.trans b1
          have w3 : ∀ i, i < 12 → gl B1 183 (i + 1) = wd i := fun i hi => by rw [(a3.2.1 183 (by omega)).2]; exact hw i hi
          have go := start (if tkE by_ n q - q ≤ 8 then SJ_X11_advance_172 0 B1 else SJ_X11_advance_172 5 B1) (by rw [isLetter_ni hb2, bS]; dsimp only; rw [if_pos hL, if_neg (show ¬ (1 : Int32) = 0 by decide), b6])
          unfold SJ_X11_advance_172 at go
          by_cases h8 : tkE by_ n q - q ≤ 8
          · rw [if_pos h8] at go
            have eC : tkC by_ n q = vlN 32 96 by_ (tkE by_ n q - q) q 0 := by unfold tkC; rw [if_pos hL, if_pos h8]
            have b4 : gl B1 181 8 = nl (tkC by_ n q) := by rw [b4, eC, show m8 8 (tkE by_ n q - q) = tkE by_ n q - q from if_pos h8]
            cases hp : pos wd (nl (tkC by_ n q)) 12 0 with
            | none =>
              rw [show (1 : Int32) = ni (0 + 1) from rfl, adv177n (wd := wd) (nm := nl (tkC by_ n q)) (j := 12) (k := 0) (F := FU) (B := si B1 181 6 0) w3 b4 si_eq rfl hp (by decide)] at go
              have z : gi (si B1 181 6 0) 181 10 = 0 := (si_ff' (by omega)).trans b5
              unfold SJ_X11_advance_215 at go
              rw [z, if_pos (by decide)] at go
              refine ⟨_, go, a3.trans (ad_si (by omega)), (si_ff' (by omega)).trans b3, ?_⟩
              rw [if_neg (by omega), if_pos hL, if_pos h8, hp]
              exact ⟨(si_ff' (by omega)).trans b2, b4, si_eq⟩
            | some w =>
              have hw12 := pos_some hp
              rw [show (1 : Int32) = ni (0 + 1) from rfl, adv177s (wd := wd) (nm := nl (tkC by_ n q)) hd (j := 12) (k := 0) (F := FU) (B := si B1 181 6 0) w3 b4 si_eq rfl hp (by decide)] at go
              unfold SJ_X11_advance_215 at go
              rw [si_eq, if_neg (show ¬ ni (w + 1) ≤ 0 from fun e => by have := (ni_le (b := 0) (by omega) (by omega)).mp e; omega)] at go
              refine ⟨_, go, ((a3.trans (ad_si (by omega))).trans (ad_si (by omega))).trans (ad_si (by omega)), (si_ff' (by omega)).trans ((si_ff' (by omega)).trans ((si_ff' (by omega)).trans b3)), ?_⟩
              rw [if_neg (by omega), if_pos hL, if_pos h8, hp]
              exact ⟨(si_ff' (by omega)).trans ((si_ff' (by omega)).trans ((si_ff' (by omega)).trans b2)), b4, si_eq, (si_ff' (by omega)).trans si_eq⟩
          · rw [if_neg h8] at go
            have stop : SJ_X11_advance_177 FU 1 (si B1 181 6 5) = some ((), si B1 181 6 5) := by
              rw [show FU = 3999999 + 1 from rfl, SJ_X11_advance_177]; dsimp only
              rw [if_neg (by decide), if_pos (by rw [si_eq]; decide)]
              unfold SJ_X11_advance_215
              rw [show gi (si B1 181 6 5) 181 10 = 0 from (si_ff' (by omega)).trans b5, if_pos (by decide)]
            rw [stop] at go
            refine ⟨_, go, a3.trans (ad_si (by omega)), (si_ff' (by omega)).trans b3, ?_⟩
            rw [if_neg (by omega), if_pos hL, if_neg h8]
            exact ⟨(si_ff' (by omega)).trans b2, si_eq⟩
        · by_cases hD : isD (by_ q) = true
          · have eE : tkE by_ n q = rnE isD by_ n 1000 q := by unfold tkE; rw [if_neg hL, if_pos hD]
            have a2 : Ad B (si (si (si B 181 7 (ni q)) 181 10 0) 181 9 0) := a1.trans (ad_si (by omega))
            obtain ⟨B1, b1, b2, b3, b4, b5, b6⟩ := adv242 (p := q) (g := 1000) (q := q) (F := FU) (a2.rby hb) ((si_ff' (by omega)).trans ((si_ff' (by omega)).trans ((si_ff' (by omega)).trans h5))) ((si_ff' (by omega)).trans ((si_ff' (by omega)).trans si_eq)) (Nat.le_refl _) hq (by rw [Nat.sub_self]; exact si_eq) (by omega) (by decide)
            rw [← eE] at b2 b4 b6
            have go := start (some ((), si B1 181 6 (if tkE by_ n q - q ≤ 9 then 1 else 5))) (by rw [isLetter_ni hb2, bS]; dsimp only; rw [if_neg hL, if_pos rfl, isDigit_ni hb2, bS]; dsimp only; rw [if_pos hD, if_neg (show ¬ (1 : Int32) = 0 by decide), b6])
            refine ⟨_, go, (a2.trans b1).trans (ad_si (by omega)), (si_ff' (by omega)).trans b3, ?_⟩
            rw [if_neg (by omega), if_neg hL, if_pos hD]
            refine ⟨(si_ff' (by omega)).trans b2, ?_⟩
            by_cases h8 : tkE by_ n q - q ≤ 9
            · have eC : tkC by_ n q = vlN 10 48 by_ (tkE by_ n q - q) q 0 := by unfold tkC; rw [if_neg hL, if_pos hD, if_pos h8]
              rw [if_pos h8, if_pos h8]
              refine ⟨si_eq, (si_ff' (by omega)).trans ?_⟩
              rw [b4, eC, show m8 9 (tkE by_ n q - q) = tkE by_ n q - q from if_pos h8]
            · rw [if_neg h8, if_neg h8]; exact si_eq
          · have eE : tkE by_ n q = q + 1 := by unfold tkE; rw [if_neg hL, if_neg hD]
            have e5 : gi (si (si B 181 7 (ni q)) 181 10 0) 181 5 + 1 = ni (q + 1) := by
              rw [show gi (si (si B 181 7 (ni q)) 181 10 0) 181 5 = ni q from (si_ff' (by omega)).trans ((si_ff' (by omega)).trans h5)]; exact ni_add q 1
            have a2 : Ad B (si (si (si B 181 7 (ni q)) 181 10 0) 181 5 (ni (q + 1))) := a1.trans (ad_si (by omega))
            have go := start (some ((), si (si (si (si B 181 7 (ni q)) 181 10 0) 181 5 (ni (q + 1))) 181 6 (if isS (by_ q) then 3 else 5))) (by
              rw [isLetter_ni hb2, bS]; dsimp only; rw [if_neg hL, if_pos rfl, isDigit_ni hb2, bS]; dsimp only; rw [if_neg hD, if_pos rfl, e5, isSign_ni hb2, bS]; dsimp only
              unfold SJ_X11_advance_355
              by_cases hS : isS (by_ q) = true
              · rw [if_pos hS, if_pos hS, if_neg (by decide)]
              · rw [if_neg hS, if_neg hS, if_pos rfl])
            refine ⟨_, go, a2.trans (ad_si (by omega)), (si_ff' (by omega)).trans ((si_ff' (by omega)).trans ((si_ff' (by omega)).trans si_eq)), ?_⟩
            rw [if_neg (by omega), if_neg hL, if_neg hD, eE]
            refine ⟨(si_ff' (by omega)).trans si_eq, ?_⟩
            by_cases hS : isS (by_ q) = true
            · rw [if_pos hS, if_pos hS]; exact si_eq
            · rw [if_neg hS, if_neg hS]; exact si_eq
    · have e0 : rnE isB by_ n (g + 1) q = rnE isB by_ n 0 q := rnE_fu (by omega) (by omega)
      have eq : q = n := by omega
      subst eq
      obtain ⟨F, rfl⟩ : ∃ g, F = g + 1 := ⟨F - 1, by omega⟩
      rw [e0]
      refine ⟨si (si (si B 181 7 (ni q)) 181 10 0) 181 6 4, ?_, ((ad_si (by omega)).trans (ad_si (by omega))).trans (ad_si (by omega)), ?_, ?_⟩
      · rw [SJ_X11_advance_0]; dsimp only
        rw [h5, byteAt_ge hb (by omega) (by omega), bS]; dsimp only
        rw [if_neg (by decide), h5, byteAt_ge hb (by omega) (by omega), bS]; dsimp only
        rw [if_pos (by decide), show gi (si B 181 7 (gi B 181 5)) 181 5 = ni q from (si_ff' (by omega)).trans h5, byteAt_ge ((ad_si (by omega)).rby hb) (by omega) (by omega), bS]; dsimp only
        rw [if_neg (by decide), h5]
      · exact (si_ff' (by omega)).trans ((si_ff' (by omega)).trans si_eq)
      · rw [if_pos (by exact Nat.le_refl q)]
        exact ⟨si_eq, (si_ff' (by omega)).trans ((si_ff' (by omega)).trans ((si_ff' (by omega)).trans h5)), (si_ff' (by omega)).trans si_eq⟩
end Adv
