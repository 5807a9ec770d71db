-- needs: 74.sclsb 75.num 76.rel 77.cong 78.sim 79.qa 79.qb 79.ra 79.rb 79.rc 79.rd 79.re
-- ===== formulas, side by side =====
theorem ni_nn {a b : Nat} {x : Int32} (hx : x = ni b) (ha : a < 2147483648) (hb : b < 2147483648) (hne : a ≠ b) : ¬ ni a = x := by
  subst hx; exact fun e => hne ((ni_inj ha hb).mp e)
theorem packRef {Y nm : Nat} (hY : Y < 30) (hn : nm < 1099511627776) : ((ni Y).toInt64 <<< ((40 : Int32).toInt64 &&& 63)) ||| nl nm = nl (Y * 1099511627776 + nm) := by
  rw [ni_l (by omega)]
  apply Int64.toBitVec_inj.mp
  rw [Int64.toBitVec_or]
  have e : (nl Y <<< ((40 : Int32).toInt64 &&& 63)).toBitVec = BitVec.ofNat 64 Y <<< 40 := by
    rw [show ((40 : Int32).toInt64 &&& 63) = (40 : Int64) by decide]
    show (BitVec.ofNat 64 Y) <<< (BitVec.smod 40#64 64#64) = _
    rw [show BitVec.smod 40#64 64#64 = 40#64 by decide]
    rfl
  rw [e]
  show BitVec.ofNat 64 Y <<< 40 ||| BitVec.ofNat 64 nm = BitVec.ofNat 64 (Y * 1099511627776 + nm)
  apply BitVec.eq_of_toNat_eq
  rw [BitVec.toNat_or, BitVec.toNat_shiftLeft, BitVec.toNat_ofNat, BitVec.toNat_ofNat, BitVec.toNat_ofNat]
  rw [Nat.mod_eq_of_lt (show Y < 2 ^ 64 by omega), Nat.mod_eq_of_lt (show nm < 2 ^ 64 by omega), Nat.mod_eq_of_lt (show Y * 1099511627776 + nm < 2 ^ 64 by omega), Nat.mod_eq_of_lt (show Y <<< 40 < 2 ^ 64 by rw [Nat.shiftLeft_eq]; omega)]
  rw [← Nat.shiftLeft_add_eq_or_of_lt (show nm < 2 ^ 40 by omega), Nat.shiftLeft_eq]
section Lk
variable (by_ : Nat → Nat) (n T own : Nat) (wd : Nat → Int64)
def OkP (k : Bool × Nat) (h i c r : Nat) (A B A' B' : Mem) : Prop := ∃ i' m, R by_ n T own wd i' (c + m) (r + m) A' B' ∧ Kb c r A B A' B' ∧ pfN by_ n i + m ≤ pfN by_ n i' ∧ EF k own c r m h A' B' ∧ gi B' 181 31 = gi B 181 31
def LkP (k : Bool × Nat) (h b i c r : Nat) (A B : Mem) (x y : Option (Unit × Mem)) : Prop := ∃ A' B', x = some ((), A') ∧ y = some ((), B') ∧ FrC A A' ∧ FrB B B' ∧ (Bk by_ n T own wd b A' B' ∨ OkP by_ n T own wd k h i c r A B A' B')
/-- what is known of the choices within -/
def Rec (qq v b : Nat) (rC : Int32 → Mem → Option (Unit × Mem)) (rR : Mem → Option (Unit × Mem)) : Prop :=
  (∀ i c r A B, R by_ n T own wd i c r A B → gi B 181 31 = ni (v - 1) → CxQ qq A → c ≤ pfN by_ n i + 60 → r ≤ pfN by_ n i + 60 → ∃ A' B', rC (ni v) A = some ((), A') ∧ rR B = some ((), B') ∧ FrC A A' ∧ FrB B B' ∧ (Bk by_ n T own wd b A' B' ∨ (v ≤ 12 ∧ OkP by_ n T own wd (false, qq) (4 + 3 * (12 - v)) i c r A B A' B'))) ∧
  (∀ A B b', Bk by_ n T own wd b' A B → rC (ni v) A = some ((), A)) ∧ ∀ B : Mem, ¬ gi B 181 11 = 0 → rR B = some ((), B)
end Lk
section Lm
variable {by_ : Nat → Nat} {n T own : Nat} {wd : Nat → Int64} {A B : Mem} {i c r : Nat}
theorem R.p9 (h : R by_ n T own wd i c r A B) : pfN by_ n i ≤ 900 := Nat.le_trans (h.1.ple h.2.1) h.1.n9
theorem isSign_n {b : Nat} {x : Int32} (h : R by_ n T own wd i c r A B) (hx : x = ni b) (b1 : 4 < b) (b2 : b < 256) (hk : kap by_ n T wd i ≠ b) : S_X11_isSign x B = some (0, B) := by
  subst hx; rw [isSign_eq h b1 b2, if_neg hk]
theorem isSign_y {b : Nat} {x : Int32} (h : R by_ n T own wd i c r A B) (hx : x = ni b) (b1 : 4 < b) (b2 : b < 256) (hk : kap by_ n T wd i = b) : S_X11_isSign x B = some (1, B) := by
  subst hx; rw [isSign_eq h b1 b2, if_pos hk]
theorem isWord_n {w : Nat} {x : Int32} (h : R by_ n T own wd i c r A B) (hx : x = ni (w + 1)) (b2 : w < 12) (hk : kap by_ n T wd i ≠ 300 + w) : S_X11_isWord x B = some (0, B) := by
  subst hx; rw [isWord_eq h b2, if_neg hk]
theorem isWord_y {w : Nat} {x : Int32} (h : R by_ n T own wd i c r A B) (hx : x = ni (w + 1)) (b2 : w < 12) (hk : kap by_ n T wd i = 300 + w) : S_X11_isWord x B = some (1, B) := by
  subst hx; rw [isWord_eq h b2, if_pos hk]
theorem takes_y {b : Nat} {x : Int32} (h : R by_ n T own wd i c r A B) (hx : x = ni b) (b1 : 4 < b) (b2 : b < 256) (hk : kap by_ n T wd i = b) : ∃ B', S_X11_takes x B = some (1, B') ∧ R by_ n T own wd (i + 1) c r (si A 7 2 (gi A 7 2 + 1)) B' ∧ Ad B B' ∧ pfN by_ n i + 1 ≤ pfN by_ n (i + 1) := by
  subst hx
  obtain ⟨B', r1, r2, r3, r4⟩ := adv h (by omega)
  refine ⟨B', ?_, r2, r3, r4⟩
  unfold S_X11_takes
  rw [h.2.2.2.2.1, if_neg (by simp), isSign_eq h b1 b2, bS]; dsimp only
  rw [if_pos hk, if_pos (by decide), r1, bS]
theorem takes_n {b : Nat} {x : Int32} (h : R by_ n T own wd i c r A B) (hx : x = ni b) (b1 : 4 < b) (b2 : b < 256) (hk : kap by_ n T wd i ≠ b) : S_X11_takes x B = some (0, B) := by
  subst hx
  unfold S_X11_takes
  rw [h.2.2.2.2.1, if_neg (by simp), isSign_eq h b1 b2, bS]; dsimp only
  rw [if_neg hk, if_neg (by simp)]
theorem take_y {b : Nat} {x : Int32} (h : R by_ n T own wd i c r A B) (hx : x = ni b) (hk : kap by_ n T wd i = b) : S_X4_take x A = some (1, si A 7 2 (gi A 7 2 + 1)) := by
  subst hx
  unfold S_X4_take
  rw [kind_eq h, bS]; dsimp only
  rw [hk, if_pos rfl]
theorem take_n {b : Nat} {x : Int32} (h : R by_ n T own wd i c r A B) (hx : x = ni b) (b2 : b < 400) (hk : kap by_ n T wd i ≠ b) : S_X4_take x A = (S_X4_reject A).bind fun w => some (0, w.2) := by
  have := kap_lt h
  unfold S_X4_take
  rw [kind_eq h, bS]; dsimp only
  rw [if_neg (ni_nn hx (by omega) (by omega) hk)]
theorem lk_take {b : Nat} {x : Int32} (h : R by_ n T own wd i c r A B) (hc : c ≤ 1024) (hx : x = ni b) (b1 : 4 < b) (b2 : b < 256) : ∃ y A' B', S_X4_take x A = some (y, A') ∧ S_X11_must x B = some ((), B') ∧ FrC A A' ∧ FrB B B' ∧ (Bk by_ n T own wd r A' B' ∨ (kap by_ n T wd i = b ∧ A' = si A 7 2 (gi A 7 2 + 1) ∧ Ad B B' ∧ R by_ n T own wd (i + 1) c r A' B' ∧ pfN by_ n i + 1 ≤ pfN by_ n (i + 1))) := by
  by_cases hk : kap by_ n T wd i = b
  · obtain ⟨B', r1, r2, r3, r4⟩ := adv h (by omega)
    refine ⟨1, si A 7 2 (gi A 7 2 + 1), B', take_y h hx hk, ?_, frC_7 (by omega), r3.fr, Or.inr ⟨hk, rfl, r3, r2, r4⟩⟩
    subst hx
    unfold S_X11_must
    rw [h.2.2.2.2.1, if_pos rfl, isSign_eq h b1 b2, bS]; dsimp only
    rw [if_pos hk, if_neg (by decide), r1, bS]
  · obtain ⟨A', B', r1, r2, r3, r4, r5⟩ := stop h hc
    refine ⟨0, A', B', ?_, ?_, r3, r4, Or.inl r5⟩
    · rw [take_n h hx (by omega) hk, r1, bS]
    · subst hx
      unfold S_X11_must
      rw [h.2.2.2.2.1, if_pos rfl, isSign_eq h b1 b2, bS]; dsimp only
      rw [if_neg hk, if_pos rfl, r2, bS]
theorem FI.lt (h : R by_ n T own wd i c r A B) (hk : kap by_ n T wd i < 300) : gi A 7 6 = 0 ∨ ∃ p, gi A 7 7 = ni p ∧ p < pfN by_ n i := by
  rcases h.2.2.2.2.2.2.1.2.2 with q | ⟨q, q1, q2⟩
  · exact Or.inl q
  · refine Or.inr ⟨q, q1, ?_⟩
    rcases q2 with q2 | ⟨_, q2, _⟩ <;> omega
theorem FI.at (h : R by_ n T own wd i c r A B) : gi A 7 6 = 0 ∨ ∃ p, gi A 7 7 = ni p ∧ (p < pfN by_ n i ∨ (p = pfN by_ n i ∧ gi A 7 6 = ni (fk (kap by_ n T wd i)))) := by
  rcases h.2.2.2.2.2.2.1.2.2 with q | ⟨q, q1, q2⟩
  · exact Or.inl q
  · refine Or.inr ⟨q, q1, ?_⟩
    rcases q2 with q2 | ⟨q2, _, q3⟩
    · exact Or.inl q2
    · exact Or.inr ⟨q2, q3⟩
theorem lk_year {m q : Nat} (h : R by_ n T own wd i c r A B) (hm : m < 1000000000) (hq : q < pfN by_ n i) (ho : gi A 7 6 = 0 ∨ ∃ p, gi A 7 7 = ni p ∧ p < q) :
    ∃ A' B' Y, S_X4_leanOn (nl m) (ni q) A = some (ni Y, A') ∧ S_X11_yearOf (ni m) (ni q) B = some (if Y = own then -1 else ni Y, B') ∧ Y < 30 ∧ (Y ≠ own → bt (gi A' 8 1) Y = true) ∧ R by_ n T own wd i c r A' B' ∧ FrC A A' ∧ FrB B B' ∧ Kb c r A B A' B' ∧ gi B' 181 31 = gi B 181 31 ∧ (¬ (1700 ≤ m ∧ m < 1730 ∧ m - 1700 ≠ own) → ¬ gi A' 7 6 = 0) ∧ (Y = own → ¬ gi A' 7 6 = 0) := by
  have o30 : own < 30 := h.1.2.2.2.2.2.2.2.2.2.2.1
  have hA3 : gi A 7 3 = ni own := h.1.2.2.2.2.2.2.2.2.1
  have hB12 : gi B 181 12 = ni own := h.1.2.2.2.2.2.2.2.2.2.1
  have bad : ∃ A' B', SJ_X4_leanOn_21 (ni q) A = some (ni own, A') ∧ SJ_X11_yearOf_26 (ni q) B = some (-1, B') ∧ R by_ n T own wd i c r A' B' ∧ FrC A A' ∧ FrB B B' ∧ Kb c r A B A' B' ∧ gi B' 181 31 = gi B 181 31 ∧ ¬ gi A' 7 6 = 0 := by
    obtain ⟨A', B', t1, t2, t3, t4, t5, t6, t7, t8, t9, t10, t11, t12, t13⟩ := tell (k := 3) (q := q) h (by omega) (by omega) (by omega) (Or.inl hq) (by
      rcases ho with ho | ⟨p, p1, p2⟩
      · exact Or.inl ho
      · exact Or.inr ⟨p, p1, Or.inl p2⟩)
    refine ⟨A', B', ?_, ?_, t5, t3, t4, ⟨fun j _ => ⟨by rw [t6], by rw [t7]⟩, fun j _ => ⟨by rw [t9], by rw [t10], by rw [t11]⟩, fun Y e => by rw [t8]; exact e, fun _ => t13⟩, t12, t13⟩
    · unfold SJ_X4_leanOn_21
      rw [show (3 : Int32) = ni 3 from rfl, t1, bS]; dsimp only
      rw [t5.1.2.2.2.2.2.2.2.2.1]
    · unfold SJ_X11_yearOf_26
      rw [show (3 : Int32) = ni 3 from rfl, t2, bS]
  unfold S_X4_leanOn S_X11_yearOf L_X10_yearIndex
  by_cases h1 : m < 1700
  · obtain ⟨A', B', b1, b2, b3, b4, b5, b6, b7, b8⟩ := bad
    refine ⟨A', B', own, ?_, ?_, o30, fun e => absurd rfl e, b3, b4, b5, b6, b7, fun _ => b8, fun _ => b8⟩
    · rw [if_pos (show nl m < 1700 from (nl_lt (b := 1700) (by omega) (by omega)).mpr h1), bS]; dsimp only
      rw [if_pos rfl]; exact b1
    · rw [if_pos (show ni m < 1700 from (ni_lt (b := 1700) (by omega) (by omega)).mpr h1), if_pos rfl]; exact b2
  · rw [if_neg (show ¬ nl m < 1700 from fun e => h1 ((nl_lt (b := 1700) (by omega) (by omega)).mp e)), if_neg (show ¬ ni m < 1700 from fun e => h1 ((ni_lt (b := 1700) (by omega) (by omega)).mp e))]
    by_cases h2 : 1730 ≤ m
    · obtain ⟨A', B', b1, b2, b3, b4, b5, b6, b7, b8⟩ := bad
      refine ⟨A', B', own, ?_, ?_, o30, fun e => absurd rfl e, b3, b4, b5, b6, b7, fun _ => b8, fun _ => b8⟩
      · rw [if_pos (show (1730 : Int64) ≤ nl m from (nl_le (a := 1730) (by omega) (by omega)).mpr h2), bS]; dsimp only
        rw [if_pos rfl]; exact b1
      · rw [if_pos (show (1730 : Int32) ≤ ni m from (ni_le (a := 1730) (by omega) (by omega)).mpr h2), if_pos rfl]; exact b2
    · rw [if_neg (show ¬ (1730 : Int64) ≤ nl m from fun e => h2 ((nl_le (a := 1730) (by omega) (by omega)).mp e)), if_neg (show ¬ (1730 : Int32) ≤ ni m from fun e => h2 ((ni_le (a := 1730) (by omega) (by omega)).mp e)), bS]
      dsimp only
      rw [nl_i, show ni m - 1700 = ni (m - 1700) from ni_sub (a := m) (b := 1700) (by omega), if_neg (ni_ne1 (by omega))]
      by_cases h3 : m - 1700 = own
      · obtain ⟨A', B', b1, b2, b3, b4, b5, b6, b7, b8⟩ := bad
        refine ⟨A', B', own, ?_, ?_, o30, fun e => absurd rfl e, b3, b4, b5, b6, b7, fun _ => b8, fun _ => b8⟩
        · rw [hA3, h3, if_neg (by simp)]; exact b1
        · rw [hB12, h3, if_neg (by simp), if_pos rfl]; exact b2
      · have ne : ¬ ni (m - 1700) = ni own := fun e => h3 ((ni_inj (by omega) (by omega)).mp e)
        have fA : FrC A (si A 8 1 (gi A 8 1 ||| 1 <<< (ni (m - 1700) &&& 31))) := frC_8 (by omega)
        have fB : FrB B (si B 181 35 (gi B 181 35 ||| 1 <<< (ni (m - 1700) &&& 31))) := frB_f (by omega)
        obtain ⟨hs, d1, d2, d3, d4, d5, d6, d7, d8, d9⟩ := h
        refine ⟨_, _, m - 1700, by rw [hA3, if_pos ne], by rw [hB12, if_pos ne, if_neg h3], by omega, fun _ => ?_, ⟨st_fr hs fA fB, d1, ?_, ?_, ?_, ?_, ?_, ?_, ?_, ?_⟩, fA, fB, ⟨fun j _ => ⟨?_, rfl⟩, fun j _ => ⟨?_, rfl, ?_⟩, fun Y e => ?_, fun e => ?_⟩, ?_, fun e => absurd ⟨by omega, by omega, h3⟩ e, fun e => absurd e h3⟩
        · rw [si_eq, bt_or, bt_one (by omega) (by omega)]; simp
        · rw [gi_ne (by omega)]; exact d2
        · rw [gi_ne (by omega)]; exact d3
        · rw [si_ff' (by omega)]; exact d4
        · exact rtk_cg d5 (si_ff' (by omega)) (si_ff' (by omega)) (si_ff' (by omega)) (si_ff' (by omega)) (si_ff' (by omega)) rfl
        · rw [gi_ne (by omega), si_ff' (by omega), si_ff' (by omega)]; exact d6
        · rw [si_ff' (by omega)]; exact d7
        · rw [si_ff' (by omega)]; exact d8
        · rw [si_eq, si_eq, d9]
        · rw [gi_ne (by omega)]
        · rw [gi_ne (by omega)]
        · rw [gi_ne (by omega)]
        · rw [si_eq, bt_or, e]; rfl
        · rw [gi_ne (by omega)]; exact e
        · rw [si_ff' (by omega)]
/-- a piece is written in both -/
theorem lk_em {o w z : Int32} {a v : Int64} (h : R by_ n T own wd i c r A B) (hc : c < 1024) (hr : r < 2000) : S_X0_emit o a A = some (ni c, emA A c o a) ∧ S_X11_emit w v z B = some ((), emB B r w v z) ∧ R by_ n T own wd i (c + 1) (r + 1) (emA A c o a) (emB B r w v z) :=
  ⟨emC_eq h.2.2.2.2.2.2.2.1 hc, emR_eq h.2.2.2.2.2.2.2.2.1 hr, r_emB (r_emA h)⟩
end Lm
