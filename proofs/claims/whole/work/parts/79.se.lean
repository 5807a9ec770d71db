-- ===== names, consts: the class =====
theorem id_div {y k : Nat} (hy : y < 30) (hk : k < 8) : ni (8 * y + k) / 8 = ni y ∧ ni (8 * y + k) - ni y * 8 = ni k := by
  have : ∀ (y : Fin 30) (k : Fin 8), ni (8 * y.val + k.val) / 8 = ni y.val ∧ ni (8 * y.val + k.val) - ni y.val * 8 = ni k.val := by decide +kernel
  exact this ⟨y, hy⟩ ⟨k, hk⟩
section Pk
variable {Y nm : Nat} (hY : Y < 30) (hn : nm < 1099511627776)
theorem unp_nm (hY : Y < 30) (hn : nm < 1099511627776) : nl (Y * 1099511627776 + nm) &&& 1099511627775 = nl nm := by
  apply Int64.toBitVec_inj.mp
  rw [Int64.toBitVec_and]
  show BitVec.ofNat 64 (Y * 1099511627776 + nm) &&& BitVec.ofNat 64 1099511627775 = BitVec.ofNat 64 nm
  apply BitVec.eq_of_toNat_eq
  rw [BitVec.toNat_and, BitVec.toNat_ofNat, BitVec.toNat_ofNat, BitVec.toNat_ofNat, Nat.mod_eq_of_lt (show Y * 1099511627776 + nm < 2 ^ 64 by omega), Nat.mod_eq_of_lt (show nm < 2 ^ 64 by omega)]
  rw [show 1099511627775 % 2 ^ 64 = 2 ^ 40 - 1 by decide, Nat.and_two_pow_sub_one_eq_mod]
  omega
theorem unp_y (hY : Y < 30) (hn : nm < 1099511627776) : ((nl (Y * 1099511627776 + nm)).toUInt64 >>> ((40 : Int32).toInt64.toUInt64 &&& Int64.toUInt64 63)).toInt64.toInt32 = ni Y := by
  apply Int32.toBitVec_inj.mp
  rw [Int64.toBitVec_toInt32]
  have e : ((nl (Y * 1099511627776 + nm)).toUInt64 >>> ((40 : Int32).toInt64.toUInt64 &&& Int64.toUInt64 63)).toInt64.toBitVec = BitVec.ofNat 64 Y := by
    rw [show ((40 : Int32).toInt64.toUInt64 &&& Int64.toUInt64 63) = (40 : UInt64) by decide]
    show BitVec.ofNat 64 (Y * 1099511627776 + nm) >>> (40#64 % 64) = _
    rw [show (40#64 % 64 : BitVec 64) = 40#64 by decide]
    apply BitVec.eq_of_toNat_eq
    show (BitVec.ofNat 64 (Y * 1099511627776 + nm) >>> 40).toNat = _
    rw [BitVec.toNat_ushiftRight, BitVec.toNat_ofNat, BitVec.toNat_ofNat, Nat.mod_eq_of_lt (show Y * 1099511627776 + nm < 2 ^ 64 by omega), Nat.mod_eq_of_lt (show Y < 2 ^ 64 by omega), Nat.shiftRight_eq_div_pow]
    omega
  rw [e]
  show BitVec.signExtend 32 (BitVec.ofNat 64 Y) = BitVec.ofNat 32 Y
  rw [BitVec.signExtend_eq_setWidth_of_le _ (by decide), BitVec.setWidth_ofNat_of_le (by decide)]
theorem unp_s (hY : Y < 30) (hn : nm < 1099511627776) : (nl (Y * 1099511627776 + nm) >>> 40).toInt32 = ni Y := by
  apply Int32.toBitVec_inj.mp
  rw [Int64.toBitVec_toInt32]
  have e : (nl (Y * 1099511627776 + nm) >>> 40).toBitVec = BitVec.ofNat 64 Y := by
    show (BitVec.ofNat 64 (Y * 1099511627776 + nm)).sshiftRight' (BitVec.smod 40#64 64#64) = _
    rw [show BitVec.smod 40#64 64#64 = 40#64 by decide]
    show (BitVec.ofNat 64 (Y * 1099511627776 + nm)).sshiftRight 40 = _
    have hm : (BitVec.ofNat 64 (Y * 1099511627776 + nm)).msb = false := by
      rw [BitVec.msb_eq_decide, BitVec.toNat_ofNat, Nat.mod_eq_of_lt (show Y * 1099511627776 + nm < 2 ^ 64 by omega)]
      exact decide_eq_false (by omega)
    rw [BitVec.sshiftRight_eq_of_msb_false hm]
    apply BitVec.eq_of_toNat_eq
    rw [BitVec.toNat_ushiftRight, BitVec.toNat_ofNat, BitVec.toNat_ofNat, Nat.mod_eq_of_lt (show Y * 1099511627776 + nm < 2 ^ 64 by omega), Nat.mod_eq_of_lt (show Y < 2 ^ 64 by omega), Nat.shiftRight_eq_div_pow]
    omega
  rw [e]
  show BitVec.signExtend 32 (BitVec.ofNat 64 Y) = BitVec.ofNat 32 Y
  rw [BitVec.signExtend_eq_setWidth_of_le _ (by decide), BitVec.setWidth_ofNat_of_le (by decide)]
end Pk
/-- the classes of the class, as far as consts and names go -/
def ClO (A : Mem) : Prop := FSC A ∧ ∀ y, y < 30 → ∀ s, gr A (21 + 4 * y) 0 = some s → ShO A s ∧ (gi A s 0 = -1 ∨ ∃ u, u < 30 ∧ gi A s 0 = ni u) ∧ (ln A (s + 1) ≤ 1024 ∧ ln A (s + 3) ≤ 8 ∧ ln A (s + 5) ≤ 6) ∧
  ∀ k, k < ln A (s + 3) → ∃ c n, gi A (s + 4) k = ni c ∧ c + n < ln A (s + 1) ∧ gi A (s + 1) (c + n) = 20 ∧ ∀ pc, c ≤ pc → pc < c + n → ¬ gi A (s + 1) pc = 20 ∧ (gi A (s + 1) pc = 3 → ∃ Y nm : Nat, Y < 30 ∧ nm < 1099511627776 ∧ gl A (s + 2) pc = nl (Y * 1099511627776 + nm))
theorem e2_lin {own : Nat} {ld : Int32} {o : Nat → Int32} {a : Nat → Int64} {w : Nat → Int32} {v : Nat → Int64} {z : Nat → Int32} {c r n h : Nat} (e : E2 true 0 own ld o a w v z c r n h) : ∀ pc, c ≤ pc → pc < c + n → ¬ o pc = 20 ∧ (o pc = 3 → ∃ Y nm : Nat, Y < 30 ∧ nm < 1099511627776 ∧ a pc = nl (Y * 1099511627776 + nm)) := by
  refine e (fun c r n h => ∀ pc, c ≤ pc → pc < c + n → ¬ o pc = 20 ∧ (o pc = 3 → ∃ Y nm : Nat, Y < 30 ∧ nm < 1099511627776 ∧ a pc = nl (Y * 1099511627776 + nm))) ⟨?_, ?_, ?_, ?_, ?_, ?_, ?_, ?_⟩
  · intro c r h n h1 h2 h3 h4 h5 h6 pc p1 p2
    rw [show pc = c by omega, h3]; exact ⟨by decide, fun q => absurd q (by decide)⟩
  · intro c r h h1 h2; cases h2
  · intro c r h j h1 h2; cases h2
  · intro c r h h1 h2 h3 h4 pc p1 p2
    rw [show pc = c by omega, h2]
    obtain ⟨Y, nm, g1, g2, g3, -⟩ := h4
    exact ⟨by decide, fun _ => ⟨Y, nm, g1, g2, g3⟩⟩
  · intro c r n h h1; cases h1
  · intro c r n h h1 h2 h3 pc p1 p2
    by_cases e : pc < c + n
    · exact h1 pc p1 e
    · rw [show pc = c + n by omega, h2]; exact ⟨by decide, fun q => absurd q (by decide)⟩
  · intro c r n m h g h1 h2 h3 h4 pc p1 p2
    by_cases e : pc < c + n
    · exact h1 pc p1 e
    · by_cases e2 : pc < c + n + m
      · exact h2 pc (by omega) e2
      · rw [show pc = c + n + m by omega]
        rcases h4 with h4 | h4 | h4 | ⟨h4, -⟩
        · rw [h4.1]; exact ⟨by decide, fun q => absurd q (by decide)⟩
        · rw [h4.1]; exact ⟨by decide, fun q => absurd q (by decide)⟩
        · rw [h4.1]; exact ⟨by decide, fun q => absurd q (by decide)⟩
        · cases h4
  · intro c r n m l h h1; cases h1
theorem clo_of {A B : Mem} (hF : FSC A) (h : ∀ y, y < 30 → ShR A B (gr A (21 + 4 * y) 0) (30 + y) y) : ClO A := by
  refine ⟨hF, fun y hy s hs => ?_⟩
  have g := h y hy
  rw [hs] at g
  obtain ⟨g1, g2, g3, -⟩ := g
  obtain ⟨⟨t1, t2⟩, t3, ⟨t4, t5, t6⟩, ⟨t7, t8, t9⟩, t10, t11, t12, c0, c1, t13, t14, t15, t16⟩ := g3
  refine ⟨g2, ?_, ⟨t12, t5, t8⟩, fun k hk => ?_⟩
  · rcases t13 with t13 | ⟨u, u1, u2, u3, u4, -⟩
    · exact Or.inl t13.1
    · exact Or.inr ⟨u, u1, u4⟩
  · obtain ⟨-, c, r, n, f1, f2, f3, f4, f5, f6, f7⟩ := t6 k hk
    exact ⟨c, n, f1, f6, f4, e2_lin f3⟩
theorem idx_eq {A : Mem} {q l : Nat} {x : Int64} (hk : kd A q = 21) (hl : ln A q = l) (hm : l < 1000) : ∀ {j i F : Nat}, i + j = l → j < F → J_X6_indexOf_39 F x (some q) (ni i) A = some ((match pos (gl A q) x j i with
    | some i => ni i
    | none => -1), A) := by
  intro j
  induction j with
  | zero =>
    intro i F h1 h2
    obtain ⟨F, rfl⟩ : ∃ g, F = g + 1 := ⟨F - 1, by omega⟩
    rw [J_X6_indexOf_39]; dsimp only
    rw [bi_aN hk (by decide) (by decide) hl, if_pos (show Int32.ofNat l ≤ ni i from (ni_le (a := l) (by omega) (by omega)).mpr (by omega))]; rfl
  | succ j ih =>
    intro i F h1 h2
    obtain ⟨F, rfl⟩ : ∃ g, F = g + 1 := ⟨F - 1, by omega⟩
    rw [J_X6_indexOf_39]; dsimp only
    rw [bi_aN hk (by decide) (by decide) hl, if_neg (show ¬ Int32.ofNat l ≤ ni i from fun e => by have := (ni_le (a := l) (by omega) (by omega)).mp e; omega), bi_aL hk hl, gdT ((ni_inb (by omega)).mpr (by omega)), ni_tn (by omega)]
    unfold pos
    by_cases e : gl A q i = x
    · rw [if_neg (by simp [e]), if_pos e]
    · rw [if_pos e, if_neg e, show ni i + 1 = ni (i + 1) from ni_add i 1]
      exact ih (by omega) (by omega)
/-- what a look-up answers -/
def fdI (r : Option (Nat × Nat)) : Int32 := match r with
  | some q => ni (8 * q.1 + q.2)
  | none => -1
theorem find_lp {A : Mem} (hC : ClO A) {t : Nat} (ht : t < 2) {nm : Int64} : ∀ {n i y F : Nat}, i + n = 30 → n < F → y < 2147483648 → SJ_X1_find_17 F (ni t) nm (ni y) (ni i) A = some (fdI (fdC A t nm n y), A) := by
  intro n
  induction n with
  | zero =>
    intro i y F h1 h2 h3
    obtain ⟨F, rfl⟩ : ∃ g, F = g + 1 := ⟨F - 1, by omega⟩
    rw [SJ_X1_find_17]; dsimp only
    rw [if_pos (show (30 : Int32) ≤ ni i from (ni_le (a := 30) (by omega) (by omega)).mpr (by omega))]; rfl
  | succ n ih =>
    intro i y F h1 h2 h3
    obtain ⟨F, rfl⟩ : ∃ g, F = g + 1 := ⟨F - 1, by omega⟩
    rw [SJ_X1_find_17]; dsimp only
    rw [if_neg (show ¬ (30 : Int32) ≤ ni i from fun e => by have := (ni_le (a := 30) (by omega) (by omega)).mp e; omega), if_neg (ni_n0 h3)]
    unfold fdC
    by_cases y30 : 30 ≤ y
    · rw [if_pos (show (30 : Int32) ≤ ni y from (ni_le (a := 30) (by omega) (by omega)).mpr y30), if_pos y30]; rfl
    · rw [if_neg (show ¬ (30 : Int32) ≤ ni y from fun e => y30 ((ni_le (a := 30) (by omega) (by omega)).mp e)), if_neg y30, gdT ((ni_inb (by omega)).mpr (by omega))]
      simp only [show (ni y).toNatClampNeg = y from ni_tn (by omega)]
      cases hs : gr A (21 + 4 * y) 0 with
      | none => rw [if_neg (fun q => q rfl)]; rfl
      | some s =>
        obtain ⟨g1, g2, ⟨g3, g4, g5⟩, -⟩ := hC.2 y (by omega) s hs
        obtain ⟨o1, o2, o3, o4, o5, o6⟩ := g1
        rw [if_pos (by simp), bi_ck o3]
        have hx : L_X6_indexOf (some s) (ni t) nm A = some ((match pos (gl A (s + 3 + 2 * t)) nm (ln A (s + 3 + 2 * t)) 0 with
            | some i => ni i
            | none => -1), A) := by
          unfold L_X6_indexOf J_X6_indexOf_34
          rw [if_pos (show ¬ ni t = 2 from fun e => by have := (ni_inj (b := 2) (by omega) (by omega)).mp e; omega)]
          by_cases t0 : t = 0
          · subst t0
            rw [if_neg (show ¬ ¬ ni 0 = 0 by decide), bi_fR o3 o4.2.2.1]
            exact idx_eq (q := s + 3) (l := ln A (s + 3)) (j := ln A (s + 3)) (i := 0) (F := FU) o5.2.2.1 rfl (by omega) (by omega) (by have : FU = 4000000 := rfl; omega)
          · have t1 : t = 1 := by omega
            subst t1
            rw [if_pos (show ¬ ni 1 = 0 by decide), bi_fR o3 o4.2.2.2.2.1]
            exact idx_eq (q := s + 5) (l := ln A (s + 5)) (j := ln A (s + 5)) (i := 0) (F := FU) o5.2.2.2.2.1 rfl (by omega) (by omega) (by have : FU = 4000000 := rfl; omega)
        rw [hx, bS]; dsimp only
        have hl : ln A (s + 3 + 2 * t) ≤ 8 := by
          by_cases t0 : t = 0
          · subst t0; exact g4
          · rw [show s + 3 + 2 * t = s + 5 by omega]; omega
        cases hp : pos (gl A (s + 3 + 2 * t)) nm (ln A (s + 3 + 2 * t)) 0 with
        | some i' =>
          have := pos_lt hp
          dsimp only
          rw [if_neg (ni_ne1 (by omega)), show ni y * 8 + ni i' = ni (8 * y + i') by rw [show (8 : Int32) = ni 8 from rfl, ni_mul, ni_add, Nat.mul_comm]]; rfl
        | none =>
          dsimp only
          rw [if_pos rfl, bi_fI o3, show ni i + 1 = ni (i + 1) from ni_add i 1]
          rcases g2 with g2 | ⟨u, u1, u2⟩
          · rw [g2, if_pos (by decide)]
            obtain ⟨F, rfl⟩ : ∃ g, F = g + 1 := ⟨F - 1, by omega⟩
            rw [SJ_X1_find_17]; dsimp only
            rw [if_pos (show (-1 : Int32) < 0 by decide), ite_self]; rfl
          · rw [u2, if_neg (ni_n0 (by omega)), show tn (ni u) = u from ni_tn (by omega)]
            exact ih (by omega) (by omega) (by omega)
theorem find_eq {A : Mem} (hC : ClO A) {t Y nm : Nat} (ht : t < 2) (hY : Y < 30) (hn : nm < 1099511627776) : S_X1_find (ni t) (nl (Y * 1099511627776 + nm)) A = some (fdI (fdC A t (nl nm) 30 Y), A) := by
  unfold S_X1_find
  rw [unp_nm hY hn, unp_y hY hn]
  exact find_lp hC ht (i := 0) (by omega) (by have : FU = 4000000 := rfl; omega) (by omega)
-- what is known grows
section Mo
variable {A : Mem} {f g : Nat → Nat → Option Int64} (h : ∀ y k v, f y k = some v → g y k = some v)
theorem ev1_mono (h : ∀ y k v, f y k = some v → g y k = some v) {op : Int32} {arg : Int64} {st st' : List Int64} (e : ev1 A f op arg st = some st') : ev1 A g op arg st = some st' := by
  unfold ev1 at e ⊢
  by_cases h3 : op = 3
  · rw [if_pos h3] at e ⊢
    cases hq : fdC A 0 (arg &&& 1099511627775) 30 (tn (arg >>> 40).toInt32) with
    | none => rw [hq] at e; cases e
    | some q =>
      rw [hq] at e
      dsimp only at e ⊢
      cases hf : f q.1 q.2 with
      | none => rw [hf] at e; cases e
      | some x => rw [hf] at e; rw [h _ _ _ hf]; exact e
  · rw [if_neg h3] at e ⊢; exact e
theorem evR_mono (h : ∀ y k v, f y k = some v → g y k = some v) {s : Nat} : ∀ {n pc : Nat} {st : List Int64} {v : Int64}, evR A f s n pc st = some v → evR A g s n pc st = some v := by
  intro n
  induction n with
  | zero => intro pc st v e; cases e
  | succ n ih =>
    intro pc st v e
    unfold evR at e ⊢
    split at e
    · cases e
    · rename_i h1
      rw [if_neg h1]
      split at e
      · rename_i h2
        rw [if_pos h2]; exact e
      · rename_i h2
        rw [if_neg h2]
        cases h3 : ev1 A f (gi A (s + 1) pc) (gl A (s + 2) pc) st with
        | none => rw [h3] at e; cases e
        | some st1 =>
          rw [h3] at e
          rw [ev1_mono h h3]; exact ih e
theorem evC_mono (h : ∀ y k v, f y k = some v → g y k = some v) {y k : Nat} {v : Int64} (e : evC A f y k = some v) : evC A g y k = some v := by
  unfold evC at e ⊢
  cases hs : gr A (21 + 4 * y) 0 with
  | none => rw [hs] at e; cases e
  | some s =>
    rw [hs] at e
    dsimp only at e ⊢
    split at e
    · rename_i h1
      rw [if_pos h1]; exact evR_mono h e
    · cases e
end Mo
theorem vl_s {A : Mem} {i y k : Nat} : vlC A (i + 1) y k = evC A (vlC A i) y k := rfl
theorem vl_mono1 {A : Mem} : ∀ {i y k : Nat} {v : Int64}, vlC A i y k = some v → vlC A (i + 1) y k = some v := by
  intro i
  induction i with
  | zero => intro y k v e; cases e
  | succ i ih => intro y k v e; rw [vl_s] at e ⊢; exact evC_mono (fun _ _ _ q => ih q) e
theorem vl_mono {A : Mem} {i j y k : Nat} {v : Int64} (hij : i ≤ j) (e : vlC A i y k = some v) : vlC A j y k = some v := by
  obtain ⟨d, rfl⟩ : ∃ d, j = i + d := ⟨j - i, by omega⟩
  clear hij
  induction d with
  | zero => exact e
  | succ d ih => exact vl_mono1 ih
theorem vl_uq {A : Mem} {i j y k : Nat} {v u : Int64} (e : vlC A i y k = some v) (g : vlC A j y k = some u) : v = u := by
  have a := vl_mono (Nat.le_max_left i j) e
  have b := vl_mono (Nat.le_max_right i j) g
  rw [a] at b; cases b; rfl
