-- needs: 74.sclsb 75.num 76.rel 77.cong 78.sim 79.qa 79.qb 79.ra
-- ===== the class cuts the tape =====
def adA (A : Mem) (t : Nat) (k p : Int32) (c : Int64) : Mem := si (sl (si (si A 3 t k) 4 t p) 5 t c) 1 5 (ni (t + 1))
theorem add_eq {A : Mem} {t : Nat} {k p : Int32} {c : Int64} (h : gi A 1 5 = ni t) (ht : t < 901) : S_X7_add k p c A = some ((), adA A t k p c) := by
  unfold S_X7_add
  have e1 : gi (si A 3 t k) 1 5 = ni t := by rw [gi_si, if_neg (by omega)]; exact h
  have e2 : gi (si (si A 3 t k) 4 t p) 1 5 = ni t := by rw [gi_si, if_neg (by omega)]; exact e1
  have e3 : gi (sl (si (si A 3 t k) 4 t p) 5 t c) 1 5 = ni t := e2
  rw [h, if_neg (show ¬ (901 : Int32) ≤ ni t from fun e => by have := (ni_le (a := 901) (by omega) (by omega)).mp e; omega), gdT ((ni_inb (by omega)).mpr ht), ni_tn (by omega), e1, gdT ((ni_inb (by omega)).mpr ht), ni_tn (by omega), e2, gdT ((ni_inb (by omega)).mpr ht), ni_tn (by omega), e3, show ni t + 1 = ni (t + 1) from ni_add t 1]
  rfl
theorem adA_tby {A : Mem} {t n : Nat} {k p : Int32} {c : Int64} {by_ : Nat → Nat} (h : TBy A n by_) : TBy (adA A t k p c) n by_ := by
  obtain ⟨h1, h2, h3⟩ := h
  refine ⟨h1, ?_, fun i hi => ⟨(h3 i hi).1, ?_⟩⟩
  · unfold adA; simp (disch := omega) only [gi_si, gi_sl, if_pos, if_neg, if_true, if_false, and_self, and_true, true_and, and_false, false_and, ite_self]; exact h2
  · unfold adA; simp (disch := omega) only [gi_si, gi_sl, if_pos, if_neg, if_true, if_false, and_self, and_true, true_and, and_false, false_and, ite_self]; exact (h3 i hi).2
theorem rowE_eq {A : Mem} {n lo hi : Nat} {by_ : Nat → Nat} (h : TBy A n by_) (hlo : lo < 256) (hhi : hi < 256) : ∀ {g p F : Nat}, n ≤ p + g → p ≤ n → g < F →
    SJ_X7_rowEnd_3 F (ni lo) (ni hi) (ni p) A = some (ni (rnE (fun b => decide (lo ≤ b ∧ b ≤ hi)) by_ n g p), A) := by
  obtain ⟨h1, h2, h3⟩ := h
  intro g
  induction g with
  | zero =>
    intro p F hn hp hF
    obtain ⟨F, rfl⟩ : ∃ g, F = g + 1 := ⟨F - 1, by omega⟩
    rw [SJ_X7_rowEnd_3]; dsimp only
    rw [h2, if_pos ((ni_le (by omega) (by omega)).mpr (by omega))]; rfl
  | succ g ih =>
    intro p F hn hp hF
    obtain ⟨F, rfl⟩ : ∃ g, F = g + 1 := ⟨F - 1, by omega⟩
    rw [SJ_X7_rowEnd_3]; dsimp only
    unfold rnE
    by_cases hpn : p < n
    · obtain ⟨b1, b2⟩ := h3 p hpn
      have gT : ∀ {α : Type} {z : Option α}, gd (inb (ni p) 900) z = z := fun {α z} => gdT ((ni_inb (by omega)).mpr (by omega))
      simp only [gT]
      rw [h2, if_neg (fun e => by have := (ni_le (by omega) (by omega)).mp e; omega), ni_tn (by omega), b2]
      by_cases c1 : by_ p < lo
      · rw [if_pos ((ni_lt (by omega) (by omega)).mpr c1), if_neg (fun e => by have := of_decide_eq_true e.2; omega)]
      · rw [if_neg (fun e => c1 ((ni_lt (by omega) (by omega)).mp e))]
        by_cases c2 : hi < by_ p
        · rw [if_pos ((ni_lt (by omega) (by omega)).mpr c2), if_neg (fun e => by have := of_decide_eq_true e.2; omega)]
        · rw [if_neg (fun e => c2 ((ni_lt (by omega) (by omega)).mp e)), if_pos ⟨hpn, decide_eq_true (by omega)⟩, show ni p + 1 = ni (p + 1) from ni_add p 1]
          exact ih (by omega) (by omega) (by omega)
    · rw [h2, if_pos ((ni_le (by omega) (by omega)).mpr (by omega)), if_neg (fun e => hpn e.1)]
theorem withL_eq {a b : Nat} {M : Mem} (ha : a < 1125899906842624) (hb : isL b = true) : L_X7_withLetter (nl a) (ni b) M = some (nl (32 * a + (b - 96)), M) := by
  have hb := of_decide_eq_true hb
  unfold L_X7_withLetter
  rw [show ni b - 97 = ni (b - 97) from ni_sub (a := b) (b := 97) (by omega), show ni (b - 97) + 1 = ni (b - 97 + 1) from ni_add _ 1, ni_l (by omega), show b - 97 + 1 = b - 96 by omega]
  congr 2
  apply Int64.toBitVec_inj.mp
  rw [Int64.toBitVec_or]
  have e : (nl a <<< ((5 : Int32).toInt64 &&& 63)).toBitVec = BitVec.ofNat 64 a <<< 5 := by
    rw [show ((5 : Int32).toInt64 &&& 63) = (5 : Int64) by decide]
    show (BitVec.ofNat 64 a) <<< (BitVec.smod 5#64 64#64) = _
    rw [show BitVec.smod 5#64 64#64 = 5#64 by decide]
    rfl
  rw [e]
  show BitVec.ofNat 64 a <<< 5 ||| BitVec.ofNat 64 (b - 96) = BitVec.ofNat 64 (32 * a + (b - 96))
  apply BitVec.eq_of_toNat_eq
  rw [BitVec.toNat_or, BitVec.toNat_shiftLeft, BitVec.toNat_ofNat, BitVec.toNat_ofNat, BitVec.toNat_ofNat]
  rw [Nat.mod_eq_of_lt (show a < 2 ^ 64 by omega), Nat.mod_eq_of_lt (show b - 96 < 2 ^ 64 by omega), Nat.mod_eq_of_lt (show 32 * a + (b - 96) < 2 ^ 64 by omega), Nat.mod_eq_of_lt (show a <<< 5 < 2 ^ 64 by rw [Nat.shiftLeft_eq]; omega)]
  rw [← Nat.shiftLeft_add_eq_or_of_lt (show b - 96 < 2 ^ 5 by omega), Nat.shiftLeft_eq]; omega
theorem posOf_eq {A : Mem} {q m : Nat} {x : Int64} (hk : kd A q = 21) (hl : ln A q = m) (hm : m < 1000) : ∀ {j k F : Nat}, k + j = m → j < F → J_X10_positionOf_3 F (some q) (ni m) x (ni k) A = some ((match pos (gl A q) x j k with
    | some i => ni i
    | none => -1), A) := by
  intro j
  induction j with
  | zero =>
    intro k F h1 h2
    obtain ⟨F, rfl⟩ : ∃ g, F = g + 1 := ⟨F - 1, by omega⟩
    rw [J_X10_positionOf_3]; dsimp only
    rw [if_pos ((ni_le (by omega) (by omega)).mpr (by omega))]; rfl
  | succ j ih =>
    intro k F h1 h2
    obtain ⟨F, rfl⟩ : ∃ g, F = g + 1 := ⟨F - 1, by omega⟩
    rw [J_X10_positionOf_3]; dsimp only
    rw [if_neg (fun e => by have := (ni_le (by omega) (by omega)).mp e; omega), bi_aN hk (by decide) (by decide) hl, if_neg (show ¬ Int32.ofNat m ≤ ni k from fun e => by have := (ni_le (a := m) (by omega) (by omega)).mp e; omega), bi_aL hk hl, gdT ((ni_inb (by omega)).mpr (by omega)), ni_tn (by omega)]
    unfold pos
    by_cases e : gl A q k = x
    · rw [if_neg (by simp [e]), if_pos e]
    · rw [if_pos e, if_neg e, show ni k + 1 = ni (k + 1) from ni_add k 1]
      exact ih (by omega) (by omega)
/-- with a size smaller than the row -/
theorem posOf_eq' {A : Mem} {q m l : Nat} {x : Int64} (hk : kd A q = 21) (hl : ln A q = l) (hm : l < 1000) (hml : m ≤ l) : ∀ {j k F : Nat}, k + j = m → j < F → J_X10_positionOf_3 F (some q) (ni m) x (ni k) A = some ((match pos (gl A q) x j k with
    | some i => ni i
    | none => -1), A) := by
  intro j
  induction j with
  | zero =>
    intro k F h1 h2
    obtain ⟨F, rfl⟩ : ∃ g, F = g + 1 := ⟨F - 1, by omega⟩
    rw [J_X10_positionOf_3]; dsimp only
    rw [if_pos ((ni_le (by omega) (by omega)).mpr (by omega))]; rfl
  | succ j ih =>
    intro k F h1 h2
    obtain ⟨F, rfl⟩ : ∃ g, F = g + 1 := ⟨F - 1, by omega⟩
    rw [J_X10_positionOf_3]; dsimp only
    rw [if_neg (fun e => by have := (ni_le (by omega) (by omega)).mp e; omega), bi_aN hk (by decide) (by decide) hl, if_neg (show ¬ Int32.ofNat l ≤ ni k from fun e => by have := (ni_le (a := l) (by omega) (by omega)).mp e; omega), bi_aL hk hl, gdT ((ni_inb (by omega)).mpr (by omega)), ni_tn (by omega)]
    unfold pos
    by_cases e : gl A q k = x
    · rw [if_neg (by simp [e]), if_pos e]
    · rw [if_pos e, if_neg e, show ni k + 1 = ni (k + 1) from ni_add k 1]
      exact ih (by omega) (by omega)
theorem addName_lp {A : Mem} {n t e p0 : Nat} {by_ : Nat → Nat} (hF : FSC A) (h : TBy A n by_) (ht : gi A 1 5 = ni t) (ht2 : t < 901) (he : e ≤ n) : ∀ {k p a F : Nat}, p + k = e → (∀ i, p ≤ i → i < e → isL (by_ i) = true) → a < 32 ^ (8 - k) → k ≤ 8 → k < F →
    SJ_X7_addName_21 F (ni p0) (ni e) (nl a) (ni p) A = some ((), adA A t (match pos (gl A 6) (nl (vlN 32 96 by_ k p a)) 12 0 with
      | some w => ni (300 + w)
      | none => 2) (ni p0) (nl (vlN 32 96 by_ k p a))) := by
  intro k
  induction k with
  | zero =>
    intro p a F h1 _ h3 h4 hF'
    obtain ⟨F, rfl⟩ : ∃ g, F = g + 1 := ⟨F - 1, by omega⟩
    rw [SJ_X7_addName_21]; dsimp only
    have := h.1
    rw [if_pos ((ni_le (by omega) (by omega)).mpr (by omega))]
    unfold L_X10_positionOf
    rw [show (12 : Int32) = ni 12 from rfl, show (0 : Int32) = ni 0 from rfl, posOf_eq (m := 12) (hF.hk 6) (hF.hl 6) (by decide) (j := 12) (k := 0) (F := FU) (by decide) (by decide), bS]
    unfold vlN SJ_X7_addName_74
    cases hp : pos (gl A 6) (nl a) 12 0 with
    | none => dsimp only; rw [if_neg (by decide), add_eq ht ht2, bS]
    | some w =>
      have := pos_lt hp
      dsimp only; rw [if_pos (ni_ne1 (by omega)), show (300 : Int32) + ni w = ni (300 + w) from ni_add 300 w, add_eq ht ht2, bS]
  | succ k ih =>
    intro p a F h1 h2 h3 h4 hF'
    obtain ⟨F, rfl⟩ : ∃ g, F = g + 1 := ⟨F - 1, by omega⟩
    rw [SJ_X7_addName_21]; dsimp only
    have hn := h.1
    have ha : a < 1125899906842624 := Nat.lt_of_lt_of_le h3 (Nat.le_trans (Nat.pow_le_pow_right (by decide) (show 8 - (k + 1) ≤ 10 by omega)) (by decide))
    have hl := h2 p (by omega) (by omega)
    have hl2 := of_decide_eq_true hl
    rw [if_neg (fun e => by have := (ni_le (by omega) (by omega)).mp e; omega), gdT ((ni_inb (by omega)).mpr (by omega)), ni_tn (by omega), (h.2.2 p (by omega)).2, withL_eq ha hl, bS]
    dsimp only
    rw [show ni p + 1 = ni (p + 1) from ni_add p 1, ih (p := p + 1) (by omega) (fun i i1 i2 => h2 i (by omega) i2) ?_ (by omega) (by omega)]
    · rfl
    · have : 32 ^ (8 - k) = 32 * 32 ^ (8 - (k + 1)) := by rw [show 8 - k = 8 - (k + 1) + 1 by omega, Nat.pow_succ, Nat.mul_comm]
      omega
theorem addNum_lp {A : Mem} {n t e p0 : Nat} {by_ : Nat → Nat} (h : TBy A n by_) (ht : gi A 1 5 = ni t) (ht2 : t < 901) (he : e ≤ n) : ∀ {k p a F : Nat}, p + k = e → (∀ i, p ≤ i → i < e → isD (by_ i) = true) → k < F →
    SJ_X7_addNumber_21 F (ni p0) (ni e) (nl a) (ni p) A = some ((), adA A t 3 (ni p0) (nl (vlN 10 48 by_ k p a))) := by
  intro k
  induction k with
  | zero =>
    intro p a F h1 _ hF'
    obtain ⟨F, rfl⟩ : ∃ g, F = g + 1 := ⟨F - 1, by omega⟩
    rw [SJ_X7_addNumber_21]; dsimp only
    have := h.1
    rw [if_pos ((ni_le (by omega) (by omega)).mpr (by omega)), add_eq ht ht2, bS]; rfl
  | succ k ih =>
    intro p a F h1 h2 hF'
    obtain ⟨F, rfl⟩ : ∃ g, F = g + 1 := ⟨F - 1, by omega⟩
    rw [SJ_X7_addNumber_21]; dsimp only
    have hn := h.1
    have hl2 := of_decide_eq_true (h2 p (by omega) (by omega))
    rw [if_neg (fun e => by have := (ni_le (by omega) (by omega)).mp e; omega), gdT ((ni_inb (by omega)).mpr (by omega)), ni_tn (by omega), (h.2.2 p (by omega)).2]
    rw [show ni (by_ p) - 48 = ni (by_ p - 48) from ni_sub (a := by_ p) (b := 48) (by omega), ni_l (by omega), show nl a * 10 = nl (a * 10) from nl_mul a 10, nl_add, show ni p + 1 = ni (p + 1) from ni_add p 1, ih (p := p + 1) (by omega) (fun i i1 i2 => h2 i (by omega) i2) (by omega), Nat.mul_comm a 10]
    rfl
theorem rn1000 {P : Nat → Bool} {by_ : Nat → Nat} {n p : Nat} : rnE P by_ n 1000 p = if p < n ∧ P (by_ p) = true then rnE P by_ n 999 (p + 1) else p := rfl
theorem tkE_gt {by_ : Nat → Nat} {n p : Nat} (hp : p < n) : p < tkE by_ n p := by
  unfold tkE
  by_cases h1 : isL (by_ p) = true
  · rw [if_pos h1]; rw [rn1000, if_pos ⟨hp, h1⟩]; have := @rnE_ge isL by_ n 999 (p + 1); omega
  · rw [if_neg h1]
    by_cases h2 : isD (by_ p) = true
    · rw [if_pos h2]; rw [rn1000, if_pos ⟨hp, h2⟩]; have := @rnE_ge isD by_ n 999 (p + 1); omega
    · rw [if_neg h2]; omega
theorem tkE_le {by_ : Nat → Nat} {n p : Nat} (hp : p < n) : tkE by_ n p ≤ n := by
  unfold tkE
  split
  · exact rnE_le (by omega)
  · split
    · exact rnE_le (by omega)
    · omega
theorem cutOne_bl {A : Mem} {n p : Nat} {by_ : Nat → Nat} (h : TBy A n by_) (hp : p < n) (hb : isB (by_ p) = true) : S_X7_cutOne (ni p) A = some (ni (p + 1), A) := by
  have hb := of_decide_eq_true hb
  unfold S_X7_cutOne SJ_X7_cutOne_19
  have := h.1
  rw [gdT ((ni_inb (by omega)).mpr (by omega)), ni_tn (by omega), (h.2.2 p hp).2, show ni p + 1 = ni (p + 1) from ni_add p 1]
  rcases hb with hb | hb
  · rw [hb]; rfl
  · rw [hb]; rfl
theorem cutOne_tk {A : Mem} {n p t : Nat} {by_ : Nat → Nat} (hF : FSC A) (h : TBy A n by_) (hp : p < n) (hb : isB (by_ p) = false) (ht : gi A 1 5 = ni t) (ht2 : t < 901) :
    S_X7_cutOne (ni p) A = some (ni (tkE by_ n p), adA A t (tkK (gl A 6) by_ n p) (ni p) (nl (tkC by_ n p))) := by
  have hb := of_decide_eq_false hb
  have hn := h.1
  obtain ⟨b1, b2⟩ := h.2.2 p hp
  unfold S_X7_cutOne SJ_X7_cutOne_19 SJ_X7_cutOne_84 S_X7_rowEnd
  rw [gdT ((ni_inb (by omega)).mpr (by omega)), ni_tn (by omega), b2, if_neg (show ¬ ni (by_ p) = 32 from fun e => hb (Or.inr ((ni_inj (b := 32) (by omega) (by omega)).mp e))), if_pos (show ¬ ni (by_ p) = 10 from fun e => hb (Or.inl ((ni_inj (b := 10) (by omega) (by omega)).mp e)))]
  rw [show (97 : Int32) = ni 97 from rfl, show (122 : Int32) = ni 122 from rfl, show (48 : Int32) = ni 48 from rfl, show (57 : Int32) = ni 57 from rfl]
  rw [rowE_eq h (by omega) (by omega) (g := 1000) (by omega) (by omega) (by decide), bS]
  dsimp only
  rw [rowE_eq h (by omega) (by omega) (g := 1000) (by omega) (by omega) (by decide), bS]
  dsimp only
  have eL : rnE (fun b => decide (97 ≤ b ∧ b ≤ 122)) by_ n 1000 p = rnE isL by_ n 1000 p := rfl
  have eD : rnE (fun b => decide (48 ≤ b ∧ b ≤ 57)) by_ n 1000 p = rnE isD by_ n 1000 p := rfl
  rw [eL, eD]
  have leL := @rnE_le isL by_ n 1000 p (by omega)
  have leD := @rnE_le isD by_ n 1000 p (by omega)
  have gt := tkE_gt (by_ := by_) hp
  by_cases hL : isL (by_ p) = true
  · have eE : tkE by_ n p = rnE isL by_ n 1000 p := by unfold tkE; rw [if_pos hL]
    rw [← eE] at leL ⊢
    rw [if_neg (fun e => by have := (ni_le (by omega) (by omega)).mp e; omega)]
    unfold S_X7_addName tkK tkC
    rw [ni_sub (by omega), if_pos hL, if_pos hL]
    by_cases h8 : tkE by_ n p - p ≤ 8
    · rw [if_pos (show ni (tkE by_ n p - p) ≤ 8 from (ni_le (b := 8) (by omega) (by omega)).mpr h8), if_pos h8, if_pos h8, show (0 : Int64) = nl 0 from rfl,
        addName_lp hF h ht ht2 leL (k := tkE by_ n p - p) (by omega) (fun i i1 i2 => (rnE_all i1 (by rw [← eE]; exact i2)).2) (Nat.pow_pos (by decide)) h8 (Nat.lt_of_le_of_lt h8 (by decide))]; rfl
    · rw [if_neg (show ¬ ni (tkE by_ n p - p) ≤ 8 from fun e => h8 ((ni_le (b := 8) (by omega) (by omega)).mp e)), if_neg h8, if_neg h8, add_eq ht ht2]; rfl
  · have zL : rnE isL by_ n 1000 p = p := by rw [rn1000, if_neg (fun e => hL e.2)]
    rw [zL, if_pos ((ni_le (by omega) (by omega)).mpr (Nat.le_refl _))]
    by_cases hD : isD (by_ p) = true
    · have eE : tkE by_ n p = rnE isD by_ n 1000 p := by unfold tkE; rw [if_neg hL, if_pos hD]
      rw [← eE] at leD ⊢
      rw [if_neg (fun e => by have := (ni_le (by omega) (by omega)).mp e; omega)]
      unfold S_X7_addNumber tkK tkC
      rw [ni_sub (by omega), if_neg hL, if_neg hL, if_pos hD, if_pos hD]
      by_cases h8 : tkE by_ n p - p ≤ 9
      · rw [if_pos (show ni (tkE by_ n p - p) ≤ 9 from (ni_le (b := 9) (by omega) (by omega)).mpr h8), if_pos h8, if_pos h8, show (0 : Int64) = nl 0 from rfl,
          addNum_lp h ht ht2 leD (k := tkE by_ n p - p) (by omega) (fun i i1 i2 => (rnE_all i1 (by rw [← eE]; exact i2)).2) (Nat.lt_of_le_of_lt h8 (by decide))]; rfl
      · rw [if_neg (show ¬ ni (tkE by_ n p - p) ≤ 9 from fun e => h8 ((ni_le (b := 9) (by omega) (by omega)).mp e)), if_neg h8, if_neg h8, add_eq ht ht2]; rfl
    · have zD : rnE isD by_ n 1000 p = p := by rw [rn1000, if_neg (fun e => hD e.2)]
      rw [zD, if_pos ((ni_le (by omega) (by omega)).mpr (Nat.le_refl _))]
      have eE : tkE by_ n p = p + 1 := by unfold tkE; rw [if_neg hL, if_neg hD]
      rw [eE]
      unfold tkK tkC
      rw [if_neg hL, if_neg hL, if_neg hD, if_neg hD, show ni p + 1 = ni (p + 1) from ni_add p 1]
      by_cases hS : isS (by_ p) = true
      · rw [if_neg (fun e => by have := (sgIx_ni b1).mp e; rw [hS] at this; cases this), if_pos hS, add_eq ht ht2]; rfl
      · rw [if_pos ((sgIx_ni b1).mpr (by simpa using hS)), if_neg hS, add_eq ht ht2]; rfl
-- the places of the tokens, one after another
def skp (by_ : Nat → Nat) (n p : Nat) : Nat := rnE isB by_ n 1000 p
def pfN (by_ : Nat → Nat) (n : Nat) : Nat → Nat
  | 0 => skp by_ n 0
  | i + 1 => if pfN by_ n i < n then skp by_ n (tkE by_ n (pfN by_ n i)) else n
/-- the tokens 0 .. t-1 stand in the class's rows -/
def TkRows (A : Mem) (by_ : Nat → Nat) (n : Nat) (wd : Nat → Int64) (t : Nat) : Prop := ∀ i, i < t → pfN by_ n i < n ∧ isB (by_ (pfN by_ n i)) = false ∧ gi A 3 i = tkK wd by_ n (pfN by_ n i) ∧ gi A 4 i = ni (pfN by_ n i) ∧ gl A 5 i = nl (tkC by_ n (pfN by_ n i))
def CutP (A : Mem) (by_ : Nat → Nat) (n : Nat) (T : Nat) : Prop := T ≤ n ∧ gi A 1 5 = ni (T + 1) ∧ pfN by_ n T = n ∧ TkRows A by_ n (gl A 6) T ∧ gi A 3 T = 0 ∧ gi A 4 T = ni n ∧ gl A 5 T = 0
def Cu (A A' : Mem) : Prop := KC A A' ∧ nc A' = nc A ∧ ns A' = ns A ∧ (∀ a, a ≠ 1 → a ≠ 3 → a ≠ 4 → a ≠ 5 → Sm a A A') ∧ ∀ j, j ≠ 5 → gi A' 1 j = gi A 1 j
theorem Cu.rf {A : Mem} : Cu A A := ⟨KC.rf, rfl, rfl, fun _ _ _ _ _ => Sm.rf, fun _ _ => rfl⟩
theorem Cu.trans {A B C : Mem} (h : Cu A B) (g : Cu B C) : Cu A C := ⟨h.1.trans g.1, g.2.1.trans h.2.1, g.2.2.1.trans h.2.2.1, fun a a1 a2 a3 a4 => (h.2.2.2.1 a a1 a2 a3 a4).trans (g.2.2.2.1 a a1 a2 a3 a4), fun j hj => (g.2.2.2.2 j hj).trans (h.2.2.2.2 j hj)⟩
theorem si_ff' {A : Mem} {a j i : Nat} {x : Int32} (h : i ≠ j) : gi (si A a j x) a i = gi A a i := by rw [gi_si, if_neg (fun e => h e.2)]
theorem cu_ad {A : Mem} {t : Nat} {k p : Int32} {c : Int64} : Cu A (adA A t k p c) := by
  refine ⟨((kc_si.trans kc_si).trans kc_sl).trans kc_si, rfl, rfl, fun a a1 a2 a3 a4 => (((sm_si a2).trans (sm_si a3)).trans (sm_sl a4)).trans (sm_si a1), fun j hj => ?_⟩
  unfold adA
  rw [si_ff' hj]
  simp (disch := omega) only [gi_si, gi_sl, if_pos, if_neg, if_true, if_false, and_self, and_true, true_and, and_false, false_and, ite_self]
theorem skp_b {by_ : Nat → Nat} {n p : Nat} (hn : n ≤ 900) (hp : p < n) (hb : isB (by_ p) = true) : skp by_ n (p + 1) = skp by_ n p := by
  unfold skp
  rw [rn1000 (p := p), if_pos ⟨hp, hb⟩]
  exact rnE_fu (by omega) (by omega)
theorem skp_n {by_ : Nat → Nat} {n p : Nat} (hb : ¬ (p < n ∧ isB (by_ p) = true)) : skp by_ n p = p := by
  unfold skp
  rw [rn1000, if_neg hb]
theorem cut_lp {n : Nat} {by_ : Nat → Nat} {wd : Nat → Int64} : ∀ {g p t τ F : Nat} {A : Mem}, FSC A → TBy A n by_ → gl A 6 = wd → gi A 1 5 = ni t → t ≤ p → τ ≤ p → p ≤ n → n ≤ p + g → g < F → skp by_ n p = pfN by_ n t → TkRows A by_ n wd t →
    ∃ A' T, SJ_X7_cut_9 F (ni p) (ni τ) A = some ((), A') ∧ Cu A A' ∧ CutP A' by_ n T := by
  intro g
  induction g with
  | zero =>
    intro p t τ F A hF h hw ht tp τp pn ng gF hs hr
    obtain ⟨F, rfl⟩ : ∃ g, F = g + 1 := ⟨F - 1, by omega⟩
    have hn := h.1
    rw [SJ_X7_cut_9]; dsimp only
    have en : p = n := by omega
    subst en
    refine ⟨adA A t 0 (ni p) 0, t, ?_, cu_ad, tp, ?_, ?_, ?_, ?_, ?_, ?_⟩
    · unfold SJ_X7_cut_36
      rw [h.2.1, if_pos ((ni_le (by omega) (by omega)).mpr (Nat.le_refl _)), add_eq ht (by omega), bS, ite_self]
    · unfold adA; rw [gi_si, if_pos ⟨rfl, rfl⟩]
    · rw [← hs]; exact skp_n (by omega)
    · intro i hi
      have := hr i hi
      have e3 : gi (adA A t 0 (ni p) 0) 3 i = gi A 3 i := by unfold adA; simp (disch := omega) only [gi_si, gi_sl, if_pos, if_neg, if_true, if_false, and_self, and_true, true_and, and_false, false_and, ite_self]
      have e4 : gi (adA A t 0 (ni p) 0) 4 i = gi A 4 i := by unfold adA; simp (disch := omega) only [gi_si, gi_sl, if_pos, if_neg, if_true, if_false, and_self, and_true, true_and, and_false, false_and, ite_self]
      have e5 : gl (adA A t 0 (ni p) 0) 5 i = gl A 5 i := by unfold adA; simp (disch := omega) only [gl_si, gl_sl, if_pos, if_neg, if_true, if_false, and_self, and_true, true_and, and_false, false_and, ite_self]
      rw [e3, e4, e5, show gl (adA A t 0 (ni p) 0) 6 = wd from (cu_ad.2.2.2.1 6 (by omega) (by omega) (by omega) (by omega)).j.trans hw]; exact this
    · unfold adA; simp (disch := omega) only [gi_si, gi_sl, if_pos, if_neg, if_true, if_false, and_self, and_true, true_and, and_false, false_and, ite_self]
    · unfold adA; simp (disch := omega) only [gi_si, gi_sl, if_pos, if_neg, if_true, if_false, and_self, and_true, true_and, and_false, false_and, ite_self]
    · unfold adA; simp (disch := omega) only [gl_si, gl_sl, if_pos, if_neg, if_true, if_false, and_self, and_true, true_and, and_false, false_and, ite_self]
  | succ g ih =>
    intro p t τ F A hF h hw ht tp τp pn ng gF hs hr
    by_cases hpn : p < n
    · obtain ⟨F, rfl⟩ : ∃ g, F = g + 1 := ⟨F - 1, by omega⟩
      have hn := h.1
      rw [SJ_X7_cut_9]; dsimp only
      rw [if_neg (show ¬ (900 : Int32) ≤ ni τ from fun e => by have := (ni_le (a := 900) (by omega) (by omega)).mp e; omega), h.2.1, if_neg (fun e => by have := (ni_le (by omega) (by omega)).mp e; omega), show ni τ + 1 = ni (τ + 1) from ni_add τ 1]
      by_cases hb : isB (by_ p) = true
      · rw [cutOne_bl h hpn hb, bS]
        exact ih hF h hw ht (by omega) (by omega) (by omega) (by omega) (by omega) ((skp_b hn hpn hb).trans hs) hr
      · have hb : isB (by_ p) = false := by simpa using hb
        rw [cutOne_tk hF h hpn hb ht (by omega), bS]
        have gt := tkE_gt (by_ := by_) hpn
        have le := tkE_le (by_ := by_) hpn
        have ep : pfN by_ n t = p := by rw [← hs]; exact skp_n (by simp [hb])
        have c := cu_ad (A := A) (t := t) (k := tkK (gl A 6) by_ n p) (p := ni p) (c := nl (tkC by_ n p))
        have hs2 : skp by_ n (tkE by_ n p) = pfN by_ n (t + 1) := by
          show _ = if pfN by_ n t < n then skp by_ n (tkE by_ n (pfN by_ n t)) else n
          rw [ep, if_pos hpn]
        have hr2 : TkRows (adA A t (tkK (gl A 6) by_ n p) (ni p) (nl (tkC by_ n p))) by_ n wd (t + 1) := by
          intro i hi
          by_cases e : i = t
          · subst e
            rw [ep]
            refine ⟨hpn, hb, ?_, ?_, ?_⟩
            · unfold adA; simp (disch := omega) only [gi_si, gi_sl, if_pos, if_neg, if_true, if_false, and_self, and_true, true_and, and_false, false_and, ite_self, hw]
            · unfold adA; simp (disch := omega) only [gi_si, gi_sl, if_pos, if_neg, if_true, if_false, and_self, and_true, true_and, and_false, false_and, ite_self]
            · unfold adA; simp (disch := omega) only [gl_si, gl_sl, if_pos, if_neg, if_true, if_false, and_self, and_true, true_and, and_false, false_and, ite_self]
          · have := hr i (by omega)
            refine ⟨this.1, this.2.1, ?_, ?_, ?_⟩
            · unfold adA; simp (disch := omega) only [gi_si, gi_sl, if_pos, if_neg, if_true, if_false, and_self, and_true, true_and, and_false, false_and, ite_self]; exact this.2.2.1
            · unfold adA; simp (disch := omega) only [gi_si, gi_sl, if_pos, if_neg, if_true, if_false, and_self, and_true, true_and, and_false, false_and, ite_self]; exact this.2.2.2.1
            · unfold adA; simp (disch := omega) only [gl_si, gl_sl, if_pos, if_neg, if_true, if_false, and_self, and_true, true_and, and_false, false_and, ite_self]; exact this.2.2.2.2
        obtain ⟨A', T, r1, r2, r3⟩ := ih (p := tkE by_ n p) (t := t + 1) (τ := τ + 1) (F := F) (A := adA A t (tkK (gl A 6) by_ n p) (ni p) (nl (tkC by_ n p))) (hF.kc c.1) (adA_tby h) ((c.2.2.2.1 6 (by omega) (by omega) (by omega) (by omega)).j.trans hw) (by unfold adA; rw [gi_si, if_pos ⟨rfl, rfl⟩]) (by omega) (by omega) le (by omega) (by omega) hs2 hr2
        exact ⟨A', T, r1, c.trans r2, r3⟩
    · -- already at the end
      have en : p = n := by omega
      subst en
      have hn := h.1
      obtain ⟨F, rfl⟩ : ∃ g, F = g + 1 := ⟨F - 1, by omega⟩
      rw [SJ_X7_cut_9]; dsimp only
      refine ⟨adA A t 0 (ni p) 0, t, ?_, cu_ad, tp, ?_, ?_, ?_, ?_, ?_, ?_⟩
      · unfold SJ_X7_cut_36
        rw [h.2.1, if_pos ((ni_le (by omega) (by omega)).mpr (Nat.le_refl _)), add_eq ht (by omega), bS, ite_self]
      · unfold adA; rw [gi_si, if_pos ⟨rfl, rfl⟩]
      · rw [← hs]; exact skp_n (by omega)
      · intro i hi
        have := hr i hi
        have e3 : gi (adA A t 0 (ni p) 0) 3 i = gi A 3 i := by unfold adA; simp (disch := omega) only [gi_si, gi_sl, if_pos, if_neg, if_true, if_false, and_self, and_true, true_and, and_false, false_and, ite_self]
        have e4 : gi (adA A t 0 (ni p) 0) 4 i = gi A 4 i := by unfold adA; simp (disch := omega) only [gi_si, gi_sl, if_pos, if_neg, if_true, if_false, and_self, and_true, true_and, and_false, false_and, ite_self]
        have e5 : gl (adA A t 0 (ni p) 0) 5 i = gl A 5 i := by unfold adA; simp (disch := omega) only [gl_si, gl_sl, if_pos, if_neg, if_true, if_false, and_self, and_true, true_and, and_false, false_and, ite_self]
        rw [e3, e4, e5, show gl (adA A t 0 (ni p) 0) 6 = wd from (cu_ad.2.2.2.1 6 (by omega) (by omega) (by omega) (by omega)).j.trans hw]; exact this
      · unfold adA; simp (disch := omega) only [gi_si, gi_sl, if_pos, if_neg, if_true, if_false, and_self, and_true, true_and, and_false, false_and, ite_self]
      · unfold adA; simp (disch := omega) only [gi_si, gi_sl, if_pos, if_neg, if_true, if_false, and_self, and_true, true_and, and_false, false_and, ite_self]
      · unfold adA; simp (disch := omega) only [gl_si, gl_sl, if_pos, if_neg, if_true, if_false, and_self, and_true, true_and, and_false, false_and, ite_self]
theorem cut_ok {A : Mem} {n : Nat} {by_ : Nat → Nat} (hF : FSC A) (h : TBy A n by_) : ∃ A' T, S_X7_cut A = some ((), A') ∧ Cu A A' ∧ CutP A' by_ n T := by
  unfold S_X7_cut
  have hn := h.1
  have c : Cu A (si A 1 5 0) := ⟨kc_si, rfl, rfl, fun a a1 a2 a3 a4 => sm_si a1, fun j hj => si_ff' hj⟩
  have h' : TBy (si A 1 5 0) n by_ := ⟨h.1, (si_ff' (by omega)).trans h.2.1, fun k hk => ⟨(h.2.2 k hk).1, by rw [gi_si, if_neg (by omega)]; exact (h.2.2 k hk).2⟩⟩
  obtain ⟨A', T, r1, r2, r3⟩ := cut_lp (g := 1000) (p := 0) (t := 0) (τ := 0) (F := FU) (hF.kc c.1) h' rfl (by rw [gi_si, if_pos ⟨rfl, rfl⟩]; rfl) (by omega) (by omega) (by omega) (by omega) (by decide) rfl (fun i hi => absurd hi (by omega))
  exact ⟨A', T, r1, c.trans r2, r3⟩
