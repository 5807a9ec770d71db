-- ===== small numbers as ints and longs =====
def ni (n : Nat) : Int32 := Int32.ofNat n
def nl (n : Nat) : Int64 := Int64.ofNat n
theorem ni_toInt {a : Nat} (h : a < 2147483648) : (ni a).toInt = a := Int32.toInt_ofNat_of_lt h
theorem nl_toInt {a : Nat} (h : a < 9223372036854775808) : (nl a).toInt = a := Int64.toInt_ofNat_of_lt h
theorem ni_lt {a b : Nat} (ha : a < 2147483648) (hb : b < 2147483648) : ni a < ni b ↔ a < b := by
  rw [Int32.lt_iff_toInt_lt, ni_toInt ha, ni_toInt hb]; omega
theorem ni_le {a b : Nat} (ha : a < 2147483648) (hb : b < 2147483648) : ni a ≤ ni b ↔ a ≤ b := by
  rw [Int32.le_iff_toInt_le, ni_toInt ha, ni_toInt hb]; omega
theorem ni_inj {a b : Nat} (ha : a < 2147483648) (hb : b < 2147483648) : ni a = ni b ↔ a = b := by
  constructor
  · intro h
    have e := congrArg Int32.toInt h
    rw [ni_toInt ha, ni_toInt hb] at e; omega
  · rintro rfl; rfl
theorem nl_lt {a b : Nat} (ha : a < 9223372036854775808) (hb : b < 9223372036854775808) : nl a < nl b ↔ a < b := by
  rw [Int64.lt_iff_toInt_lt, nl_toInt ha, nl_toInt hb]; omega
theorem nl_le {a b : Nat} (ha : a < 9223372036854775808) (hb : b < 9223372036854775808) : nl a ≤ nl b ↔ a ≤ b := by
  rw [Int64.le_iff_toInt_le, nl_toInt ha, nl_toInt hb]; omega
theorem nl_inj {a b : Nat} (ha : a < 9223372036854775808) (hb : b < 9223372036854775808) : nl a = nl b ↔ a = b := by
  constructor
  · intro h
    have e := congrArg Int64.toInt h
    rw [nl_toInt ha, nl_toInt hb] at e; omega
  · rintro rfl; rfl
theorem ni_add (a b : Nat) : ni a + ni b = ni (a + b) := (Int32.ofNat_add a b).symm
theorem ni_mul (a b : Nat) : ni a * ni b = ni (a * b) := (Int32.ofNat_mul a b).symm
theorem ni_sub {a b : Nat} (h : b ≤ a) : ni a - ni b = ni (a - b) := (Int32.ofNat_sub a b h).symm
theorem nl_add (a b : Nat) : nl a + nl b = nl (a + b) := (Int64.ofNat_add a b).symm
theorem nl_mul (a b : Nat) : nl a * nl b = nl (a * b) := (Int64.ofNat_mul a b).symm
theorem nl_sub {a b : Nat} (h : b ≤ a) : nl a - nl b = nl (a - b) := (Int64.ofNat_sub a b h).symm
theorem ni_tn {a : Nat} (h : a < 2147483648) : (ni a).toNatClampNeg = a := Int32.toNatClampNeg_ofNat_of_lt h
theorem ni_n0 {a : Nat} (h : a < 2147483648) : ¬ ni a < 0 := by
  rw [Int32.lt_iff_toInt_lt, ni_toInt h]; show ¬ (a : Int) < 0; omega
theorem ni_inb {a n : Nat} (h : a < 2147483648) : inb (ni a) n ↔ a < n := by
  unfold inb
  rw [ni_tn h]
  constructor
  · intro e; exact Nat.not_le.mp fun q => e (Or.inr q)
  · rintro e (q | q)
    · exact ni_n0 h q
    · omega
theorem ni_ne1 {a : Nat} (h : a < 2147483648) : ¬ ni a = -1 := by
  intro e
  have q := congrArg Int32.toInt e
  rw [ni_toInt h] at q
  have : (-1 : Int32).toInt = -1 := by decide
  omega
theorem ni_l {a : Nat} (h : a < 2147483648) : (ni a).toInt64 = nl a := by
  apply Int64.toInt_inj.mp
  rw [Int32.toInt_toInt64, ni_toInt h, nl_toInt (by omega)]
theorem nl_i (a : Nat) : (nl a).toInt32 = ni a := by
  apply Int32.toBitVec_inj.mp
  rw [Int64.toBitVec_toInt32]
  show BitVec.signExtend 32 (BitVec.ofNat 64 a) = BitVec.ofNat 32 a
  rw [BitVec.signExtend_eq_setWidth_of_le _ (by decide), BitVec.setWidth_ofNat_of_le (by decide)]
theorem i_cases (x : Int32) : x < 0 ∨ ∃ n, n < 2147483648 ∧ x = ni n := by
  by_cases h : x < 0
  · exact Or.inl h
  · refine Or.inr ⟨x.toInt.toNat, ?_, ?_⟩
    · have := x.toInt_lt; omega
    · have h0 : (0 : Int) ≤ x.toInt := by
        rw [Int32.lt_iff_toInt_lt] at h
        have : (0 : Int32).toInt = 0 := by decide
        omega
      have h1 := x.toInt_lt
      apply Int32.toInt_inj.mp
      rw [ni_toInt (by omega)]; omega
theorem l_cases (x : Int64) : x < 0 ∨ ∃ n, n < 9223372036854775808 ∧ x = nl n := by
  by_cases h : x < 0
  · exact Or.inl h
  · refine Or.inr ⟨x.toInt.toNat, ?_, ?_⟩
    · have := x.toInt_lt; omega
    · have h0 : (0 : Int) ≤ x.toInt := by
        rw [Int64.lt_iff_toInt_lt] at h
        have : (0 : Int64).toInt = 0 := by decide
        omega
      have h1 := x.toInt_lt
      apply Int64.toInt_inj.mp
      rw [nl_toInt (by omega)]; omega
theorem nl_n0 {a : Nat} (h : a < 9223372036854775808) : ¬ nl a < 0 := by
  rw [Int64.lt_iff_toInt_lt, nl_toInt h]; show ¬ (a : Int) < 0; omega
theorem i_neg_lt {x : Int32} {a : Nat} (h : x < 0) (ha : a < 2147483648) : x < ni a := by
  rw [Int32.lt_iff_toInt_lt] at h ⊢
  rw [ni_toInt ha]
  have : (0 : Int32).toInt = 0 := by decide
  omega
theorem i_neg_nle {x : Int32} {a : Nat} (h : x < 0) (ha : a < 2147483648) : ¬ ni a ≤ x := by
  rw [Int32.lt_iff_toInt_lt] at h
  rw [Int32.le_iff_toInt_le, ni_toInt ha]
  have : (0 : Int32).toInt = 0 := by decide
  omega
theorem i_neg_ne {x : Int32} {a : Nat} (h : x < 0) (ha : a < 2147483648) : ¬ x = ni a := by
  rintro rfl; exact ni_n0 ha h
theorem m1_lt0 : (-1 : Int32) < 0 := by decide
/-- a year of the almanac -/
theorem year_cases (v : Int32) : (∃ y, y < 30 ∧ v = ni (1700 + y)) ∨ (v < 1700 ∨ 1730 ≤ v) := by
  rcases i_cases v with h | ⟨n, hn, rfl⟩
  · exact Or.inr (Or.inl (i_neg_lt h (by decide : 1700 < 2147483648)))
  · by_cases h1 : n < 1700
    · exact Or.inr (Or.inl ((ni_lt hn (by decide)).mpr h1))
    · by_cases h2 : n < 1730
      · exact Or.inl ⟨n - 1700, by omega, by rw [show 1700 + (n - 1700) = n by omega]⟩
      · exact Or.inr (Or.inr ((ni_le (a := 1730) (by decide) hn).mpr (by omega)))
theorem gdT {α : Type} {c : Prop} [Decidable c] {x : Option α} (h : c) : gd c x = x := if_pos h
theorem bS {α β : Type} {x : α} {f : α → Option β} : (some x).bind f = f x := rfl
-- ===== bits =====
def bt (x : Int32) (k : Nat) : Bool := x.toBitVec.getLsbD k
theorem bt_ext {x y : Int32} (h : ∀ k, k < 32 → bt x k = bt y k) : x = y := by
  apply Int32.toBitVec_inj.mp
  apply BitVec.eq_of_getLsbD_eq
  intro i hi
  exact h i hi
theorem bt_or (x y : Int32) (k : Nat) : bt (x ||| y) k = (bt x k || bt y k) := by
  unfold bt; rw [Int32.toBitVec_or, BitVec.getLsbD_or]
theorem bt_and (x y : Int32) (k : Nat) : bt (x &&& y) k = (bt x k && bt y k) := by
  unfold bt; rw [Int32.toBitVec_and, BitVec.getLsbD_and]
theorem bt_0 (k : Nat) : bt 0 k = false := by
  unfold bt; show (BitVec.ofNat 32 0).getLsbD k = false; simp
theorem sh31 {k : Nat} (h : k < 32) : (ni k &&& 31) = ni k := by
  have : ∀ k : Fin 32, (ni k.val &&& 31) = ni k.val := by decide
  exact this ⟨k, h⟩
theorem bt_one {k j : Nat} (h : k < 32) (hj : j < 32) : bt ((1 : Int32) <<< (ni k &&& 31)) j = decide (j = k) := by
  have : ∀ k j : Fin 32, bt ((1 : Int32) <<< (ni k.val &&& 31)) j.val = decide (j.val = k.val) := by decide
  exact this ⟨k, h⟩ ⟨j, hj⟩
theorem bt_ushr {x : Int32} {k : Nat} (h : k < 32) : ((x.toUInt32 >>> ((ni k).toUInt32 &&& Int32.toUInt32 31)).toInt32 &&& 1) = if bt x k then 1 else 0 := by
  have hs : ((ni k).toUInt32 &&& Int32.toUInt32 31).toBitVec = BitVec.ofNat 32 k := by
    have : ∀ k : Fin 32, ((ni k.val).toUInt32 &&& Int32.toUInt32 31).toBitVec = BitVec.ofNat 32 k.val := by decide
    exact this ⟨k, h⟩
  apply Int32.toBitVec_inj.mp
  have e : ((x.toUInt32 >>> ((ni k).toUInt32 &&& Int32.toUInt32 31)).toInt32 &&& 1).toBitVec = (x.toBitVec >>> k) &&& 1#32 := by
    rw [Int32.toBitVec_and]
    show (x.toBitVec >>> (((ni k).toUInt32 &&& Int32.toUInt32 31).toBitVec % 32)) &&& 1#32 = _
    rw [hs]
    congr 1
    show x.toBitVec >>> (BitVec.ofNat 32 k % 32#32).toNat = _
    rw [BitVec.toNat_umod, BitVec.toNat_ofNat]
    congr 1
    show k % 2 ^ 32 % 32 = k
    omega
  rw [e]
  apply BitVec.eq_of_getLsbD_eq
  intro i hi
  rw [BitVec.getLsbD_and, BitVec.getLsbD_ushiftRight]
  unfold bt
  by_cases hi0 : i = 0
  · subst hi0
    cases hb : x.toBitVec.getLsbD k <;> simp [hb]
  · have h1 : (1#32).getLsbD i = false := by
      rw [BitVec.getLsbD_one]; simp; omega
    rw [h1]
    cases x.toBitVec.getLsbD k <;> simp [BitVec.getLsbD_one] <;> omega
theorem bt_sshr {x : Int32} {k : Nat} (h : k < 32) : ((x >>> (ni k &&& 31)) &&& 1) = if bt x k then 1 else 0 := by
  rw [sh31 h]
  apply Int32.toBitVec_inj.mp
  have e : ((x >>> ni k) &&& 1).toBitVec = (x.toBitVec.sshiftRight k) &&& 1#32 := by
    rw [Int32.toBitVec_and]
    show (x.toBitVec.sshiftRight' ((ni k).toBitVec.smod 32)) &&& 1#32 = _
    congr 1
    rw [BitVec.sshiftRight']
    congr 1
    have : ∀ k : Fin 32, (BitVec.smod (ni k.val).toBitVec 32).toNat = k.val := by decide
    exact this ⟨k, h⟩
  rw [e]
  apply BitVec.eq_of_getLsbD_eq
  intro i hi
  rw [BitVec.getLsbD_and, BitVec.getLsbD_sshiftRight]
  unfold bt
  by_cases hi0 : i = 0
  · subst hi0
    cases hb : x.toBitVec.getLsbD k <;> simp [hb, h]
  · have h1 : (1#32).getLsbD i = false := by
      rw [BitVec.getLsbD_one]; simp; omega
    rw [h1]
    cases x.toBitVec.getLsbD k <;> simp [BitVec.getLsbD_one] <;> omega
theorem and_ne0 {x y : Int32} : (¬ (x &&& y) = 0) ↔ ∃ k, k < 32 ∧ bt x k = true ∧ bt y k = true := by
  constructor
  · intro h
    refine Classical.byContradiction fun hn => h (bt_ext fun k hk => ?_)
    rw [bt_and, bt_0]
    cases h1 : bt x k
    · rfl
    · cases h2 : bt y k
      · rfl
      · exact absurd ⟨k, hk, h1, h2⟩ hn
  · rintro ⟨k, hk, h1, h2⟩ e
    have q := bt_and x y k
    rw [e, bt_0, h1, h2] at q
    cases q
theorem lit (n : Nat) : (OfNat.ofNat n : Int32) = ni n := rfl
theorem litl (n : Nat) : (OfNat.ofNat n : Int64) = nl n := rfl
theorem ni_ne1' {a : Nat} (h : a < 2147483648) : ¬ ni a = -ni 1 := ni_ne1 h
theorem m1_ne {a : Nat} (h : a < 2147483648) : ¬ -1 = ni a := fun e => ni_ne1 h e.symm
theorem m1_ne' {a : Nat} (h : a < 2147483648) : ¬ -ni 1 = ni a := fun e => ni_ne1 h e.symm
