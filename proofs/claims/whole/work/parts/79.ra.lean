-- needs: 74.sclsb 75.num 76.rel 77.cong 78.sim 79.qa 79.qb
-- ===== tokens =====
def isL (b : Nat) : Bool := decide (97 ≤ b ∧ b ≤ 122)
def isD (b : Nat) : Bool := decide (48 ≤ b ∧ b ≤ 57)
def isB (b : Nat) : Bool := decide (b = 10 ∨ b = 32)
def isS (b : Nat) : Bool := decide (b = 37 ∨ b = 40 ∨ b = 41 ∨ b = 42 ∨ b = 43 ∨ b = 45 ∨ b = 46 ∨ b = 47 ∨ b = 58 ∨ b = 59 ∨ b = 60 ∨ b = 61 ∨ b = 62 ∨ b = 63 ∨ b = 91 ∨ b = 93 ∨ b = 123 ∨ b = 125)
/-- where a row of such bytes ends -/
def rnE (P : Nat → Bool) (by_ : Nat → Nat) (n : Nat) : Nat → Nat → Nat
  | 0, p => p
  | f + 1, p => if p < n ∧ P (by_ p) = true then rnE P by_ n f (p + 1) else p
/-- the number that k places from p on spell -/
def vlN (m c : Nat) (by_ : Nat → Nat) : Nat → Nat → Nat → Nat
  | 0, _, a => a
  | k + 1, p, a => vlN m c by_ k (p + 1) (m * a + (by_ p - c))
section Tk
variable {P : Nat → Bool} {by_ : Nat → Nat} {n : Nat}
theorem rnE_ge : ∀ {f p : Nat}, p ≤ rnE P by_ n f p := by
  intro f
  induction f with
  | zero => intro p; exact Nat.le_refl _
  | succ f ih =>
    intro p
    unfold rnE
    split
    · exact Nat.le_trans (Nat.le_succ p) ih
    · exact Nat.le_refl _
theorem rnE_le : ∀ {f p : Nat}, p ≤ n → rnE P by_ n f p ≤ n := by
  intro f
  induction f with
  | zero => intro p h; exact h
  | succ f ih =>
    intro p h
    unfold rnE
    split
    · rename_i q; exact ih (by omega)
    · exact h
theorem rnE_fu : ∀ {f g p : Nat}, n ≤ p + f → n ≤ p + g → rnE P by_ n f p = rnE P by_ n g p := by
  intro f
  induction f with
  | zero =>
    intro g p h _
    cases g with
    | zero => rfl
    | succ g => unfold rnE; rw [if_neg (by omega)]
  | succ f ih =>
    intro g p h1 h2
    cases g with
    | zero => unfold rnE; rw [if_neg (by omega)]
    | succ g =>
      unfold rnE
      split
      · exact ih (by omega) (by omega)
      · rfl
theorem rnE_all : ∀ {f p k : Nat}, p ≤ k → k < rnE P by_ n f p → k < n ∧ P (by_ k) = true := by
  intro f
  induction f with
  | zero => intro p k h1 h2; have : k < p := h2; omega
  | succ f ih =>
    intro p k h1 h2
    unfold rnE at h2
    split at h2
    · rename_i q
      by_cases e : k = p
      · subst e; exact q
      · exact ih (by omega) h2
    · omega
theorem rnE_end : ∀ {f p : Nat}, n ≤ p + f → ¬ (rnE P by_ n f p < n ∧ P (by_ (rnE P by_ n f p)) = true) := by
  intro f
  induction f with
  | zero => intro p h q; have : p < n := q.1; omega
  | succ f ih =>
    intro p h
    unfold rnE
    by_cases q : p < n ∧ P (by_ p) = true
    · rw [if_pos q]; exact ih (by omega)
    · rw [if_neg q]; exact q
theorem vlN_snoc {m c : Nat} : ∀ {k p a : Nat}, vlN m c by_ (k + 1) p a = m * vlN m c by_ k p a + (by_ (p + k) - c) := by
  intro k
  induction k with
  | zero => intro p a; rfl
  | succ k ih =>
    intro p a
    have := @ih (p + 1) (m * a + (by_ p - c))
    rw [show p + 1 + k = p + (k + 1) by omega] at this
    exact this
theorem vlN_lt {m c : Nat} : ∀ {k p a B : Nat}, (∀ i, p ≤ i → i < p + k → by_ i - c < m) → a < B → vlN m c by_ k p a < m ^ k * B := by
  intro k
  induction k with
  | zero => intro p a B _ h; simpa [vlN] using h
  | succ k ih =>
    intro p a B h hb
    have h1 := h p (by omega) (by omega)
    have := @ih (p + 1) (m * a + (by_ p - c)) (m * B) (fun i h1 h2 => h i (by omega) (by omega)) (by
      have : m * (a + 1) ≤ m * B := Nat.mul_le_mul_left m hb
      rw [Nat.mul_add] at this; omega)
    unfold vlN
    rw [Nat.pow_succ, Nat.mul_assoc]; exact this
end Tk
/-- the bytes, in the class and in the reference -/
def TBy (A : Mem) (n : Nat) (by_ : Nat → Nat) : Prop := n ≤ 900 ∧ gi A 1 1 = ni n ∧ ∀ k, k < n → by_ k < 256 ∧ gi A 2 k = ni (by_ k)
def RBy (B : Mem) (n : Nat) (by_ : Nat → Nat) : Prop := n ≤ 900 ∧ gi B 181 4 = ni n ∧ ∀ k, k < n → by_ k < 256 ∧ gi B 182 k = byR (by_ k)
theorem byR_and {b : Nat} (h : b < 256) : byR b &&& 255 = ni b := by
  have : ∀ b : Fin 256, byR b.val &&& 255 = ni b.val := by decide +kernel
  exact this ⟨b, h⟩
theorem byteAt_lt {B : Mem} {n p : Nat} {by_ : Nat → Nat} (h : RBy B n by_) (hp : p < n) : S_X11_byteAt (ni p) B = some (ni (by_ p), B) := by
  obtain ⟨h1, h2, h3⟩ := h
  unfold S_X11_byteAt
  rw [h2, if_neg (fun e => by have := (ni_le (by omega) (by omega)).mp e; omega), gdT ((ni_inb (by omega)).mpr (by omega)), ni_tn (by omega), (h3 p hp).2, byR_and (h3 p hp).1]
theorem byteAt_ge {B : Mem} {n p : Nat} {by_ : Nat → Nat} (h : RBy B n by_) (hp : n ≤ p) (hp2 : p < 2147483648) : S_X11_byteAt (ni p) B = some (-1, B) := by
  obtain ⟨h1, h2, h3⟩ := h
  unfold S_X11_byteAt
  rw [h2, if_pos ((ni_le (by omega) hp2).mpr hp)]
theorem isLetter_ni {b : Nat} {M : Mem} (h : b < 256) : L_X11_isLetter (ni b) M = some (if isL b then 1 else 0, M) := by
  unfold L_X11_isLetter isL
  rw [show (97 : Int32) = ni 97 from rfl, show (122 : Int32) = ni 122 from rfl]
  by_cases h1 : b < 97
  · rw [if_pos ((ni_lt (by omega) (by omega)).mpr h1), decide_eq_false (by omega)]; rfl
  · rw [if_neg (fun e => h1 ((ni_lt (by omega) (by omega)).mp e))]
    by_cases h2 : 122 < b
    · rw [if_pos ((ni_lt (by omega) (by omega)).mpr h2), decide_eq_false (by omega)]; rfl
    · rw [if_neg (fun e => h2 ((ni_lt (by omega) (by omega)).mp e)), decide_eq_true (by omega)]; rfl
theorem isDigit_ni {b : Nat} {M : Mem} (h : b < 256) : L_X11_isDigit (ni b) M = some (if isD b then 1 else 0, M) := by
  unfold L_X11_isDigit isD
  rw [show (48 : Int32) = ni 48 from rfl, show (57 : Int32) = ni 57 from rfl]
  by_cases h1 : b < 48
  · rw [if_pos ((ni_lt (by omega) (by omega)).mpr h1), decide_eq_false (by omega)]; rfl
  · rw [if_neg (fun e => h1 ((ni_lt (by omega) (by omega)).mp e))]
    by_cases h2 : 57 < b
    · rw [if_pos ((ni_lt (by omega) (by omega)).mpr h2), decide_eq_false (by omega)]; rfl
    · rw [if_neg (fun e => h2 ((ni_lt (by omega) (by omega)).mp e)), decide_eq_true (by omega)]; rfl
theorem isLetter_m1 {M : Mem} : L_X11_isLetter (-1) M = some (0, M) := rfl
theorem isDigit_m1 {M : Mem} : L_X11_isDigit (-1) M = some (0, M) := rfl
theorem isSign_ni {b : Nat} {M : Mem} (h : b < 256) : L_X11_isSignByte (ni b) M = some (if isS b then 1 else 0, M) := by
  unfold L_X11_isSignByte
  have c : ∀ m, m < 256 → ((ni b = ni m) ↔ b = m) := fun m hm => ni_inj (by omega) (by omega)
  rw [show (37 : Int32) = ni 37 from rfl, show (40 : Int32) = ni 40 from rfl, show (41 : Int32) = ni 41 from rfl, show (42 : Int32) = ni 42 from rfl, show (43 : Int32) = ni 43 from rfl, show (45 : Int32) = ni 45 from rfl, show (46 : Int32) = ni 46 from rfl, show (47 : Int32) = ni 47 from rfl, show (58 : Int32) = ni 58 from rfl, show (59 : Int32) = ni 59 from rfl, show (60 : Int32) = ni 60 from rfl, show (61 : Int32) = ni 61 from rfl, show (62 : Int32) = ni 62 from rfl, show (63 : Int32) = ni 63 from rfl, show (91 : Int32) = ni 91 from rfl, show (93 : Int32) = ni 93 from rfl, show (123 : Int32) = ni 123 from rfl, show (125 : Int32) = ni 125 from rfl]
  by_cases hs : isS b = true
  · rw [if_pos hs]
    have hs := of_decide_eq_true hs
    rcases hs with rfl | rfl | rfl | rfl | rfl | rfl | rfl | rfl | rfl | rfl | rfl | rfl | rfl | rfl | rfl | rfl | rfl | rfl <;> rfl
  · rw [if_neg hs]
    have hs : ¬ _ := fun q => hs (decide_eq_true q)
    simp only [not_or] at hs
    obtain ⟨q1, q2, q3, q4, q5, q6, q7, q8, q9, q10, q11, q12, q13, q14, q15, q16, q17, q18⟩ := hs
    rw [if_neg (fun e => q1 ((c _ (by omega)).mp e)), if_neg (fun e => q2 ((c _ (by omega)).mp e)), if_neg (fun e => q3 ((c _ (by omega)).mp e)), if_neg (fun e => q4 ((c _ (by omega)).mp e)), if_neg (fun e => q5 ((c _ (by omega)).mp e)), if_neg (fun e => q6 ((c _ (by omega)).mp e)), if_neg (fun e => q7 ((c _ (by omega)).mp e)), if_neg (fun e => q8 ((c _ (by omega)).mp e)), if_neg (fun e => q9 ((c _ (by omega)).mp e)), if_neg (fun e => q10 ((c _ (by omega)).mp e)), if_neg (fun e => q11 ((c _ (by omega)).mp e)), if_neg (fun e => q12 ((c _ (by omega)).mp e)), if_neg (fun e => q13 ((c _ (by omega)).mp e)), if_neg (fun e => q14 ((c _ (by omega)).mp e)), if_neg (fun e => q15 ((c _ (by omega)).mp e)), if_neg (fun e => q16 ((c _ (by omega)).mp e)), if_neg (fun e => q17 ((c _ (by omega)).mp e)), if_neg (fun e => q18 ((c _ (by omega)).mp e))]
    rfl
theorem sgIx_ni {b : Nat} (h : b < 256) : sgIx (ni b) < 0 ↔ isS b = false := by
  have : ∀ b : Fin 256, sgIx (ni b.val) < 0 ↔ isS b.val = false := by decide +kernel
  exact this ⟨b, h⟩
-- what the token at p is
def tkE (by_ : Nat → Nat) (n p : Nat) : Nat := if isL (by_ p) then rnE isL by_ n 1000 p else if isD (by_ p) then rnE isD by_ n 1000 p else p + 1
def tkC (by_ : Nat → Nat) (n p : Nat) : Nat := if isL (by_ p) then (if tkE by_ n p - p ≤ 8 then vlN 32 96 by_ (tkE by_ n p - p) p 0 else 0) else if isD (by_ p) then (if tkE by_ n p - p ≤ 9 then vlN 10 48 by_ (tkE by_ n p - p) p 0 else 0) else 0
def tkK (wd : Nat → Int64) (by_ : Nat → Nat) (n p : Nat) : Int32 := if isL (by_ p) then (if tkE by_ n p - p ≤ 8 then (match pos wd (nl (tkC by_ n p)) 12 0 with
    | some w => ni (300 + w)
    | none => 2) else 1) else if isD (by_ p) then (if tkE by_ n p - p ≤ 9 then 3 else 1) else if isS (by_ p) then ni (by_ p) else 1
