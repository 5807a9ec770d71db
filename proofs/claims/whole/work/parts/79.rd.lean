-- needs: 74.sclsb 75.num 76.rel 77.cong 78.sim 79.qa 79.qb 79.ra 79.rb 79.rc
-- ===== class and reference read side by side: what stays, where they stand =====
def FrC (A A' : Mem) : Prop := KG A A' ∧ (∀ a, a ≠ 7 → a ≠ 8 → a ≠ 9 → gi A' a = gi A a) ∧ (∀ a, a ≠ 10 → gl A' a = gl A a) ∧ (∀ j, j ≠ 2 → j ≠ 5 → j ≠ 6 → j ≠ 7 → gi A' 7 j = gi A 7 j) ∧ ∀ j, j ≠ 1 → j ≠ 6 → gi A' 8 j = gi A 8 j
theorem FrC.rf {A : Mem} : FrC A A := ⟨KG.rf, fun _ _ _ _ => rfl, fun _ _ => rfl, fun _ _ _ _ _ => rfl, fun _ _ _ => rfl⟩
theorem FrC.trans {A B C : Mem} (h : FrC A B) (g : FrC B C) : FrC A C := ⟨h.1.trans g.1, fun a a1 a2 a3 => (g.2.1 a a1 a2 a3).trans (h.2.1 a a1 a2 a3), fun a a1 => (g.2.2.1 a a1).trans (h.2.2.1 a a1), fun j j1 j2 j3 j4 => (g.2.2.2.1 j j1 j2 j3 j4).trans (h.2.2.2.1 j j1 j2 j3 j4), fun j j1 j2 => (g.2.2.2.2 j j1 j2).trans (h.2.2.2.2 j j1 j2)⟩
def FrB (B B' : Mem) : Prop := KG B B' ∧ (∀ a, a ≠ 181 → a ≠ 191 → a ≠ 193 → gi B' a = gi B a) ∧ (∀ a, a ≠ 181 → a ≠ 192 → gl B' a = gl B a) ∧ (∀ j, j < 2 ∨ j = 4 ∨ (11 < j ∧ j < 27) ∨ (27 < j ∧ j < 31) ∨ (31 < j ∧ j < 35) ∨ 35 < j → gi B' 181 j = gi B 181 j) ∧ ∀ j, j ≠ 8 → gl B' 181 j = gl B 181 j
theorem FrB.rf {A : Mem} : FrB A A := ⟨KG.rf, fun _ _ _ _ => rfl, fun _ _ _ => rfl, fun _ _ => rfl, fun _ _ => rfl⟩
theorem FrB.trans {A B C : Mem} (h : FrB A B) (g : FrB B C) : FrB A C := ⟨h.1.trans g.1, fun a a1 a2 a3 => (g.2.1 a a1 a2 a3).trans (h.2.1 a a1 a2 a3), fun a a1 a2 => (g.2.2.1 a a1 a2).trans (h.2.2.1 a a1 a2), fun j j1 => (g.2.2.2.1 j j1).trans (h.2.2.2.1 j j1), fun j j1 => (g.2.2.2.2 j j1).trans (h.2.2.2.2 j j1)⟩
theorem Ad.fr {B B' : Mem} (h : Ad B B') : FrB B B' := ⟨h.1, fun a a1 _ _ => (h.2.1 a a1).1, fun a a1 _ => (h.2.1 a a1).2, fun j hj => h.2.2.1 j (by omega), h.2.2.2⟩
theorem frC_7 {A : Mem} {j : Nat} {x : Int32} (h : j = 2 ∨ j = 5 ∨ j = 6 ∨ j = 7) : FrC A (si A 7 j x) := ⟨kg_si, fun a a1 _ _ => gi_ne a1, fun _ _ => rfl, fun i i1 i2 i3 i4 => si_ff' (by omega), fun i _ _ => by rw [gi_ne (by omega)]⟩
theorem frC_8 {A : Mem} {j : Nat} {x : Int32} (h : j = 1 ∨ j = 6) : FrC A (si A 8 j x) := ⟨kg_si, fun a _ a1 _ => gi_ne a1, fun _ _ => rfl, fun i _ _ _ _ => by rw [gi_ne (by omega)], fun i i1 i2 => si_ff' (by omega)⟩
theorem frC_9 {A : Mem} {j : Nat} {x : Int32} : FrC A (si A 9 j x) := ⟨kg_si, fun a _ _ a1 => gi_ne a1, fun _ _ => rfl, fun i _ _ _ _ => by rw [gi_ne (by omega)], fun i i1 i2 => by rw [gi_ne (by omega)]⟩
theorem frC_10 {A : Mem} {j : Nat} {x : Int64} : FrC A (sl A 10 j x) := ⟨kg_sl, fun a _ _ a1 => rfl, fun a ha => gl_ne ha, fun i _ _ _ _ => rfl, fun i i1 i2 => rfl⟩
theorem frB_f {B : Mem} {j : Nat} {x : Int32} (h : j = 2 ∨ j = 3 ∨ (4 < j ∧ j ≤ 11) ∨ j = 27 ∨ j = 31 ∨ j = 35) : FrB B (si B 181 j x) := ⟨kg_si, fun a a1 _ _ => gi_ne a1, fun _ _ _ => rfl, fun i hi => si_ff' (by omega), fun _ _ => rfl⟩
theorem frB_a {B : Mem} {a j : Nat} {x : Int32} (h : a = 191 ∨ a = 193) : FrB B (si B a j x) := ⟨kg_si, fun b _ b1 b2 => gi_ne (by omega), fun _ _ _ => rfl, fun i hi => by rw [gi_ne (by omega)], fun _ _ => rfl⟩
theorem frB_l {B : Mem} {j : Nat} {x : Int64} : FrB B (sl B 192 j x) := ⟨kg_sl, fun b _ b1 b2 => rfl, fun a _ a1 => gl_ne a1, fun i hi => rfl, fun i hi => by rw [gl_ne (by omega)]⟩
theorem KG.kc {A B : Mem} (h : KG A B) : KC A B := by
  obtain ⟨a, b, c⟩ := h
  have e1 : nc B = nc A := congrArg Prod.fst a
  have e2 : ns B = ns A := congrArg Prod.snd a
  refine ⟨by omega, by omega, fun q _ => ⟨?_, ?_⟩, fun q j _ _ => ?_⟩
  · unfold kd; rw [b]
  · unfold ln; rw [b]
  · unfold gr; rw [c]
theorem FSC.kg {A B : Mem} (h : FSC A) (g : KG A B) : FSC B := h.kc g.kc
def kpN (wd : Nat → Int64) (by_ : Nat → Nat) (n p : Nat) : Nat := if isL (by_ p) then (if tkE by_ n p - p ≤ 8 then (match pos wd (nl (tkC by_ n p)) 12 0 with
    | some w => 300 + w
    | none => 2) else 1) else if isD (by_ p) then (if tkE by_ n p - p ≤ 9 then 3 else 1) else if isS (by_ p) then by_ p else 1
theorem tkK_kp {wd : Nat → Int64} {by_ : Nat → Nat} {n p : Nat} : tkK wd by_ n p = ni (kpN wd by_ n p) := by
  unfold tkK kpN
  split
  · split
    · cases pos wd (nl (tkC by_ n p)) 12 0 <;> rfl
    · rfl
  · split
    · split <;> rfl
    · split <;> rfl
/-- the fault that may be told at a word's own place -/
def fk (k : Nat) : Nat := if k = 302 then 2 else if k ≤ 306 then 5 else 6
section Ls
variable (by_ : Nat → Nat) (n T own : Nat) (wd : Nat → Int64)
def kap (i : Nat) : Nat := if i < T then kpN wd by_ n (pfN by_ n i) else 0
def chi (i : Nat) : Nat := if i < T then tkC by_ n (pfN by_ n i) else 0
def St (A B : Mem) : Prop := FSC A ∧ FSR B ∧ gl A 6 = wd ∧ (∀ i, i < 12 → gl B 183 (i + 1) = wd i) ∧ ((∀ i j, i < 12 → j < 12 → wd i = wd j → i = j) ∧ ∀ w, w < 7 → ∃ q : Nat, 1024 ≤ q ∧ q < 1099511627776 ∧ wd w = nl q) ∧ CutP A by_ n T ∧ RBy B n by_ ∧ gi A 1 1 = ni n ∧ gi A 7 3 = ni own ∧ gi B 181 12 = ni own ∧ own < 30 ∧ (gi A 7 4 = 1 ↔ ¬ gi B 181 33 = 0) ∧ (gi A 7 4 = 2 ↔ ¬ gi B 181 34 = 0)
def FI (i : Nat) (f p : Int32) : Prop := f = 0 ∨ ∃ q, p = ni q ∧ (q < pfN by_ n i ∨ (q = pfN by_ n i ∧ 300 ≤ kap by_ n T wd i ∧ f = ni (fk (kap by_ n T wd i))))
def Dy (i c r : Nat) (A B : Mem) : Prop := i ≤ T ∧ gi A 7 2 = ni i ∧ gi A 7 5 = 0 ∧ gi B 181 11 = 0 ∧ RTk B wd by_ n (pfN by_ n i) ∧ (gi A 7 6 = gi B 181 2 ∧ gi A 7 7 = gi B 181 3 ∧ FI by_ n T wd i (gi A 7 6) (gi A 7 7)) ∧ gi A 8 6 = ni c ∧ gi B 181 27 = ni r ∧ gi A 8 1 = gi B 181 35
def R (i c r : Nat) (A B : Mem) : Prop := St by_ n T own wd A B ∧ Dy by_ n T wd i c r A B
/-- both have stopped -/
def Bk (b : Nat) (A B : Mem) : Prop := St by_ n T own wd A B ∧ ¬ gi A 7 5 = 0 ∧ ¬ gi B 181 11 = 0 ∧ (gi A 7 6 = 1 ∧ gi B 181 2 = 1 ∧ gi A 7 7 = gi B 181 3) ∧ (∃ i, i ≤ T ∧ gi A 7 2 = ni i) ∧ (∃ c, c ≤ 1024 ∧ gi A 8 6 = ni c) ∧ ∃ r, r ≤ b ∧ gi B 181 27 = ni r
end Ls
section Lt
variable {by_ : Nat → Nat} {n T own : Nat} {wd : Nat → Int64}
theorem st_fr {A B A' B' : Mem} (h : St by_ n T own wd A B) (f : FrC A A') (g : FrB B B') : St by_ n T own wd A' B' := by
  obtain ⟨h1, h2, h3, h4, h5, h6, h7, h8, h9, h10, h11, h12, h13⟩ := h
  refine ⟨h1.kg f.1, h2.kg g.1, (f.2.2.1 6 (by omega)).trans h3, fun i hi => ?_, h5, ?_, ⟨h7.1, ?_, fun k hk => ⟨(h7.2.2 k hk).1, ?_⟩⟩, ?_, ?_, ?_, h11, ?_, ?_⟩
  · rw [g.2.2.1 183 (by omega) (by omega)]; exact h4 i hi
  · obtain ⟨q1, q2, q3, q4, q5, q6, q7⟩ := h6
    refine ⟨q1, ?_, q3, fun i hi => ?_, ?_, ?_, ?_⟩
    · rw [f.2.1 1 (by omega) (by omega) (by omega)]; exact q2
    · rw [f.2.1 3 (by omega) (by omega) (by omega), f.2.1 4 (by omega) (by omega) (by omega), f.2.2.1 5 (by omega), f.2.2.1 6 (by omega)]; exact q4 i hi
    · rw [f.2.1 3 (by omega) (by omega) (by omega)]; exact q5
    · rw [f.2.1 4 (by omega) (by omega) (by omega)]; exact q6
    · rw [f.2.2.1 5 (by omega)]; exact q7
  · exact (g.2.2.2.1 4 (by omega)).trans h7.2.1
  · rw [g.2.1 182 (by omega) (by omega) (by omega)]; exact (h7.2.2 k hk).2
  · rw [f.2.1 1 (by omega) (by omega) (by omega)]; exact h8
  · exact (f.2.2.2.1 3 (by omega) (by omega) (by omega) (by omega)).trans h9
  · exact (g.2.2.2.1 12 (by omega)).trans h10
  · rw [f.2.2.2.1 4 (by omega) (by omega) (by omega) (by omega), g.2.2.2.1 33 (by omega)]; exact h12
  · rw [f.2.2.2.1 4 (by omega) (by omega) (by omega) (by omega), g.2.2.2.1 34 (by omega)]; exact h13
theorem rtk_cg {B B' : Mem} {p : Nat} (h : RTk B wd by_ n p) (h5 : gi B' 181 5 = gi B 181 5) (h6 : gi B' 181 6 = gi B 181 6) (h7 : gi B' 181 7 = gi B 181 7) (h9 : gi B' 181 9 = gi B 181 9) (h10 : gi B' 181 10 = gi B 181 10) (h8 : gl B' 181 8 = gl B 181 8) : RTk B' wd by_ n p := by
  unfold RTk at h ⊢; rw [h5, h6, h7, h8, h9, h10]; exact h
theorem St.pf {A B : Mem} (h : St by_ n T own wd A B) {i : Nat} (hi : i < T) : pfN by_ n i < n ∧ isB (by_ (pfN by_ n i)) = false := ⟨(h.2.2.2.2.2.1.2.2.2.1 i hi).1, (h.2.2.2.2.2.1.2.2.2.1 i hi).2.1⟩
theorem St.n9 {A B : Mem} (h : St by_ n T own wd A B) : n ≤ 900 := h.2.2.2.2.2.2.1.1
theorem St.tn {A B : Mem} (h : St by_ n T own wd A B) : T ≤ n := h.2.2.2.2.2.1.1
theorem St.pfT {A B : Mem} (h : St by_ n T own wd A B) : pfN by_ n T = n := h.2.2.2.2.2.1.2.2.1
theorem St.pfs {A B : Mem} (h : St by_ n T own wd A B) {i : Nat} (hi : i < T) : tkE by_ n (pfN by_ n i) ≤ pfN by_ n (i + 1) ∧ pfN by_ n i < tkE by_ n (pfN by_ n i) := by
  have h1 := (h.pf hi).1
  constructor
  · show _ ≤ if pfN by_ n i < n then skp by_ n (tkE by_ n (pfN by_ n i)) else n
    rw [if_pos h1]; exact rnE_ge
  · exact tkE_gt h1
theorem St.ple {A B : Mem} (h : St by_ n T own wd A B) {i : Nat} (hi : i ≤ T) : pfN by_ n i ≤ n := by
  rcases Nat.lt_or_ge i T with h1 | h1
  · exact Nat.le_of_lt (h.pf h1).1
  · rw [show i = T by omega, h.pfT]; exact Nat.le_refl _
/-- the token, in both -/
theorem tok {A B : Mem} {i c r : Nat} (h : R by_ n T own wd i c r A B) :
    (kap by_ n T wd i = 0 ∧ i = T ∧ gi B 181 6 = 4) ∨ (kap by_ n T wd i = 1 ∧ i < T ∧ gi B 181 6 = 5) ∨
    (kap by_ n T wd i = 2 ∧ i < T ∧ gi B 181 6 = 0 ∧ gl B 181 8 = nl (chi by_ n T i) ∧ chi by_ n T i < 1099511627776) ∨
    (kap by_ n T wd i = 3 ∧ i < T ∧ gi B 181 6 = 1 ∧ gi B 181 9 = ni (chi by_ n T i) ∧ chi by_ n T i < 1000000000) ∨
    (∃ w, w < 12 ∧ kap by_ n T wd i = 300 + w ∧ i < T ∧ gi B 181 6 = 2 ∧ gi B 181 10 = ni (w + 1)) ∨
    (∃ b, 36 < b ∧ b < 126 ∧ kap by_ n T wd i = b ∧ i < T ∧ gi B 181 6 = 3 ∧ gi B 182 (pfN by_ n i) = ni b) := by
  obtain ⟨hs, d1, d2, d3, d4, d5, d6⟩ := h
  rcases Nat.lt_or_ge i T with hi | hi
  · obtain ⟨p1, p2⟩ := hs.pf hi
    have p3 := (hs.pfs hi).2
    unfold RTk at d5
    rw [if_neg (by omega)] at d5
    obtain ⟨e7, e5, e⟩ := d5
    have ek : kap by_ n T wd i = kpN wd by_ n (pfN by_ n i) := if_pos hi
    have ec : chi by_ n T i = tkC by_ n (pfN by_ n i) := if_pos hi
    rw [ek, ec]
    generalize hp : pfN by_ n i = p at *
    unfold kpN
    by_cases hL : isL (by_ p) = true
    · rw [if_pos hL] at e
      rw [if_pos hL]
      by_cases h8 : tkE by_ n p - p ≤ 8
      · rw [if_pos h8] at e
        rw [if_pos h8]
        cases hq : pos wd (nl (tkC by_ n p)) 12 0 with
        | none =>
          rw [hq] at e
          refine Or.inr (Or.inr (Or.inl ⟨rfl, hi, e.2, e.1, ?_⟩))
          have eE : tkE by_ n p = rnE isL by_ n 1000 p := by unfold tkE; rw [if_pos hL]
          have : tkC by_ n p = vlN 32 96 by_ (tkE by_ n p - p) p 0 := by unfold tkC; rw [if_pos hL, if_pos h8]
          rw [this]
          have := vlN_lt (m := 32) (c := 96) (by_ := by_) (k := tkE by_ n p - p) (p := p) (a := 0) (B := 1) (fun j j1 j2 => by
            have q := of_decide_eq_true (rnE_all j1 (show j < rnE isL by_ n 1000 p by rw [← eE]; omega)).2
            omega) (by omega)
          rw [Nat.mul_one] at this
          exact Nat.lt_of_lt_of_le this (Nat.le_trans (Nat.pow_le_pow_right (by decide) h8) (by decide))
        | some w =>
          rw [hq] at e
          exact Or.inr (Or.inr (Or.inr (Or.inr (Or.inl ⟨w, by have := pos_some hq; omega, rfl, hi, e.2⟩))))
      · rw [if_neg h8] at e
        rw [if_neg h8]
        exact Or.inr (Or.inl ⟨rfl, hi, e⟩)
    · rw [if_neg hL] at e
      rw [if_neg hL]
      by_cases hD : isD (by_ p) = true
      · rw [if_pos hD] at e
        rw [if_pos hD]
        by_cases h8 : tkE by_ n p - p ≤ 9
        · rw [if_pos h8] at e
          rw [if_pos h8]
          refine Or.inr (Or.inr (Or.inr (Or.inl ⟨rfl, hi, e.1, e.2, ?_⟩)))
          have eE : tkE by_ n p = rnE isD by_ n 1000 p := by unfold tkE; rw [if_neg hL, if_pos hD]
          have : tkC by_ n p = vlN 10 48 by_ (tkE by_ n p - p) p 0 := by unfold tkC; rw [if_neg hL, if_pos hD, if_pos h8]
          rw [this]
          have := vlN_lt (m := 10) (c := 48) (by_ := by_) (k := tkE by_ n p - p) (p := p) (a := 0) (B := 1) (fun j j1 j2 => by
            have q := of_decide_eq_true (rnE_all j1 (show j < rnE isD by_ n 1000 p by rw [← eE]; omega)).2
            omega) (by omega)
          rw [Nat.mul_one] at this
          exact Nat.lt_of_lt_of_le this (Nat.le_trans (Nat.pow_le_pow_right (by decide) h8) (by decide))
        · rw [if_neg h8] at e
          rw [if_neg h8]
          exact Or.inr (Or.inl ⟨rfl, hi, e⟩)
      · rw [if_neg hD] at e
        rw [if_neg hD]
        by_cases hS : isS (by_ p) = true
        · rw [if_pos hS] at e
          rw [if_pos hS]
          have q := of_decide_eq_true hS
          refine Or.inr (Or.inr (Or.inr (Or.inr (Or.inr ⟨by_ p, by omega, by omega, rfl, hi, e, ?_⟩))))
          rw [(hs.2.2.2.2.2.2.1.2.2 p p1).2]
          unfold byR
          rw [if_pos (by omega)]
        · rw [if_neg hS] at e
          rw [if_neg hS]
          exact Or.inr (Or.inl ⟨rfl, hi, e⟩)
  · have : i = T := by omega
    subst this
    unfold RTk at d5
    rw [hs.pfT, if_pos (Nat.le_refl n)] at d5
    exact Or.inl ⟨if_neg (by omega), rfl, d5.2.1⟩
theorem kap_lt {A B : Mem} {i c r : Nat} (h : R by_ n T own wd i c r A B) : kap by_ n T wd i < 312 := by
  rcases tok h with h | h | h | h | ⟨w, h⟩ | ⟨b, h⟩ <;> omega
theorem kap_T {A B : Mem} {i c r : Nat} (h : R by_ n T own wd i c r A B) (hk : kap by_ n T wd i ≠ 0) : i < T := by
  rcases tok h with h | h | h | h | ⟨w, h⟩ | ⟨b, h⟩ <;> omega
/-- the words of a sheet are three letters long, or longer -/
theorem word3 {A B : Mem} {i c r w : Nat} (h : R by_ n T own wd i c r A B) (hk : kap by_ n T wd i = 300 + w) (hw : w < 7) : pfN by_ n i + 3 ≤ pfN by_ n (i + 1) := by
  have hi := kap_T h (by omega)
  obtain ⟨q, q1, q2, q3⟩ := h.1.2.2.2.2.1.2 w hw
  obtain ⟨p1, p2⟩ := h.1.pfs hi
  have ek : kap by_ n T wd i = kpN wd by_ n (pfN by_ n i) := if_pos hi
  rw [ek] at hk
  generalize pfN by_ n i = p at *
  unfold kpN at hk
  by_cases hL : isL (by_ p) = true
  · rw [if_pos hL] at hk
    by_cases h8 : tkE by_ n p - p ≤ 8
    · rw [if_pos h8] at hk
      cases hq : pos wd (nl (tkC by_ n p)) 12 0 with
      | none => rw [hq] at hk; dsimp only at hk; omega
      | some w' =>
        rw [hq] at hk
        dsimp only at hk
        have ew : w' = w := by omega
        have e := (pos_some hq).2.2
        rw [ew, q3] at e
        have eE : tkE by_ n p = rnE isL by_ n 1000 p := by unfold tkE; rw [if_pos hL]
        have eC : tkC by_ n p = vlN 32 96 by_ (tkE by_ n p - p) p 0 := by unfold tkC; rw [if_pos hL, if_pos h8]
        have lt := vlN_lt (m := 32) (c := 96) (by_ := by_) (k := tkE by_ n p - p) (p := p) (a := 0) (B := 1) (fun j j1 j2 => by
          have q := of_decide_eq_true (rnE_all j1 (show j < rnE isL by_ n 1000 p by rw [← eE]; omega)).2
          omega) (by omega)
        rw [Nat.mul_one, ← eC] at lt
        have lt2 : tkC by_ n p < 1099511627776 := Nat.lt_of_lt_of_le lt (Nat.le_trans (Nat.pow_le_pow_right (by decide) h8) (by decide))
        have e2 := (nl_inj (by omega) (by omega)).mp e
        have : ¬ tkE by_ n p - p ≤ 2 := fun z => by
          have := Nat.pow_le_pow_right (show 0 < 32 by decide) z
          omega
        omega
    · rw [if_neg h8] at hk; omega
  · rw [if_neg hL] at hk
    by_cases hD : isD (by_ p) = true
    · rw [if_pos hD] at hk
      by_cases h8 : tkE by_ n p - p ≤ 9
      · rw [if_pos h8] at hk; omega
      · rw [if_neg h8] at hk; omega
    · rw [if_neg hD] at hk
      by_cases hS : isS (by_ p) = true
      · rw [if_pos hS] at hk
        have q := of_decide_eq_true hS
        omega
      · rw [if_neg hS] at hk; omega
theorem kind_eq {A B : Mem} {i c r : Nat} (h : R by_ n T own wd i c r A B) : S_X4_kind A = some (ni (kap by_ n T wd i), A) := by
  obtain ⟨hs, d1, d2, d3, d4, d5, d6⟩ := h
  obtain ⟨q1, q2, q3, q4, q5, q6, q7⟩ := hs.2.2.2.2.2.1
  have n9 := hs.n9
  unfold S_X4_kind
  rw [d3, if_neg (by simp), d2, q2, if_pos ((ni_lt (by omega) (by omega)).mpr (by omega)), gdT ((ni_inb (by omega)).mpr (by omega)), ni_tn (by omega)]
  unfold kap
  rcases Nat.lt_or_ge i T with hi | hi
  · rw [if_pos hi, (q4 i hi).2.2.1, hs.2.2.1, tkK_kp]
  · rw [if_neg (by omega), show i = T by omega, q5]; rfl
theorem place_eq {A B : Mem} {i c r : Nat} (h : R by_ n T own wd i c r A B) : S_X4_place A = some (ni (pfN by_ n i), A) := by
  obtain ⟨hs, d1, d2, d3, d4, d5, d6⟩ := h
  obtain ⟨q1, q2, q3, q4, q5, q6, q7⟩ := hs.2.2.2.2.2.1
  have n9 := hs.n9
  unfold S_X4_place
  rw [d2, q2, if_neg (fun e => by have := (ni_le (by omega) (by omega)).mp e; omega), gdT ((ni_inb (by omega)).mpr (by omega)), ni_tn (by omega)]
  rcases Nat.lt_or_ge i T with hi | hi
  · rw [(q4 i hi).2.2.2.1]
  · rw [show i = T by omega, q6, q3]
theorem content_eq {A B : Mem} {i c r : Nat} (h : R by_ n T own wd i c r A B) : S_X4_content A = some (nl (chi by_ n T i), A) := by
  obtain ⟨hs, d1, d2, d3, d4, d5, d6⟩ := h
  obtain ⟨q1, q2, q3, q4, q5, q6, q7⟩ := hs.2.2.2.2.2.1
  have n9 := hs.n9
  unfold S_X4_content
  rw [d2, q2, if_neg (fun e => by have := (ni_le (by omega) (by omega)).mp e; omega), gdT ((ni_inb (by omega)).mpr (by omega)), ni_tn (by omega)]
  unfold chi
  rcases Nat.lt_or_ge i T with hi | hi
  · rw [if_pos hi, (q4 i hi).2.2.2.2]
  · rw [if_neg (by omega), show i = T by omega, q7]; rfl
theorem where_eq {A B : Mem} {i c r : Nat} (h : R by_ n T own wd i c r A B) : gi B 181 7 = ni (pfN by_ n i) := h.2.2.2.2.2.1.1
theorem isSign_eq {A B : Mem} {i c r b : Nat} (h : R by_ n T own wd i c r A B) (b1 : 4 < b) (b2 : b < 256) : S_X11_isSign (ni b) B = some (if kap by_ n T wd i = b then 1 else 0, B) := by
  have n9 := h.1.n9
  unfold S_X11_isSign
  rcases tok h with t | t | t | t | ⟨w, t⟩ | ⟨b', t⟩
  · rw [t.2.2, if_pos (by decide), if_neg (by omega)]
  · rw [t.2.2, if_pos (by decide), if_neg (by omega)]
  · rw [t.2.2.1, if_pos (by decide), if_neg (by omega)]
  · rw [t.2.2.1, if_pos (by decide), if_neg (by omega)]
  · rw [t.2.2.2.1, if_pos (by decide), if_neg (by omega)]
  · have p := (h.1.pf t.2.2.2.1).1
    rw [t.2.2.2.2.1, if_neg (by simp), where_eq h, gdT ((ni_inb (by omega)).mpr (by omega)), ni_tn (by omega), t.2.2.2.2.2]
    by_cases e : kap by_ n T wd i = b
    · rw [if_pos e, if_neg (by rw [← t.2.2.1, e]; simp)]
    · rw [if_neg e, if_pos (fun q => e (t.2.2.1.trans ((ni_inj (by omega) (by omega)).mp q)))]
theorem isWord_eq {A B : Mem} {i c r w : Nat} (h : R by_ n T own wd i c r A B) (b2 : w < 12) : S_X11_isWord (ni (w + 1)) B = some (if kap by_ n T wd i = 300 + w then 1 else 0, B) := by
  unfold S_X11_isWord
  rw [h.2.2.2.2.1, if_neg (by simp)]
  rcases tok h with t | t | t | t | ⟨w', t⟩ | ⟨b', t⟩
  · rw [t.2.2, if_pos (by decide), if_neg (by omega)]
  · rw [t.2.2, if_pos (by decide), if_neg (by omega)]
  · rw [t.2.2.1, if_pos (by decide), if_neg (by omega)]
  · rw [t.2.2.1, if_pos (by decide), if_neg (by omega)]
  · rw [t.2.2.2.1, if_neg (by simp), t.2.2.2.2]
    by_cases e : kap by_ n T wd i = 300 + w
    · rw [if_pos e, if_neg (by rw [show w' = w by omega]; simp)]
    · rw [if_neg e, if_pos (fun q => e (by have := (ni_inj (by omega) (by omega)).mp q; omega))]
  · rw [t.2.2.2.2.1, if_pos (by decide), if_neg (by omega)]
theorem signByte {A B : Mem} {i c r : Nat} (h : R by_ n T own wd i c r A B) (b1 : 4 < kap by_ n T wd i) (b2 : kap by_ n T wd i < 256) {α : Type} {f : Int32 → Option α} : gd (inb (gi B 181 7) 900) (f (gi B 182 (gi B 181 7).toNatClampNeg)) = f (ni (kap by_ n T wd i)) := by
  have n9 := h.1.n9
  rcases tok h with t | t | t | t | ⟨w, t⟩ | ⟨b', t⟩
  · omega
  · omega
  · omega
  · omega
  · omega
  · have p := (h.1.pf t.2.2.2.1).1
    rw [where_eq h, gdT ((ni_inb (by omega)).mpr (by omega)), ni_tn (by omega), t.2.2.2.2.2, t.2.2.1]
/-- on to the next token -/
theorem adv {A B : Mem} {i c r : Nat} (h : R by_ n T own wd i c r A B) (hk : kap by_ n T wd i ≠ 0) : ∃ B', S_X11_advance B = some ((), B') ∧ R by_ n T own wd (i + 1) c r (si A 7 2 (gi A 7 2 + 1)) B' ∧ Ad B B' ∧ pfN by_ n i + 1 ≤ pfN by_ n (i + 1) := by
  have hi := kap_T h hk
  have hR := h
  obtain ⟨hs, d1, d2, d3, d4, d5, d6, d7⟩ := h
  have n9 := hs.n9
  obtain ⟨p1, p2⟩ := hs.pf hi
  obtain ⟨p3, p4⟩ := hs.pfs hi
  have le := tkE_le (by_ := by_) p1
  have e5 : gi B 181 5 = ni (tkE by_ n (pfN by_ n i)) := by
    unfold RTk at d5
    rw [if_neg (by omega)] at d5
    exact d5.2.1
  obtain ⟨B', r1, r2, r3⟩ := adv_ok (wd := wd) hs.2.2.2.2.1.1 (g := 1000) (F := FU) hs.2.2.2.2.2.2.1 hs.2.2.2.1 e5 le (by omega) (by decide)
  have e : rnE isB by_ n 1000 (tkE by_ n (pfN by_ n i)) = pfN by_ n (i + 1) := by
    show skp by_ n _ = if pfN by_ n i < n then skp by_ n (tkE by_ n (pfN by_ n i)) else n
    rw [if_pos p1]
  rw [e] at r3
  refine ⟨B', r1, ⟨st_fr hs (frC_7 (by omega)) r2.fr, by omega, ?_, ?_, ?_, r3, ⟨?_, ?_, ?_⟩, ?_, ?_, ?_⟩, r2, by omega⟩
  · rw [si_eq, d2]; exact ni_add i 1
  · exact (si_ff' (by omega)).trans d3
  · exact (r2.2.2.1 11 (by omega)).trans d4
  · rw [si_ff' (by omega), r2.2.2.1 2 (by omega)]; exact d6.1
  · rw [si_ff' (by omega), r2.2.2.1 3 (by omega)]; exact d6.2.1
  · rw [si_ff' (by omega), si_ff' (by omega)]
    rcases d6.2.2 with q | ⟨q, q1, q2⟩
    · exact Or.inl q
    · exact Or.inr ⟨q, q1, Or.inl (by rcases q2 with q2 | ⟨q2, _⟩ <;> omega)⟩
  · rw [gi_ne (by omega)]; exact d7.1
  · exact (r2.2.2.1 27 (by omega)).trans d7.2.1
  · rw [gi_ne (by omega), r2.2.2.1 35 (by omega)]; exact d7.2.2
def emA (A : Mem) (c : Nat) (o : Int32) (a : Int64) : Mem := si (sl (si A 9 c o) 10 c a) 8 6 (ni (c + 1))
def emB (B : Mem) (r : Nat) (w : Int32) (v : Int64) (z : Int32) : Mem := si (si (sl (si B 191 r w) 192 r v) 193 r z) 181 27 (ni (r + 1))
theorem emC_eq {A : Mem} {c : Nat} {o : Int32} {a : Int64} (h : gi A 8 6 = ni c) (hc : c < 1024) : S_X0_emit o a A = some (ni c, emA A c o a) := by
  unfold S_X0_emit
  have e1 : gi (si A 9 c o) 8 6 = ni c := by rw [gi_ne (by omega)]; exact h
  have e2 : gi (sl (si A 9 c o) 10 c a) 8 6 = ni c := e1
  rw [h, if_pos (show ni c < 1024 from (ni_lt (b := 1024) (by omega) (by omega)).mpr hc), gdT ((ni_inb (by omega)).mpr hc), ni_tn (by omega), e1, gdT ((ni_inb (by omega)).mpr hc), ni_tn (by omega), e2, show ni c + 1 = ni (c + 1) from ni_add c 1, si_eq, show ni (c + 1) - 1 = ni c from ni_sub (a := c + 1) (b := 1) (by omega)]
  rfl
theorem emC_full {A : Mem} {o : Int32} {a : Int64} (h : gi A 8 6 = ni 1024) : S_X0_emit o a A = some (-1, A) := by
  unfold S_X0_emit
  rw [h, if_neg (show ¬ ni 1024 < 1024 by decide)]
theorem emR_eq {B : Mem} {r : Nat} {w z : Int32} {v : Int64} (h : gi B 181 27 = ni r) (hr : r < 2000) : S_X11_emit w v z B = some ((), emB B r w v z) := by
  unfold S_X11_emit
  have e1 : gi (si B 191 r w) 181 27 = ni r := by rw [gi_ne (by omega)]; exact h
  have e2 : gi (sl (si B 191 r w) 192 r v) 181 27 = ni r := e1
  have e3 : gi (si (sl (si B 191 r w) 192 r v) 193 r z) 181 27 = ni r := by rw [gi_ne (by omega)]; exact e2
  rw [h, gdT ((ni_inb (by omega)).mpr hr), ni_tn (by omega), e1, gdT ((ni_inb (by omega)).mpr hr), ni_tn (by omega), e2, gdT ((ni_inb (by omega)).mpr hr), ni_tn (by omega), e3, show ni r + 1 = ni (r + 1) from ni_add r 1]
  rfl
theorem emA_fr {A : Mem} {c : Nat} {o : Int32} {a : Int64} : FrC A (emA A c o a) := (frC_9.trans frC_10).trans (frC_8 (by omega))
theorem emB_fr {B : Mem} {r : Nat} {w z : Int32} {v : Int64} : FrB B (emB B r w v z) := ((frB_a (by omega)).trans frB_l).trans ((frB_a (by omega)).trans (frB_f (by omega)))
theorem emA_9 {A : Mem} {c : Nat} {o : Int32} {a : Int64} {j : Nat} : gi (emA A c o a) 9 j = if j = c then o else gi A 9 j := by
  unfold emA; rw [gi_ne (by omega), gi_sl, gi_si]
  by_cases e : j = c
  · rw [if_pos ⟨rfl, e⟩, if_pos e]
  · rw [if_neg (fun q => e q.2), if_neg e]
theorem emA_10 {A : Mem} {c : Nat} {o : Int32} {a : Int64} {j : Nat} : gl (emA A c o a) 10 j = if j = c then a else gl A 10 j := by
  unfold emA; rw [gl_si, gl_sl, gl_si]
  by_cases e : j = c
  · rw [if_pos ⟨rfl, e⟩, if_pos e]
  · rw [if_neg (fun q => e q.2), if_neg e]
theorem emB_1 {B : Mem} {r : Nat} {w z : Int32} {v : Int64} {j : Nat} : gi (emB B r w v z) 191 j = if j = r then w else gi B 191 j := by
  unfold emB; rw [gi_ne (by omega), gi_ne (by omega), gi_sl, gi_si]
  by_cases e : j = r
  · rw [if_pos ⟨rfl, e⟩, if_pos e]
  · rw [if_neg (fun q => e q.2), if_neg e]
theorem emB_2 {B : Mem} {r : Nat} {w z : Int32} {v : Int64} {j : Nat} : gl (emB B r w v z) 192 j = if j = r then v else gl B 192 j := by
  unfold emB; rw [gl_si, gl_si, gl_sl, gl_si]
  by_cases e : j = r
  · rw [if_pos ⟨rfl, e⟩, if_pos e]
  · rw [if_neg (fun q => e q.2), if_neg e]
theorem emB_3 {B : Mem} {r : Nat} {w z : Int32} {v : Int64} {j : Nat} : gi (emB B r w v z) 193 j = if j = r then z else gi B 193 j := by
  unfold emB; rw [gi_ne (by omega), gi_si]
  by_cases e : j = r
  · rw [if_pos ⟨rfl, e⟩, if_pos e]
  · rw [if_neg (fun q => e q.2), if_neg e]; rw [gi_sl, gi_ne (by omega)]
theorem emA_f {A : Mem} {c : Nat} {o : Int32} {a : Int64} {x j : Nat} (h : x ≠ 9) (h2 : ¬ (x = 8 ∧ j = 6)) : gi (emA A c o a) x j = gi A x j := by
  unfold emA; rw [gi_si, if_neg h2, gi_sl, gi_ne h]
theorem emB_f {B : Mem} {r : Nat} {w z : Int32} {v : Int64} {x j : Nat} (h : x ≠ 191 ∧ x ≠ 193) (h2 : ¬ (x = 181 ∧ j = 27)) : gi (emB B r w v z) x j = gi B x j := by
  unfold emB; rw [gi_si, if_neg h2, gi_ne h.2, gi_sl, gi_ne h.1]
theorem emB_l {B : Mem} {r : Nat} {w z : Int32} {v : Int64} {x j : Nat} (h : x ≠ 192) : gl (emB B r w v z) x j = gl B x j := by
  unfold emB; rw [gl_si, gl_si, gl_ne h, gl_si]
theorem r_emA {A B : Mem} {i c r : Nat} {o : Int32} {a : Int64} (h : R by_ n T own wd i c r A B) : R by_ n T own wd i (c + 1) r (emA A c o a) B := by
  obtain ⟨hs, d1, d2, d3, d4, d5, d6, d7, d8, d9⟩ := h
  refine ⟨st_fr hs emA_fr FrB.rf, d1, ?_, ?_, d4, d5, ?_, si_eq, d8, ?_⟩
  · rw [emA_f (by omega) (by omega)]; exact d2
  · rw [emA_f (by omega) (by omega)]; exact d3
  · rw [emA_f (by omega) (by omega), emA_f (by omega) (by omega)]; exact d6
  · rw [emA_f (by omega) (by omega)]; exact d9
theorem r_emB {A B : Mem} {i c r : Nat} {w z : Int32} {v : Int64} (h : R by_ n T own wd i c r A B) : R by_ n T own wd i c (r + 1) A (emB B r w v z) := by
  obtain ⟨hs, d1, d2, d3, d4, d5, d6, d7, d8, d9⟩ := h
  refine ⟨st_fr hs FrC.rf emB_fr, d1, d2, d3, ?_, ?_, ?_, d7, si_eq, ?_⟩
  · rw [emB_f (by omega) (by omega)]; exact d4
  · exact rtk_cg d5 (emB_f (by omega) (by omega)) (emB_f (by omega) (by omega)) (emB_f (by omega) (by omega)) (emB_f (by omega) (by omega)) (emB_f (by omega) (by omega)) (emB_l (by omega))
  · rw [emB_f (by omega) (by omega), emB_f (by omega) (by omega)]; exact d6
  · rw [emB_f (by omega) (by omega)]; exact d9
/-- both stop here -/
theorem stop {A B : Mem} {i c r : Nat} (h : R by_ n T own wd i c r A B) (hc : c ≤ 1024) : ∃ A' B', S_X4_reject A = some ((), A') ∧ S_X11_stops B = some ((), B') ∧ FrC A A' ∧ FrB B B' ∧ Bk by_ n T own wd r A' B' := by
  have hw := where_eq h
  have hp := place_eq h
  obtain ⟨hs, d1, d2, d3, d4, d5, d6, d7, d8, d9⟩ := h
  obtain ⟨q1, q2, q3, q4, q5, q6, q7⟩ := hs.2.2.2.2.2.1
  have n9 := hs.n9
  have fB : FrB B (si (si (si B 181 11 1) 181 2 1) 181 3 (ni (pfN by_ n i))) := ((frB_f (by omega)).trans (frB_f (by omega))).trans (frB_f (by omega))
  have fA : FrC A (si (si (si A 7 5 1) 7 6 1) 7 7 (ni (pfN by_ n i))) := ((frC_7 (by omega)).trans (frC_7 (by omega))).trans (frC_7 (by omega))
  refine ⟨_, _, ?_, ?_, fA, fB, st_fr hs fA fB, ?_, ?_, ⟨?_, ?_, ?_⟩, ⟨i, d1, ?_⟩, ⟨c, hc, ?_⟩, ⟨r, Nat.le_refl _, ?_⟩⟩
  · unfold S_X4_reject SJ_X4_reject_54
    unfold S_X4_place at hp
    have e1 : gi (si (si A 7 5 1) 7 6 1) 1 5 = gi A 1 5 := by rw [gi_ne (by omega), gi_ne (by omega)]
    have e2 : gi (si (si A 7 5 1) 7 6 1) 7 2 = gi A 7 2 := (si_ff' (by omega)).trans (si_ff' (by omega))
    have e3 : gi (si (si A 7 5 1) 7 6 1) 4 = gi A 4 := by rw [gi_ne (by omega), gi_ne (by omega)]
    rw [d3, if_neg (by simp), e1, e2, e3]
    rw [d2, q2, if_neg (fun e => by have := (ni_le (by omega) (by omega)).mp e; omega), gdT ((ni_inb (by omega)).mpr (by omega))] at hp ⊢
    have hp := congrArg Prod.fst (Option.some.inj hp)
    dsimp only at hp
    rw [hp]
  · unfold S_X11_stops
    rw [d4, if_pos rfl, show gi (si (si B 181 11 1) 181 2 1) 181 7 = ni (pfN by_ n i) from (si_ff' (by omega)).trans ((si_ff' (by omega)).trans hw)]
  · rw [si_ff' (by omega), si_ff' (by omega), si_eq]; decide
  · rw [si_ff' (by omega), si_ff' (by omega), si_eq]; decide
  · rw [si_ff' (by omega), si_eq]
  · rw [si_ff' (by omega), si_eq]
  · rw [si_eq, si_eq]
  · rw [si_ff' (by omega), si_ff' (by omega), si_ff' (by omega)]; exact d2
  · rw [gi_ne (by omega), gi_ne (by omega), gi_ne (by omega)]; exact d7
  · rw [si_ff' (by omega), si_ff' (by omega), si_ff' (by omega)]; exact d8
/-- a fault is told, at a place behind the fault before -/
theorem tell {A B : Mem} {i c r q k : Nat} (h : R by_ n T own wd i c r A B) (hk : k < 10) (hk0 : 0 < k) (hq : q ≤ pfN by_ n i) (hq2 : q < pfN by_ n i ∨ (300 ≤ kap by_ n T wd i ∧ k = fk (kap by_ n T wd i))) (ho : gi A 7 6 = 0 ∨ ∃ p, gi A 7 7 = ni p ∧ (p < q ∨ (p = q ∧ gi A 7 6 = ni k))) :
    ∃ A' B', S_X4_note (ni k) (ni q) A = some ((), A') ∧ S_X11_tells (ni k) (ni q) B = some ((), B') ∧ FrC A A' ∧ FrB B B' ∧ R by_ n T own wd i c r A' B' ∧ gi A' 9 = gi A 9 ∧ gl A' 10 = gl A 10 ∧ gi A' 8 = gi A 8 ∧ gi B' 191 = gi B 191 ∧ gl B' 192 = gl B 192 ∧ gi B' 193 = gi B 193 ∧ gi B' 181 31 = gi B 181 31 ∧ ¬ gi A' 7 6 = 0 := by
  obtain ⟨hs, d1, d2, d3, d4, d5, d6, d7, d8, d9⟩ := h
  have n9 := hs.n9
  have pn := hs.ple d1
  unfold S_X4_note S_X11_tells SJ_X11_tells_39
  by_cases h0 : gi A 7 6 = 0
  · have hb : gi B 181 2 = 0 := d6.1.symm.trans h0
    have fA : FrC A (si (si A 7 6 (ni k)) 7 7 (ni q)) := (frC_7 (by omega)).trans (frC_7 (by omega))
    have fB : FrB B (si (si B 181 2 (ni k)) 181 3 (ni q)) := (frB_f (by omega)).trans (frB_f (by omega))
    refine ⟨_, _, by rw [h0, if_neg (by simp)], by rw [d4, if_neg (by simp), hb, if_pos rfl], fA, fB, ⟨st_fr hs fA fB, d1, ?_, ?_, ?_, ?_, ⟨?_, ?_, ?_⟩, ?_, ?_, ?_⟩, ?_, rfl, ?_, ?_, rfl, ?_, ?_, ?_⟩
    · rw [si_ff' (by omega), si_ff' (by omega)]; exact d2
    · rw [si_ff' (by omega), si_ff' (by omega)]; exact d3
    · rw [si_ff' (by omega), si_ff' (by omega)]; exact d4
    · exact rtk_cg d5 ((si_ff' (by omega)).trans (si_ff' (by omega))) ((si_ff' (by omega)).trans (si_ff' (by omega))) ((si_ff' (by omega)).trans (si_ff' (by omega))) ((si_ff' (by omega)).trans (si_ff' (by omega))) ((si_ff' (by omega)).trans (si_ff' (by omega))) rfl
    · rw [si_ff' (by omega), si_eq, si_ff' (by omega), si_eq]
    · rw [si_eq, si_eq]
    · rw [si_ff' (by omega), si_eq, si_eq]
      refine Or.inr ⟨q, rfl, ?_⟩
      by_cases e : q < pfN by_ n i
      · exact Or.inl e
      · rcases hq2 with z | ⟨z1, z2⟩
        · exact Or.inl z
        · exact Or.inr ⟨by omega, z1, by rw [z2]⟩
    · rw [gi_ne (by omega), gi_ne (by omega)]; exact d7
    · rw [si_ff' (by omega), si_ff' (by omega)]; exact d8
    · rw [gi_ne (by omega), gi_ne (by omega), si_ff' (by omega), si_ff' (by omega)]; exact d9
    · rw [gi_ne (by omega), gi_ne (by omega)]
    · rw [gi_ne (by omega), gi_ne (by omega)]
    · rw [gi_ne (by omega), gi_ne (by omega)]
    · rw [gi_ne (by omega), gi_ne (by omega)]
    · rw [si_ff' (by omega), si_ff' (by omega)]
    · rw [si_ff' (by omega), si_eq]
      exact fun e => by have := (ni_inj (b := 0) (by omega) (by omega)).mp e; omega
  · have hb : ¬ gi B 181 2 = 0 := by rw [← d6.1]; exact h0
    rcases ho with ho | ⟨p, p1, p2⟩
    · exact absurd ho h0
    · refine ⟨A, B, by rw [if_pos h0], ?_, FrC.rf, FrB.rf, ⟨hs, d1, d2, d3, d4, d5, d6, d7, d8, d9⟩, rfl, rfl, rfl, rfl, rfl, rfl, rfl, h0⟩
      rw [d4, if_neg (by simp), if_neg hb, ← d6.2.1, p1, ← d6.1]
      rcases p2 with p2 | ⟨p2, p4⟩
      · rw [if_pos ((ni_lt (by omega) (by omega)).mpr p2)]
      · rw [if_neg (fun e => by have := (ni_lt (by omega) (by omega)).mp e; omega), if_neg (by rw [p2]; simp), p4, if_neg (fun e => by have := (ni_lt (by omega) (by omega)).mp e; omega)]
end Lt
