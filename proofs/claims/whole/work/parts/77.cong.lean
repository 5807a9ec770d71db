-- ===== what a change elsewhere leaves =====
/-- the cell a is the same -/
def Sm (a : Nat) (A A' : Mem) : Prop := kd A' a = kd A a ∧ ln A' a = ln A a ∧ gi A' a = gi A a ∧ gl A' a = gl A a ∧ gr A' a = gr A a
theorem Sm.rf {a : Nat} {A : Mem} : Sm a A A := ⟨rfl, rfl, rfl, rfl, rfl⟩
theorem Sm.trans {a : Nat} {A B C : Mem} (h : Sm a A B) (g : Sm a B C) : Sm a A C := ⟨g.1.trans h.1, g.2.1.trans h.2.1, g.2.2.1.trans h.2.2.1, g.2.2.2.1.trans h.2.2.2.1, g.2.2.2.2.trans h.2.2.2.2⟩
theorem Sm.k {a : Nat} {A A' : Mem} (h : Sm a A A') : kd A' a = kd A a := h.1
theorem Sm.l {a : Nat} {A A' : Mem} (h : Sm a A A') : ln A' a = ln A a := h.2.1
theorem Sm.i {a : Nat} {A A' : Mem} (h : Sm a A A') : gi A' a = gi A a := h.2.2.1
theorem Sm.j {a : Nat} {A A' : Mem} (h : Sm a A A') : gl A' a = gl A a := h.2.2.2.1
theorem Sm.r {a : Nat} {A A' : Mem} (h : Sm a A A') : gr A' a = gr A a := h.2.2.2.2
theorem sm_si {a b j : Nat} {x : Int32} {M : Mem} (h : a ≠ b) : Sm a M (si M b j x) := by
  refine ⟨rfl, rfl, ?_, rfl, rfl⟩
  funext q; rw [gi_si, if_neg (fun e => h e.1)]
theorem sm_sl {a b j : Nat} {x : Int64} {M : Mem} (h : a ≠ b) : Sm a M (sl M b j x) := by
  refine ⟨rfl, rfl, rfl, ?_, rfl⟩
  funext q; rw [gl_sl, if_neg (fun e => h e.1)]
theorem sm_sr {a b j : Nat} {x : Option Nat} {M : Mem} (h : a ≠ b) : Sm a M (sr M b j x) := by
  refine ⟨rfl, rfl, rfl, rfl, ?_⟩
  funext q; rw [gr_sr, if_neg (fun e => h e.1)]
theorem sm_nw {a k n z : Nat} {M : Mem} (h : a ≠ nc M) : Sm a M (nw M k n z) := by
  refine ⟨?_, ?_, ?_, ?_, ?_⟩
  · rw [kd_nw, if_neg h]
  · rw [ln_nw, if_neg h]
  · funext q; rw [gi_nw, if_neg h]
  · funext q; rw [gl_nw, if_neg h]
  · funext q; rw [gr_nw, if_neg h]
def KRf (A A' : Mem) : Prop := ∀ a, 181 ≤ a → a < 231 → Sm a A A'
def KCl (B B' : Mem) : Prop := B'.1 = B.1 ∧ ∀ a, a < 181 ∨ 231 ≤ a → Sm a B B'
theorem KRf.rf {A : Mem} : KRf A A := fun _ _ _ => Sm.rf
theorem KCl.rf {A : Mem} : KCl A A := ⟨rfl, fun _ _ => Sm.rf⟩
theorem KRf.trans {A B C : Mem} (h : KRf A B) (g : KRf B C) : KRf A C := fun a h1 h2 => (h a h1 h2).trans (g a h1 h2)
theorem KCl.trans {A B C : Mem} (h : KCl A B) (g : KCl B C) : KCl A C := ⟨g.1.trans h.1, fun a h1 => (h.2 a h1).trans (g.2 a h1)⟩
theorem KCl.nc {A B : Mem} (h : KCl A B) : nc B = nc A := congrArg Prod.fst h.1
theorem krf_si {M : Mem} {b j : Nat} {x : Int32} (h : b < 181 ∨ 231 ≤ b) : KRf M (si M b j x) := fun a h1 h2 => sm_si (by omega)
theorem krf_sl {M : Mem} {b j : Nat} {x : Int64} (h : b < 181 ∨ 231 ≤ b) : KRf M (sl M b j x) := fun a h1 h2 => sm_sl (by omega)
theorem krf_sr {M : Mem} {b j : Nat} {x : Option Nat} (h : b < 181 ∨ 231 ≤ b) : KRf M (sr M b j x) := fun a h1 h2 => sm_sr (by omega)
theorem krf_nw {M : Mem} {k n z : Nat} (h : 231 ≤ nc M) : KRf M (nw M k n z) := fun a h1 h2 => sm_nw (by omega)
theorem kcl_si {M : Mem} {b j : Nat} {x : Int32} (h1 : 181 ≤ b := by decide) (h2 : b < 231 := by decide) : KCl M (si M b j x) := ⟨rfl, fun a h => sm_si (by omega)⟩
theorem kcl_sl {M : Mem} {b j : Nat} {x : Int64} (h1 : 181 ≤ b := by decide) (h2 : b < 231 := by decide) : KCl M (sl M b j x) := ⟨rfl, fun a h => sm_sl (by omega)⟩
/-- the sheet's cells are the same -/
def KpS (s : Nat) (A A' : Mem) : Prop := ∀ a, s ≤ a → a < s + 10 → Sm a A A'
theorem KpS.sv {s : Nat} {A A' : Mem} (h : KpS s A A') : svC A' s = svC A s := by
  unfold svC
  rw [(h s (by omega) (by omega)).i, (h (s + 1) (by omega) (by omega)).i, (h (s + 1) (by omega) (by omega)).l, (h (s + 2) (by omega) (by omega)).j, (h (s + 3) (by omega) (by omega)).j, (h (s + 3) (by omega) (by omega)).l, (h (s + 4) (by omega) (by omega)).i, (h (s + 5) (by omega) (by omega)).j, (h (s + 5) (by omega) (by omega)).l, (h (s + 6) (by omega) (by omega)).i, (h (s + 7) (by omega) (by omega)).i, (h (s + 7) (by omega) (by omega)).l, (h (s + 8) (by omega) (by omega)).i, (h (s + 9) (by omega) (by omega)).i]
theorem KpS.so {s : Nat} {A A' : Mem} (h : KpS s A A') (hn : nc A ≤ nc A') (g : ShO A s) : ShO A' s := by
  unfold ShO at g ⊢
  rw [(h s (by omega) (by omega)).k, (h s (by omega) (by omega)).r, (h (s + 1) (by omega) (by omega)).k, (h (s + 1) (by omega) (by omega)).l, (h (s + 2) (by omega) (by omega)).k, (h (s + 2) (by omega) (by omega)).l, (h (s + 3) (by omega) (by omega)).k, (h (s + 3) (by omega) (by omega)).l, (h (s + 4) (by omega) (by omega)).k, (h (s + 4) (by omega) (by omega)).l, (h (s + 5) (by omega) (by omega)).k, (h (s + 5) (by omega) (by omega)).l, (h (s + 6) (by omega) (by omega)).k, (h (s + 6) (by omega) (by omega)).l, (h (s + 7) (by omega) (by omega)).k, (h (s + 7) (by omega) (by omega)).l, (h (s + 8) (by omega) (by omega)).k, (h (s + 8) (by omega) (by omega)).l, (h (s + 9) (by omega) (by omega)).k, (h (s + 9) (by omega) (by omega)).l]
  exact ⟨g.1, Nat.le_trans g.2.1 hn, g.2.2⟩
/-- the rows of slots are the same (there, text) -/
def KpR (B B' : Mem) : Prop := ∀ a, 194 ≤ a → a < 211 → Sm a B B'
theorem KpR.sv {B B' : Mem} (h : KpR B B') (y : Nat) : svR B' y = svR B y := by
  unfold svR
  rw [(h 195 (by omega) (by omega)).i, (h 196 (by omega) (by omega)).i, (h 207 (by omega) (by omega)).i, (h 208 (by omega) (by omega)).i, (h 209 (by omega) (by omega)).j, (h 210 (by omega) (by omega)).i, (h 204 (by omega) (by omega)).i, (h 205 (by omega) (by omega)).i, (h 206 (by omega) (by omega)).i, (h 203 (by omega) (by omega)).i, (h 198 (by omega) (by omega)).j, (h 199 (by omega) (by omega)).i, (h 197 (by omega) (by omega)).i, (h 201 (by omega) (by omega)).j, (h 202 (by omega) (by omega)).i, (h 200 (by omega) (by omega)).i]
theorem shr_cg {A A' B B' : Mem} {r : Option Nat} {y own : Nat} (h : ShR A B r y own) (hs : ∀ s, r = some s → KpS s A A') (hn : nc A ≤ nc A') (hb : KpR B B') : ShR A' B' r y own := by
  cases r with
  | none => unfold ShR at h ⊢; dsimp only at h ⊢; rw [(hb 194 (by omega) (by omega)).i]; exact h
  | some s =>
    unfold ShR at h ⊢; dsimp only at h ⊢
    rw [(hb 194 (by omega) (by omega)).i, (hb 203 (by omega) (by omega)).i, (hb 197 (by omega) (by omega)).i, (hb 200 (by omega) (by omega)).i, hb.sv, (hs s rfl).sv]
    exact ⟨h.1, (hs s rfl).so hn h.2.1, h.2.2⟩
/-- the classes of the class are the same -/
def KpT (A A' : Mem) : Prop := (∀ y, y < 30 → gr A' (21 + 4 * y) 0 = gr A (21 + 4 * y) 0) ∧ ∀ y s, y < 30 → gr A (21 + 4 * y) 0 = some s → KpS s A A'
theorem KpT.fd {A A' : Mem} (h : KpT A A') (t : Nat) (ht : t < 2) (nm : Int64) : ∀ n y, fdC A' t nm n y = fdC A t nm n y := by
  intro n
  induction n with
  | zero => intro y; rfl
  | succ n ih =>
    intro y
    unfold fdC
    by_cases hy : 30 ≤ y
    · rw [if_pos hy, if_pos hy]
    · rw [if_neg hy, if_neg hy, h.1 y (by omega)]
      cases hs : gr A (21 + 4 * y) 0 with
      | none => rfl
      | some s =>
        have k := h.2 y s (by omega) hs
        dsimp only
        rw [(k (s + 3 + 2 * t) (by omega) (by omega)).j, (k (s + 3 + 2 * t) (by omega) (by omega)).l, (k s (by omega) (by omega)).i]
        cases pos (gl A (s + 3 + 2 * t)) nm (ln A (s + 3 + 2 * t)) 0 with
        | some i => rfl
        | none => dsimp only; rw [ih]
theorem KpT.e1 {A A' : Mem} (h : KpT A A') (f : Nat → Nat → Option Int64) (op : Int32) (arg : Int64) (st : List Int64) : ev1 A' f op arg st = ev1 A f op arg st := by
  unfold ev1; rw [h.fd 0 (by decide)]
theorem KpT.er {A A' : Mem} (h : KpT A A') (f : Nat → Nat → Option Int64) {s : Nat} (hs : KpS s A A') : ∀ n pc st, evR A' f s n pc st = evR A f s n pc st := by
  intro n
  induction n with
  | zero => intro pc st; rfl
  | succ n ih =>
    intro pc st
    unfold evR
    rw [(hs (s + 1) (by omega) (by omega)).l, (hs (s + 1) (by omega) (by omega)).i, (hs (s + 2) (by omega) (by omega)).j, h.e1]
    split
    · rfl
    · split
      · rfl
      · cases ev1 A f (gi A (s + 1) pc) (gl A (s + 2) pc) st with
        | none => rfl
        | some st1 => exact ih _ _
theorem KpT.ec {A A' : Mem} (h : KpT A A') (f : Nat → Nat → Option Int64) {y k : Nat} (hy : y < 30) : evC A' f y k = evC A f y k := by
  unfold evC
  rw [h.1 y hy]
  cases hs : gr A (21 + 4 * y) 0 with
  | none => rfl
  | some s =>
    have q := h.2 y s hy hs
    dsimp only
    rw [(q (s + 3) (by omega) (by omega)).l, (q (s + 4) (by omega) (by omega)).i, h.er f q]
theorem pos_lt {f : Nat → Int64} {x : Int64} {i : Nat} : ∀ {n k : Nat}, pos f x n k = some i → k ≤ i ∧ i < k + n := by
  intro n
  induction n with
  | zero => intro k h; cases h
  | succ n ih =>
    intro k h
    unfold pos at h
    split at h
    · cases h; omega
    · have := ih h; omega
theorem fdC_lt {A : Mem} {t : Nat} {nm : Int64} : ∀ {n y : Nat} {q : Nat × Nat}, fdC A t nm n y = some q → q.1 < 30 ∧ ∃ s, gr A (21 + 4 * q.1) 0 = some s ∧ q.2 < ln A (s + 3 + 2 * t) := by
  intro n
  induction n with
  | zero => intro y q h; cases h
  | succ n ih =>
    intro y q h
    unfold fdC at h
    by_cases hy : 30 ≤ y
    · rw [if_pos hy] at h; cases h
    · rw [if_neg hy] at h
      cases hs : gr A (21 + 4 * y) 0 with
      | none => rw [hs] at h; cases h
      | some s =>
        rw [hs] at h; dsimp only at h
        cases hp : pos (gl A (s + 3 + 2 * t)) nm (ln A (s + 3 + 2 * t)) 0 with
        | some i =>
          rw [hp] at h; cases h
          have := pos_lt hp
          exact ⟨by omega, s, hs, by omega⟩
        | none =>
          rw [hp] at h; dsimp only at h
          split at h
          · cases h
          · exact ih h
theorem ev1_fcg {A : Mem} {f g : Nat → Nat → Option Int64} (h : ∀ y k, y < 30 → f y k = g y k) (op : Int32) (arg : Int64) (st : List Int64) : ev1 A f op arg st = ev1 A g op arg st := by
  unfold ev1
  cases hq : fdC A 0 (arg &&& 1099511627775) 30 (tn (arg >>> 40).toInt32) with
  | none => rfl
  | some q => dsimp only; rw [h q.1 q.2 (fdC_lt hq).1]
theorem evR_fcg {A : Mem} {f g : Nat → Nat → Option Int64} (h : ∀ y k, y < 30 → f y k = g y k) {s : Nat} : ∀ n pc st, evR A f s n pc st = evR A g s n pc st := by
  intro n
  induction n with
  | zero => intro pc st; rfl
  | succ n ih =>
    intro pc st
    unfold evR
    rw [ev1_fcg h]
    split
    · rfl
    · split
      · rfl
      · cases ev1 A g (gi A (s + 1) pc) (gl A (s + 2) pc) st with
        | none => rfl
        | some st1 => exact ih _ _
theorem KpT.vl {A A' : Mem} (h : KpT A A') : ∀ i y k, y < 30 → vlC A' i y k = vlC A i y k := by
  intro i
  induction i with
  | zero => intro y k hy; rfl
  | succ i ih =>
    intro y k hy
    unfold vlC
    rw [h.ec _ hy]
    unfold evC
    cases hs : gr A (21 + 4 * y) 0 with
    | none => rfl
    | some s => dsimp only; rw [evR_fcg ih]
theorem cnA_cg {A A' : Mem} (h : CnA A) (ht : KpT A A') (hm : ∀ y, y < 30 → gi A' (22 + 4 * y) = gi A (22 + 4 * y) ∧ gl A' (23 + 4 * y) = gl A (23 + 4 * y)) : CnA A' := by
  intro y s hy hs k hk
  rw [ht.1 y hy] at hs
  have q := ht.2 y s hy hs
  rw [(q (s + 3) (by omega) (by omega)).l] at hk
  rw [(hm y hy).1, (hm y hy).2]
  rcases h y s hy hs k hk with ⟨h1, i, h2⟩ | ⟨h1, h2⟩
  · exact Or.inl ⟨h1, i, by rw [ht.vl i y k hy]; exact h2⟩
  · exact Or.inr ⟨h1, fun i => by rw [ht.vl i y k hy]; exact h2 i⟩
theorem cnB_cg {A A' B B' : Mem} (h : CnB A B) (ht : KpT A A') (hm : ∀ y, y < 30 → gi A' (22 + 4 * y) = gi A (22 + 4 * y) ∧ gl A' (23 + 4 * y) = gl A (23 + 4 * y)) (h1 : gi B' 181 64 = gi B 181 64) (h2 : gi B' 181 59 = gi B 181 59) (h3 : gi B' 217 = gi B 217) (h4 : gl B' 218 = gl B 218) : CnB A' B' := by
  unfold CnB
  rw [h1, h2, h3, h4]
  intro e y s hy hs k hk
  rw [ht.1 y hy] at hs
  have q := ht.2 y s hy hs
  rw [(q (s + 3) (by omega) (by omega)).l] at hk
  rw [(hm y hy).1, (hm y hy).2]
  exact h e y s hy hs k hk
