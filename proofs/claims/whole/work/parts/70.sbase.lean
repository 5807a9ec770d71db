-- ===== the reference at its place: S-forms (by program: wip/sform.py) =====
def gd {α : Type} (c : Prop) [Decidable c] (x : Option α) : Option α := if c then x else none
def kdR (a : Nat) : Nat := match a with
  | 181 => 11
  | 182 => 23
  | 183 => 21
  | 184 => 21
  | 185 => 20
  | 186 => 21
  | 187 => 20
  | 188 => 20
  | 189 => 20
  | 190 => 20
  | 191 => 20
  | 192 => 21
  | 193 => 20
  | 194 => 24
  | 195 => 20
  | 196 => 20
  | 197 => 20
  | 198 => 21
  | 199 => 20
  | 200 => 20
  | 201 => 21
  | 202 => 20
  | 203 => 20
  | 204 => 20
  | 205 => 20
  | 206 => 20
  | 207 => 20
  | 208 => 20
  | 209 => 21
  | 210 => 20
  | 211 => 24
  | 212 => 20
  | 213 => 20
  | 214 => 20
  | 215 => 20
  | 216 => 21
  | 217 => 24
  | 218 => 21
  | 219 => 21
  | 220 => 20
  | 221 => 20
  | 222 => 20
  | 223 => 20
  | 224 => 20
  | 225 => 20
  | 226 => 20
  | 227 => 20
  | 228 => 20
  | 229 => 21
  | 230 => 21
  | _ => 99
def lnR (a : Nat) : Nat := match a with
  | 182 => 900
  | 183 => 13
  | 184 => 8
  | 185 => 8
  | 186 => 6
  | 187 => 6
  | 188 => 400
  | 189 => 400
  | 190 => 400
  | 191 => 2000
  | 192 => 2000
  | 193 => 2000
  | 194 => 60
  | 195 => 60
  | 196 => 60
  | 197 => 60
  | 198 => 480
  | 199 => 480
  | 200 => 60
  | 201 => 360
  | 202 => 360
  | 203 => 60
  | 204 => 7200
  | 205 => 7200
  | 206 => 7200
  | 207 => 60
  | 208 => 72000
  | 209 => 72000
  | 210 => 72000
  | 211 => 30
  | 212 => 30
  | 213 => 30
  | 214 => 30
  | 215 => 30
  | 216 => 2160
  | 217 => 240
  | 218 => 240
  | 219 => 4000
  | 220 => 300
  | 221 => 90
  | 222 => 20
  | 223 => 20
  | 224 => 20
  | 225 => 160
  | 226 => 160
  | 227 => 160
  | 228 => 20
  | 229 => 20
  | 230 => 160
  | _ => 0
def grR (j : Nat) : Option Nat := match j with
  | 0 => some 182
  | 13 => some 183
  | 16 => some 184
  | 17 => some 185
  | 19 => some 186
  | 20 => some 187
  | 23 => some 188
  | 24 => some 189
  | 25 => some 190
  | 28 => some 191
  | 29 => some 192
  | 30 => some 193
  | 36 => some 194
  | 37 => some 195
  | 38 => some 196
  | 39 => some 197
  | 40 => some 198
  | 41 => some 199
  | 42 => some 200
  | 43 => some 201
  | 44 => some 202
  | 45 => some 203
  | 46 => some 204
  | 47 => some 205
  | 48 => some 206
  | 49 => some 207
  | 50 => some 208
  | 51 => some 209
  | 52 => some 210
  | 53 => some 211
  | 54 => some 212
  | 55 => some 213
  | 56 => some 214
  | 57 => some 215
  | 58 => some 216
  | 60 => some 217
  | 61 => some 218
  | 62 => some 219
  | 65 => some 220
  | 72 => some 221
  | 74 => some 222
  | 75 => some 223
  | 76 => some 224
  | 77 => some 225
  | 78 => some 226
  | 79 => some 227
  | 80 => some 228
  | 81 => some 229
  | 82 => some 230
  | _ => none
/-- the reference's object and rows stand where they were made -/
def FSR (M : Mem) : Prop := (∀ a, 181 ≤ a → a < 231 → kd M a = kdR a) ∧ (∀ a, 182 ≤ a → a < 231 → ln M a = lnR a) ∧ ∀ j, gr M 181 j = grR j
theorem FSR.kd {M : Mem} (h : FSR M) (a : Nat) (h1 : 181 ≤ a := by decide) (h2 : a < 231 := by decide) : kd M a = kdR a := h.1 a h1 h2
theorem FSR.ln {M : Mem} (h : FSR M) (a : Nat) (h1 : 182 ≤ a := by decide) (h2 : a < 231 := by decide) : ln M a = lnR a := h.2.1 a h1 h2
theorem FSR.gr {M : Mem} (h : FSR M) (j : Nat) : gr M 181 j = grR j := h.2.2 j
/-- only numbers have changed -/
def KG (M M' : Mem) : Prop := M'.1 = M.1 ∧ M'.2.1 = M.2.1 ∧ M'.2.2.2.2 = M.2.2.2.2
theorem KG.rf {M : Mem} : KG M M := ⟨rfl, rfl, rfl⟩
theorem KG.trans {A B C : Mem} (h : KG A B) (g : KG B C) : KG A C := ⟨g.1.trans h.1, g.2.1.trans h.2.1, g.2.2.trans h.2.2⟩
theorem FSR.kg {A B : Mem} (h : FSR A) (g : KG A B) : FSR B := by
  obtain ⟨h1, h2, h3⟩ := h
  obtain ⟨-, g2, g3⟩ := g
  refine ⟨fun a a1 a2 => ?_, fun a a1 a2 => ?_, fun j => ?_⟩
  · exact (congrArg (fun f => (f a).1) g2).trans (h1 a a1 a2)
  · exact (congrArg (fun f => (f a).2) g2).trans (h2 a a1 a2)
  · exact (congrArg (fun f => f 181 j) g3).trans (h3 j)
section Bi
variable {M : Mem} {k j q n : Nat} {x : Int32} {y : Int64} {i : Int32} {α β : Type} {z : α}
theorem bnd {X : Option β} {K : β → Option α} (h : X.bind K = some z) : ∃ x, X = some x ∧ K x = some z := Option.bind_eq_some_iff.mp h
theorem itor {c : Prop} [Decidable c] {A B : Option α} (h : (if c then A else B) = some z) : A = some z ∨ B = some z := by
  by_cases hc : c
  · rw [if_pos hc] at h; exact Or.inl h
  · rw [if_neg hc] at h; exact Or.inr h
theorem nnz {c : Prop} [Decidable c] {A : Option α} (h : (if c then none else A) = some z) : A = some z := by
  by_cases hc : c
  · rw [if_pos hc] at h; cases h
  · rw [if_neg hc] at h; exact h
theorem itc {c : Prop} [Decidable c] {A B A' B' : Option α} (h1 : c → A = A') (h2 : ¬ c → B = B') : (if c then A else B) = (if c then A' else B') := by
  by_cases hc : c
  · rw [if_pos hc, if_pos hc, h1 hc]
  · rw [if_neg hc, if_neg hc, h2 hc]
theorem gd_congr {c : Prop} [Decidable c] {A A' : Option α} (h1 : c → A = A') : gd c A = gd c A' := by
  unfold gd
  by_cases hc : c
  · rw [if_pos hc, if_pos hc, h1 hc]
  · rw [if_neg hc, if_neg hc]
theorem bdc {X X' : Option β} {K K' : β → Option α} (hX : X = X') (h : ∀ w, X = some w → K w = K' w) : X.bind K = X'.bind K' := by
  subst hX
  cases X with
  | none => rfl
  | some w => exact h w rfl
theorem bi_fI {K : Int32 → Option α} (hk : kd M q = k) : (fI M k j (some q)).bind K = K (gi M q j) := by
  unfold fI; dsimp only; rw [if_pos hk]; rfl
theorem bi_fL {K : Int64 → Option α} (hk : kd M q = k) : (fL M k j (some q)).bind K = K (gl M q j) := by
  unfold fL; dsimp only; rw [if_pos hk]; rfl
theorem bi_fR {K : Option Nat → Option α} {r : Option Nat} (hk : kd M q = k) (hr : gr M q j = r) : (fR M k j (some q)).bind K = K r := by
  unfold fR; dsimp only; rw [if_pos hk, hr]; rfl
theorem bi_pI {K : Mem → Option α} (hk : kd M q = k) : (pI M k j (some q) x).bind K = K (si M q j x) := by
  unfold pI; dsimp only; rw [if_pos hk]; rfl
theorem bi_pL {K : Mem → Option α} (hk : kd M q = k) : (pL M k j (some q) y).bind K = K (sl M q j y) := by
  unfold pL; dsimp only; rw [if_pos hk]; rfl
theorem bi_pZ {K : Mem → Option α} (hk : kd M q = k) : (pZ M k j (some q) x).bind K = gd (x = 0 ∨ x = 1) (K (si M q j x)) := by
  unfold pZ pI gd; dsimp only
  by_cases hx : x = 0 ∨ x = 1
  · rw [if_pos hx, if_pos hx, if_pos hk]; rfl
  · rw [if_neg hx, if_neg hx]; rfl
theorem bi_pZl {K : Mem → Option α} (hk : kd M q = k) (hx : x = 0 ∨ x = 1) : (pZ M k j (some q) x).bind K = K (si M q j x) := by
  unfold pZ pI; dsimp only; rw [if_pos hx, if_pos hk]; rfl
theorem bi_aI {K : Int32 → Option α} (hk : kd M q = k) (hl : ln M q = n) : (aI M k (some q) i).bind K = gd (inb i n) (K (gi M q i.toNatClampNeg)) := by
  unfold aI gd; dsimp only; rw [hl]
  by_cases h : inb i n
  · rw [if_pos ⟨hk, h⟩, if_pos h]; rfl
  · rw [if_neg (fun e => h e.2), if_neg h]; rfl
theorem bi_aL {K : Int64 → Option α} (hk : kd M q = k) (hl : ln M q = n) : (aL M k (some q) i).bind K = gd (inb i n) (K (gl M q i.toNatClampNeg)) := by
  unfold aL gd; dsimp only; rw [hl]
  by_cases h : inb i n
  · rw [if_pos ⟨hk, h⟩, if_pos h]; rfl
  · rw [if_neg (fun e => h e.2), if_neg h]; rfl
theorem bi_uI {K : Mem → Option α} (hk : kd M q = k) (hl : ln M q = n) : (uI M k (some q) i x).bind K = gd (inb i n) (K (si M q i.toNatClampNeg x)) := by
  unfold uI gd; dsimp only; rw [hl]
  by_cases h : inb i n
  · rw [if_pos ⟨hk, h⟩, if_pos h]; rfl
  · rw [if_neg (fun e => h e.2), if_neg h]; rfl
theorem bi_uN {K : Mem → Option α} (hk : kd M q = k) (hl : ln M q = n) : (uN M k (some q) i x).bind K = gd (inb i n) (K (si M q i.toNatClampNeg (vp_nar (aty k) x))) := by
  unfold uN gd; dsimp only; rw [hl]
  by_cases h : inb i n
  · rw [if_pos ⟨hk, h⟩, if_pos h]; rfl
  · rw [if_neg (fun e => h e.2), if_neg h]; rfl
theorem bi_uL {K : Mem → Option α} (hk : kd M q = k) (hl : ln M q = n) : (uL M k (some q) i y).bind K = gd (inb i n) (K (sl M q i.toNatClampNeg y)) := by
  unfold uL gd; dsimp only; rw [hl]
  by_cases h : inb i n
  · rw [if_pos ⟨hk, h⟩, if_pos h]; rfl
  · rw [if_neg (fun e => h e.2), if_neg h]; rfl
theorem bi_ck {K : Unit → Option α} (hk : kd M q = k) : (ck M k (some q)).bind K = K () := by
  unfold ck; dsimp only; rw [if_pos hk]; rfl
theorem kg_pI {a : Option Nat} {M1 : Mem} (h : pI M k j a x = some M1) : KG M M1 := by
  cases a with
  | none => cases h
  | some a =>
    unfold pI at h; dsimp only at h
    split at h
    · cases h; exact ⟨rfl, rfl, rfl⟩
    · cases h
theorem kg_pZ {a : Option Nat} {M1 : Mem} (h : pZ M k j a x = some M1) : KG M M1 := by
  unfold pZ at h
  split at h
  · exact kg_pI h
  · cases h
theorem kg_pL {a : Option Nat} {M1 : Mem} (h : pL M k j a y = some M1) : KG M M1 := by
  cases a with
  | none => cases h
  | some a =>
    unfold pL at h; dsimp only at h
    split at h
    · cases h; exact ⟨rfl, rfl, rfl⟩
    · cases h
theorem kg_uI {a : Option Nat} {M1 : Mem} (h : uI M k a i x = some M1) : KG M M1 := by
  cases a with
  | none => cases h
  | some a =>
    unfold uI at h; dsimp only at h
    split at h
    · cases h; exact ⟨rfl, rfl, rfl⟩
    · cases h
theorem kg_uN {a : Option Nat} {M1 : Mem} (h : uN M k a i x = some M1) : KG M M1 := by
  cases a with
  | none => cases h
  | some a =>
    unfold uN at h; dsimp only at h
    split at h
    · cases h; exact ⟨rfl, rfl, rfl⟩
    · cases h
theorem kg_uL {a : Option Nat} {M1 : Mem} (h : uL M k a i y = some M1) : KG M M1 := by
  cases a with
  | none => cases h
  | some a =>
    unfold uL at h; dsimp only at h
    split at h
    · cases h; exact ⟨rfl, rfl, rfl⟩
    · cases h
end Bi
