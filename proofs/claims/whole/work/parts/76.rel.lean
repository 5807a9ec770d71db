-- ===== the texts of a sheet in both, side by side =====
/-- a name with its year: in the class one long, in the reference a long and an int -/
def Rfn (own : Nat) (ld : Int32) (a v : Int64) (z : Int32) : Prop := ∃ Y nm : Nat, Y < 30 ∧ nm < 1099511627776 ∧ a = nl (Y * 1099511627776 + nm) ∧ v = nl nm ∧ z = (if Y = own then -1 else ni Y) ∧ (Y ≠ own → bt ld Y = true)
def Bop (k : Bool) (o w : Int32) : Prop := (o = 6 ∧ w = 43) ∨ (o = 7 ∧ w = 45) ∨ (o = 8 ∧ w = 42) ∨ (k = false ∧ ((o = 9 ∧ w = 47) ∨ (o = 10 ∧ w = 37) ∨ (o = 11 ∧ w = 61) ∨ (o = 12 ∧ w = 60) ∨ (o = 13 ∧ w = 62)))
section Code
variable (k : Bool) (mo : Nat) (own : Nat) (ld : Int32) (o : Nat → Int32) (a : Nat → Int64) (w : Nat → Int32) (v : Nat → Int64) (z : Nat → Int32)
/-- closed under the ways to make a formula: from c (class) and r (reference) on n pieces, h room -/
def ER (P : Nat → Nat → Nat → Nat → Prop) : Prop :=
  (∀ c r h n, 1 ≤ h → n < 1000000000 → o c = 0 → a c = nl n → w r = 0 → v r = nl n → P c r 1 h) ∧
  (∀ c r h, 1 ≤ h → k = false → mo = 1 → o c = 1 → w r = 1 → P c r 1 h) ∧
  (∀ c r h j, 1 ≤ h → k = false → mo = 2 → j < 4 → o c = 2 → a c = nl j → w r = ni (2 + j) → P c r 1 h) ∧
  (∀ c r h, 1 ≤ h → o c = 3 → w r = 6 → Rfn own ld (a c) (v r) (z r) → P c r 1 h) ∧
  (∀ c r n h, k = false → P c r n h → o (c + n) = 4 → w (r + n) = 7 → Rfn own ld (a (c + n)) (v (r + n)) (z (r + n)) → P c r (n + 1) h) ∧
  (∀ c r n h, P c r n h → o (c + n) = 5 → w (r + n) = 8 → P c r (n + 1) h) ∧
  (∀ c r n m h g, P c r n h → P (c + n) (r + n) m g → g + 1 ≤ h → Bop k (o (c + n + m)) (w (r + n + m)) → P c r (n + m + 1) h) ∧
  (∀ c r n m l h, k = false → P c r n h → o (c + n) = 15 → a (c + n) = nl (c + n + m + 2) → w (r + n) = 9 → v (r + n) = nl (r + n + m + 2) →
    P (c + n + 1) (r + n + 1) m h → o (c + n + m + 1) = 14 → a (c + n + m + 1) = nl (c + n + m + l + 2) → w (r + n + m + 1) = 10 → v (r + n + m + 1) = nl (r + n + m + l + 2) →
    P (c + n + m + 2) (r + n + m + 2) l h → P c r (n + m + l + 2) h)
def E2 (c r n h : Nat) : Prop := ∀ P : Nat → Nat → Nat → Nat → Prop, ER k mo own ld o a w v z P → P c r n h
theorem e2_er : ER k mo own ld o a w v z (E2 k mo own ld o a w v z) := by
  refine ⟨?_, ?_, ?_, ?_, ?_, ?_, ?_, ?_⟩
  · intro c r h n h1 h2 h3 h4 h5 h6 P hP; exact hP.1 c r h n h1 h2 h3 h4 h5 h6
  · intro c r h h1 h2 h2' h3 h4 P hP; exact hP.2.1 c r h h1 h2 h2' h3 h4
  · intro c r h j h1 h2 h2' h3 h4 h5 h6 P hP; exact hP.2.2.1 c r h j h1 h2 h2' h3 h4 h5 h6
  · intro c r h h1 h2 h3 h4 P hP; exact hP.2.2.2.1 c r h h1 h2 h3 h4
  · intro c r n h h1 h2 h3 h4 h5 P hP; exact hP.2.2.2.2.1 c r n h h1 (h2 P hP) h3 h4 h5
  · intro c r n h h1 h2 h3 P hP; exact hP.2.2.2.2.2.1 c r n h (h1 P hP) h2 h3
  · intro c r n m h g h1 h2 h3 h4 P hP; exact hP.2.2.2.2.2.2.1 c r n m h g (h1 P hP) (h2 P hP) h3 h4
  · intro c r n m l h h1 h2 h3 h4 h5 h6 h7 h8 h9 h10 h11 h12 P hP
    exact hP.2.2.2.2.2.2.2 c r n m l h h1 (h2 P hP) h3 h4 h5 h6 (h7 P hP) h8 h9 h10 h11 (h12 P hP)
variable (sk sa sw ts te es : Nat → Int32) (nt : Nat)
/-- closed under the ways to make steps: class code c .. c', marks m .. m', tries t .. t', d tries may lie in one another -/
def TR (P : Nat → Nat → Nat → Nat → Nat → Nat → Nat → Prop) : Prop :=
  (∀ d c m t, P d c c m m t t) ∧
  (∀ d c c1 c2 m m2 t t2, o c = 14 → a c = nl c1 → c < c1 → P d c1 c2 m m2 t t2 → P d c c2 m m2 t t2) ∧
  (∀ d c c2 m m2 t t2 r n q, o c = 17 → E2 false 1 own ld o a w v z (c + 1) r n 37 → o (c + 1 + n) = 18 → a (c + 1 + n) = nl ((c + 1) * 8 + q) → q < nt → w (r + n) = 11 → r + n < 1200 →
    sk m = 0 → sa m = ni r → sw m = ni q → P d (c + n + 2) c2 (m + 1) m2 t t2 → P d c c2 m m2 t t2) ∧
  (∀ d c c2 m m2 t t2 r n q, E2 false 0 own ld o a w v z c r n 37 → o (c + n) = 19 → a (c + n) = nl q → 1 ≤ q → q ≤ 800 → w (r + n) = 11 → r + n < 1200 →
    sk m = 1 → sa m = ni r → sw m = ni q → P d (c + n + 1) c2 (m + 1) m2 t t2 → P d c c2 m m2 t t2) ∧
  (∀ d c cb ce c2 m mb me m2 t tb t1 t2, ts t = ni c → P d c cb (m + 1) mb (t + 1) tb → o cb = 14 → a cb = nl ce → te t = ni (cb + 1) → es t = ni (cb + 1) →
    P d (cb + 1) ce (mb + 1) me tb t1 → sk m = 2 → sw m = ni (mb + 1) → sk mb = 3 → sw mb = ni me → sk me = 4 → P (d + 1) ce c2 (me + 1) m2 t1 t2 → P (d + 1) c c2 m m2 t t2)
def T2 (d c c2 m m2 t t2 : Nat) : Prop := ∀ P : Nat → Nat → Nat → Nat → Nat → Nat → Nat → Prop, TR own ld o a w v z sk sa sw ts te es nt P → P d c c2 m m2 t t2
theorem t2_tr : TR own ld o a w v z sk sa sw ts te es nt (T2 own ld o a w v z sk sa sw ts te es nt) := by
  refine ⟨?_, ?_, ?_, ?_, ?_⟩
  · intro d c m t P hP; exact hP.1 d c m t
  · intro d c c1 c2 m m2 t t2 h1 h2 h3 h4 P hP; exact hP.2.1 d c c1 c2 m m2 t t2 h1 h2 h3 (h4 P hP)
  · intro d c c2 m m2 t t2 r n q h1 h2 h3 h4 h5 h6 h7 h8 h9 h10 h11 P hP
    exact hP.2.2.1 d c c2 m m2 t t2 r n q h1 h2 h3 h4 h5 h6 h7 h8 h9 h10 (h11 P hP)
  · intro d c c2 m m2 t t2 r n q h1 h2 h3 h4 h5 h6 h7 h8 h9 h10 h11 P hP
    exact hP.2.2.2.1 d c c2 m m2 t t2 r n q h1 h2 h3 h4 h5 h6 h7 h8 h9 h10 (h11 P hP)
  · intro d c cb ce c2 m mb me m2 t tb t1 t2 h1 h2 h3 h4 h5 h6 h7 h8 h9 h10 h11 h12 h13 P hP
    exact hP.2.2.2.2 d c cb ce c2 m mb me m2 t tb t1 t2 h1 (h2 P hP) h3 h4 h5 h6 (h7 P hP) h8 h9 h10 h11 h12 (h13 P hP)
end Code
-- views: of the class (a draft or a sheet), of the reference (what was read or a slot)
abbrev CV : Type := (Int32 × Int32 × Int32) × ((Nat → Int32) × (Nat → Int64) × Nat) × ((Nat → Int64) × (Nat → Int32) × Nat) × ((Nat → Int64) × (Nat → Int32) × Nat) × (Nat → Int32) × (Nat → Int32) × (Nat → Int32) × Nat
abbrev RV : Type := (Int32 × Int32 × Int32) × ((Nat → Int32) × (Nat → Int64) × (Nat → Int32)) × ((Nat → Int32) × (Nat → Int32) × (Nat → Int32) × Nat) × ((Nat → Int64) × (Nat → Int32) × Nat) × ((Nat → Int64) × (Nat → Int32) × Nat)
def cUn (V : CV) : Int32 := V.1.1
def cLe (V : CV) : Int32 := V.1.2.1
def cRu (V : CV) : Int32 := V.1.2.2
def cO (V : CV) : Nat → Int32 := V.2.1.1
def cA (V : CV) : Nat → Int64 := V.2.1.2.1
def cSz (V : CV) : Nat := V.2.1.2.2
def cCn (V : CV) : Nat → Int64 := V.2.2.1.1
def cCs (V : CV) : Nat → Int32 := V.2.2.1.2.1
def cNc (V : CV) : Nat := V.2.2.1.2.2
def cTn (V : CV) : Nat → Int64 := V.2.2.2.1.1
def cTz (V : CV) : Nat → Int32 := V.2.2.2.1.2.1
def cNt (V : CV) : Nat := V.2.2.2.1.2.2
def cTs (V : CV) : Nat → Int32 := V.2.2.2.2.1
def cTe (V : CV) : Nat → Int32 := V.2.2.2.2.2.1
def cEs (V : CV) : Nat → Int32 := V.2.2.2.2.2.2.1
def cNy (V : CV) : Nat := V.2.2.2.2.2.2.2
def rUn (W : RV) : Int32 := W.1.1
def rLe (W : RV) : Int32 := W.1.2.1
def rRu (W : RV) : Int32 := W.1.2.2
def rW (W : RV) : Nat → Int32 := W.2.1.1
def rV (W : RV) : Nat → Int64 := W.2.1.2.1
def rZ (W : RV) : Nat → Int32 := W.2.1.2.2
def rSk (W : RV) : Nat → Int32 := W.2.2.1.1
def rSa (W : RV) : Nat → Int32 := W.2.2.1.2.1
def rSw (W : RV) : Nat → Int32 := W.2.2.1.2.2.1
def rNs (W : RV) : Nat := W.2.2.1.2.2.2
def rCn (W : RV) : Nat → Int64 := W.2.2.2.1.1
def rCa (W : RV) : Nat → Int32 := W.2.2.2.1.2.1
def rNc (W : RV) : Nat := W.2.2.2.1.2.2
def rTn (W : RV) : Nat → Int64 := W.2.2.2.2.1
def rTz (W : RV) : Nat → Int32 := W.2.2.2.2.2.1
def rNt (W : RV) : Nat := W.2.2.2.2.2.2
/-- a formula with its end, in both -/
def Fml (k : Bool) (mo own : Nat) (V : CV) (W : RV) (h : Nat) (x y : Int32) : Prop := ∃ c r n : Nat, x = ni c ∧ y = ni r ∧ E2 k mo own (cLe V) (cO V) (cA V) (rW W) (rV W) (rZ W) c r n h ∧ cO V (c + n) = 20 ∧ rW W (r + n) = 11 ∧ c + n < cSz V ∧ r + n < 1200
/-- the same sheet in the class and in the reference -/
def Txt (own : Nat) (V : CV) (W : RV) : Prop :=
  (cUn V = rUn W ∧ cLe V = rLe W) ∧
  ((cRu V = -1 ∧ rRu W = -1) ∨ Fml false 2 own V W 37 (cRu V) (rRu W)) ∧
  (cNc V = rNc W ∧ cNc V ≤ 8 ∧ ∀ k, k < cNc V → cCn V k = rCn W k ∧ Fml true 0 own V W 3 (cCs V k) (rCa W k)) ∧
  (cNt V = rNt W ∧ cNt V ≤ 6 ∧ ∀ k, k < cNt V → cTn V k = rTn W k ∧ cTz V k = rTz W k ∧ ∃ q, 1 ≤ q ∧ q ≤ 12 ∧ cTz V k = ni q) ∧
  (rNs W ≤ 120 ∧ cNy V ≤ 40 ∧ cSz V ≤ 1024 ∧ ∃ c0 c1, ((cUn V = -1 ∧ c0 = 0) ∨ ∃ u, u < 30 ∧ u ≠ own ∧ bt (cLe V) u = true ∧ cUn V = ni u ∧ cO V 0 = 16 ∧ cA V 0 = nl u ∧ c0 = 1) ∧
    T2 own (cLe V) (cO V) (cA V) (rW W) (rV W) (rZ W) (rSk W) (rSa W) (rSw W) (cTs V) (cTe V) (cEs V) (cNt V) 3 c0 c1 0 (rNs W) 0 (cNy V) ∧ cO V c1 = 21 ∧ cSz V = c1 + 1)
def tn (x : Int32) : Nat := x.toNatClampNeg
/-- a sheet of the class at s -/
def svC (A : Mem) (s : Nat) : CV := ((gi A s 0, gi A s 1, gi A s 3), (gi A (s + 1), gl A (s + 2), ln A (s + 1)), (gl A (s + 3), gi A (s + 4), ln A (s + 3)), (gl A (s + 5), gi A (s + 6), ln A (s + 5)), gi A (s + 7), gi A (s + 8), gi A (s + 9), ln A (s + 7))
/-- a slot of the reference -/
def svR (B : Mem) (y : Nat) : RV := ((gi B 195 y, gi B 196 y, gi B 207 y), (fun k => gi B 208 (1200 * y + k), fun k => gl B 209 (1200 * y + k), fun k => gi B 210 (1200 * y + k)), (fun k => gi B 204 (120 * y + k), fun k => gi B 205 (120 * y + k), fun k => gi B 206 (120 * y + k), tn (gi B 203 y)), (fun k => gl B 198 (8 * y + k), fun k => gi B 199 (8 * y + k), tn (gi B 197 y)), (fun k => gl B 201 (6 * y + k), fun k => gi B 202 (6 * y + k), tn (gi B 200 y)))
def dvC (A : Mem) : CV := ((gi A 8 0, gi A 8 1, gi A 8 3), (gi A 9, gl A 10, tn (gi A 8 6)), (gl A 11, gi A 12, tn (gi A 8 9)), (gl A 13, gi A 14, tn (gi A 8 12)), gi A 15, gi A 16, gi A 17, tn (gi A 8 16))
def dvR (B : Mem) : RV := ((gi B 181 14, gi B 181 35, gi B 181 26), (gi B 191, gl B 192, gi B 193), (gi B 188, gi B 189, gi B 190, tn (gi B 181 21)), (gl B 184, gi B 185, tn (gi B 181 15)), (gl B 186, gi B 187, tn (gi B 181 18)))
/-- the cells of a sheet -/
def ShO (A : Mem) (s : Nat) : Prop := 231 ≤ s ∧ s + 10 ≤ nc A ∧ kd A s = 6 ∧
  (gr A s 4 = some (s + 1) ∧ gr A s 5 = some (s + 2) ∧ gr A s 6 = some (s + 3) ∧ gr A s 7 = some (s + 4) ∧ gr A s 8 = some (s + 5) ∧ gr A s 9 = some (s + 6) ∧ gr A s 10 = some (s + 7) ∧ gr A s 11 = some (s + 8) ∧ gr A s 12 = some (s + 9)) ∧
  (kd A (s + 1) = 20 ∧ kd A (s + 2) = 21 ∧ kd A (s + 3) = 21 ∧ kd A (s + 4) = 20 ∧ kd A (s + 5) = 21 ∧ kd A (s + 6) = 20 ∧ kd A (s + 7) = 20 ∧ kd A (s + 8) = 20 ∧ kd A (s + 9) = 20) ∧
  (ln A (s + 2) = ln A (s + 1) ∧ ln A (s + 4) = ln A (s + 3) ∧ ln A (s + 6) = ln A (s + 5) ∧ ln A (s + 8) = ln A (s + 7) ∧ ln A (s + 9) = ln A (s + 7))
/-- the sheet that r points to is the slot y of the reference, of year own -/
def ShR (A B : Mem) (r : Option Nat) (y own : Nat) : Prop := match r with
  | none => gi B 194 y = 0
  | some s => gi B 194 y = 1 ∧ ShO A s ∧ Txt own (svC A s) (svR B y) ∧ (∃ n, gi B 203 y = ni n ∧ n ≤ 120) ∧ (∃ n, gi B 197 y = ni n ∧ n ≤ 8) ∧ (∃ n, gi B 200 y = ni n ∧ n ≤ 6)
-- ===== consts =====
/-- the first of n places from k on that holds x -/
def pos (f : Nat → Int64) (x : Int64) : Nat → Nat → Option Nat
  | 0, _ => none
  | n + 1, k => if f k = x then some k else pos f x n (k + 1)
/-- names are looked up along a chain: t a table? -/
def fdC (A : Mem) (t : Nat) (nm : Int64) : Nat → Nat → Option (Nat × Nat)
  | 0, _ => none
  | n + 1, y => if 30 ≤ y then none else match gr A (21 + 4 * y) 0 with
    | none => none
    | some s => match pos (gl A (s + 3 + 2 * t)) nm (ln A (s + 3 + 2 * t)) 0 with
      | some i => some (y, i)
      | none => if gi A s 0 < 0 then none else fdC A t nm n (tn (gi A s 0))
/-- a value that a const may have -/
def smallV (x : Int64) : Prop := x ≤ 1000000000000000 ∧ -1000000000000000 ≤ x
def prodF (l r : Int64) : Prop := l = 0 ∨ (if r < 0 then -r else r) ≤ 1000000000000000 / (if l < 0 then -l else l)
noncomputable def putV (x : Int64) (st : List Int64) : Option (List Int64) := by
  classical
  exact if st.length < 4 ∧ smallV x then some (x :: st) else none
/-- one piece of a const's code; f: values of consts by year and number -/
noncomputable def ev1 (A : Mem) (f : Nat → Nat → Option Int64) (op : Int32) (arg : Int64) (st : List Int64) : Option (List Int64) := by
  classical
  exact if op = 3 then
    match fdC A 0 (arg &&& 1099511627775) 30 (tn (arg >>> 40).toInt32) with
    | none => none
    | some q => match f q.1 q.2 with
      | none => none
      | some x => putV x st
  else if op = 0 then putV arg st
  else match st with
    | [] => none
    | x :: st1 => if op = 5 then putV (-x) st1 else match st1 with
      | [] => none
      | l :: st2 => if op = 6 then putV (l + x) st2 else if op = 7 then putV (l - x) st2 else if op = 8 then (if prodF l x then putV (l * x) st2 else none) else none
/-- a const's code from pc on -/
noncomputable def evR (A : Mem) (f : Nat → Nat → Option Int64) (s : Nat) : Nat → Nat → List Int64 → Option Int64
  | 0, _, _ => none
  | n + 1, pc, st => if ln A (s + 1) ≤ pc then none else if gi A (s + 1) pc = 20 then (match st with
      | [x] => some x
      | _ => none) else match ev1 A f (gi A (s + 1) pc) (gl A (s + 2) pc) st with
      | none => none
      | some st1 => evR A f s n (pc + 1) st1
noncomputable def evC (A : Mem) (f : Nat → Nat → Option Int64) (y k : Nat) : Option Int64 := match gr A (21 + 4 * y) 0 with
  | none => none
  | some s => if k < ln A (s + 3) then evR A f s 1100 (tn (gi A (s + 4) k)) [] else none
/-- what is known after i rounds -/
noncomputable def vlC (A : Mem) : Nat → Nat → Nat → Option Int64
  | 0 => fun _ _ => none
  | i + 1 => fun y k => evC A (vlC A i) y k
-- ===== class and reference at rest =====
def byR (b : Nat) : Int32 := if b < 128 then ni b else ni b - 256
def SmTp (A B : Mem) : Prop := ∃ n, n ≤ 900 ∧ gi A 1 1 = ni n ∧ gi B 181 1 = ni n ∧ ∀ k, k < n → ∃ b, b < 256 ∧ gi A 2 k = ni b ∧ gi B 182 k = byR b
def SmWd (A B : Mem) : Prop := (∀ k, k < 12 → gl A 6 k = gl B 183 (k + 1)) ∧ (∀ i j, i < 12 → j < 12 → gl A 6 i = gl A 6 j → i = j) ∧ ∀ k, k < 7 → ∃ q : Nat, 1024 ≤ q ∧ q < 1099511627776 ∧ gl A 6 k = nl q
def SmFt (A B : Mem) : Prop := gi A 7 6 = gi B 181 2 ∧ gi A 7 7 = gi B 181 3
def SmSh (A B : Mem) : Prop := ∀ y, y < 30 → ShR A B (gr A 19 y) y y
def SmCl (A B : Mem) : Prop := ∀ y, y < 30 → ShR A B (gr A (21 + 4 * y) 0) (30 + y) y ∧
  (gi A (21 + 4 * y) 1 = gi B 212 y ∧ gi A (21 + 4 * y) 2 = gi B 213 y ∧ gi A (21 + 4 * y) 3 = gi B 214 y ∧ gi A (21 + 4 * y) 4 = gi B 215 y) ∧
  (∀ k, k < 72 → gl A (24 + 4 * y) k = gl B 216 (72 * y + k)) ∧
  (gr A (21 + 4 * y) 0 ≠ none → (gi B 212 y = 1 ∧ gi B 214 y = 0) ∨ gi B 212 y = 2 ∨ gi B 212 y = 3 ∨ (gi B 212 y = 4 ∧ gi B 214 y = 0))
def SmCh (A B : Mem) : Prop := (∀ y, y < 30 → (gi B 211 y = if bt (gi A 18 2) y then 1 else 0) ∧ (bt (gi A 18 2) y = false → gr A (21 + 4 * y) 0 = gr A 19 y)) ∧ ∀ y, 30 ≤ y → y < 32 → bt (gi A 18 2) y = false
def SmEd (A B : Mem) (N : Nat) : Prop := ∃ e, e ≤ N ∧ gi A 18 3 = ni e ∧ gi B 181 59 = ni e ∧ (gi B 181 64 = -1 ∨ ∃ f, f ≤ e ∧ gi B 181 64 = ni f)
/-- the class's consts are settled -/
def CnA (A : Mem) : Prop := ∀ y s, y < 30 → gr A (21 + 4 * y) 0 = some s → ∀ k, k < ln A (s + 3) →
  (gi A (22 + 4 * y) k = 2 ∧ ∃ i, vlC A i y k = some (gl A (23 + 4 * y) k)) ∨ (gi A (22 + 4 * y) k = 3 ∧ ∀ i, vlC A i y k = none)
/-- the reference's consts, where it has worked them for this edition -/
def CnB (A B : Mem) : Prop := gi B 181 64 = gi B 181 59 → ∀ y s, y < 30 → gr A (21 + 4 * y) 0 = some s → ∀ k, k < ln A (s + 3) →
  (gi A (22 + 4 * y) k = 2 ∧ gi B 217 (8 * y + k) = 1 ∧ gl B 218 (8 * y + k) = gl A (23 + 4 * y) k) ∨ (gi A (22 + 4 * y) k = 3 ∧ gi B 217 (8 * y + k) = 0)
def SmSt (A B : Mem) (N : Nat) : Prop := ∃ n, n ≤ 30 * N ∧ gi A 144 8 = ni n ∧ gi B 181 66 = ni n ∧ ∀ k, k < n → k < 300 → ∃ y, y < 30 ∧ gi A 179 k = ni y ∧ gi B 220 k = ni (1700 + y)
/-- a voyage: its object and rows at q, in the reference the number v -/
def VyR (A B : Mem) (q v : Nat) : Prop := (231 ≤ q ∧ q + 5 ≤ nc A ∧ kd A q = 9 ∧ kd A (q + 1) = 20 ∧ kd A (q + 2) = 20 ∧ kd A (q + 3) = 20 ∧ kd A (q + 4) = 21) ∧
  (ln A (q + 1) = 8 ∧ ln A (q + 2) = 8 ∧ ln A (q + 3) = 8 ∧ ln A (q + 4) = 8) ∧
  (gr A q 3 = some (q + 1) ∧ gr A q 4 = some (q + 2) ∧ gr A q 5 = some (q + 3) ∧ gr A q 6 = some (q + 4)) ∧
  (gi A q 0 = gi B 222 v ∧ gi A q 1 = gi B 223 v) ∧
  ∃ n b, n ≤ 8 ∧ b ≤ n ∧ gi A q 2 = ni n ∧ gi B 224 v = ni n ∧ gi A q 8 = ni b ∧ gi B 228 v = (if b = 0 then -1 else ni b) ∧
    (∀ k, k < n → gi A (q + 1) k = gi B 225 (8 * v + k) ∧ gi A (q + 2) k = gi B 226 (8 * v + k) ∧ gi A (q + 3) k = gi B 227 (8 * v + k) ∧ ∃ y, y < 30 ∧ gi A (q + 2) k = ni y) ∧
    (b ≠ 0 → gl A q 7 = gl B 229 v) ∧ ∀ k, k < b → gl A (q + 4) k = gl B 230 (8 * v + k)
def SmVy (A B : Mem) : Prop := ∃ n, n ≤ 20 ∧ gi A 0 6 = ni n ∧ gi B 181 73 = ni n ∧ (∀ v, v < n → ∃ q, gr A 180 v = some q ∧ VyR A B q v) ∧
  (∀ v u q p, v < u → u < n → gr A 180 v = some q → gr A 180 u = some p → q + 5 ≤ p) ∧
  (∀ v q s, v < n → gr A 180 v = some q → (∃ y, y < 30 ∧ (gr A 19 y = some s ∨ gr A (21 + 4 * y) 0 = some s)) → q + 5 ≤ s ∨ s + 10 ≤ q) ∧
  (∀ v, n ≤ v → v < 20 → gi B 224 v = 0)
def SmBk (A B : Mem) : Prop := gi A 0 7 = gi B 181 83 ∧ gi A 0 8 = gi B 181 84
def Sim (N : Nat) (A B : Mem) : Prop := FSC A ∧ FSR B ∧ SmTp A B ∧ SmWd A B ∧ SmFt A B ∧ SmSh A B ∧ SmCl A B ∧ SmCh A B ∧ SmEd A B N ∧ CnA A ∧ CnB A B ∧ SmSt A B N ∧ SmVy A B ∧ SmBk A B ∧ gi B 181 63 = 0
