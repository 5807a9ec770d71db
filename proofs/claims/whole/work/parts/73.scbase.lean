-- ===== the class at its place: S-forms (by program: wip/scform.py) =====
def kdL (a : Nat) : Nat := match a with
  | 0 => 10
  | 1 => 7
  | 2 => 22
  | 3 => 20
  | 4 => 20
  | 5 => 21
  | 6 => 21
  | 7 => 4
  | 8 => 0
  | 9 => 20
  | 10 => 21
  | 11 => 21
  | 12 => 20
  | 13 => 21
  | 14 => 20
  | 15 => 20
  | 16 => 20
  | 17 => 20
  | 18 => 1
  | 19 => 25
  | 20 => 26
  | 141 => 5
  | 142 => 20
  | 143 => 21
  | 144 => 3
  | 145 => 27
  | 177 => 21
  | 178 => 21
  | 179 => 20
  | 180 => 28
  | _ => 99
def lnL (a : Nat) : Nat := match a with
  | 2 => 900
  | 3 => 901
  | 4 => 901
  | 5 => 901
  | 6 => 12
  | 9 => 1024
  | 10 => 1024
  | 11 => 8
  | 12 => 8
  | 13 => 6
  | 14 => 6
  | 15 => 40
  | 16 => 40
  | 17 => 40
  | 19 => 30
  | 20 => 30
  | 142 => 240
  | 143 => 4
  | 145 => 31
  | 177 => 1240
  | 178 => 4
  | 179 => 300
  | 180 => 20
  | _ => 0
/-- object, field, where it points -/
def fxL : List (Nat × Nat × Nat) := [(0, 0, 1), (0, 1, 7), (0, 2, 18), (0, 3, 141), (0, 4, 144), (0, 5, 180), (1, 0, 2), (1, 2, 3), (1, 3, 4), (1, 4, 5), (1, 6, 6), (7, 0, 1), (7, 1, 8), (8, 4, 9), (8, 5, 10), (8, 7, 11), (8, 8, 12), (8, 10, 13), (8, 11, 14), (8, 13, 15), (8, 14, 16), (8, 15, 17), (18, 0, 19), (18, 1, 20), (141, 0, 18), (141, 1, 142), (141, 3, 143), (144, 0, 18), (144, 1, 145), (144, 3, 177), (144, 5, 178), (144, 7, 179)]
/-- the class's objects and rows stand where they were made -/
def FSC (M : Mem) : Prop := 231 ≤ nc M ∧ (∀ a, a < 181 → kdL a ≠ 99 → kd M a = kdL a ∧ ln M a = lnL a) ∧ (∀ q ∈ fxL, gr M q.1 q.2.1 = some q.2.2) ∧
  (∀ n, n < 30 → gr M 20 n = some (21 + 4 * n) ∧ kd M (21 + 4 * n) = 8 ∧ kd M (22 + 4 * n) = 20 ∧ kd M (23 + 4 * n) = 21 ∧ kd M (24 + 4 * n) = 21 ∧ ln M (22 + 4 * n) = 8 ∧ ln M (23 + 4 * n) = 8 ∧ ln M (24 + 4 * n) = 72 ∧ gr M (21 + 4 * n) 5 = some (22 + 4 * n) ∧ gr M (21 + 4 * n) 6 = some (23 + 4 * n) ∧ gr M (21 + 4 * n) 7 = some (24 + 4 * n)) ∧
  ∀ n, n < 31 → gr M 145 n = some (146 + n) ∧ kd M (146 + n) = 2
section Fsc
variable {M : Mem}
theorem lt_of_kdL {a : Nat} (h : kdL a ≠ 99) : a < 181 := by
  unfold kdL at h
  split at h <;> first | omega | exact absurd rfl h
theorem FSC.hk (h : FSC M) (a : Nat) (h2 : kdL a ≠ 99 := by decide) : kd M a = kdL a := (h.2.1 a (lt_of_kdL h2) h2).1
theorem FSC.hl (h : FSC M) (a : Nat) (h2 : kdL a ≠ 99 := by decide) : ln M a = lnL a := (h.2.1 a (lt_of_kdL h2) h2).2
theorem FSC.hg (h : FSC M) (a j r : Nat) (hm : (a, j, r) ∈ fxL := by decide) : gr M a j = some r := h.2.2.1 _ hm
theorem FSC.kdT21 (h : FSC M) {n : Nat} (hn : n < 30) : kd M (21 + 4 * n) = 8 := (h.2.2.2.1 n hn).2.1
theorem FSC.kdT22 (h : FSC M) {n : Nat} (hn : n < 30) : kd M (22 + 4 * n) = 20 := (h.2.2.2.1 n hn).2.2.1
theorem FSC.kdT23 (h : FSC M) {n : Nat} (hn : n < 30) : kd M (23 + 4 * n) = 21 := (h.2.2.2.1 n hn).2.2.2.1
theorem FSC.kdT24 (h : FSC M) {n : Nat} (hn : n < 30) : kd M (24 + 4 * n) = 21 := (h.2.2.2.1 n hn).2.2.2.2.1
theorem FSC.lnT22 (h : FSC M) {n : Nat} (hn : n < 30) : ln M (22 + 4 * n) = 8 := (h.2.2.2.1 n hn).2.2.2.2.2.1
theorem FSC.lnT23 (h : FSC M) {n : Nat} (hn : n < 30) : ln M (23 + 4 * n) = 8 := (h.2.2.2.1 n hn).2.2.2.2.2.2.1
theorem FSC.lnT24 (h : FSC M) {n : Nat} (hn : n < 30) : ln M (24 + 4 * n) = 72 := (h.2.2.2.1 n hn).2.2.2.2.2.2.2.1
theorem FSC.grT5 (h : FSC M) {n : Nat} (hn : n < 30) : gr M (21 + 4 * n) 5 = some (22 + 4 * n) := (h.2.2.2.1 n hn).2.2.2.2.2.2.2.2.1
theorem FSC.grT6 (h : FSC M) {n : Nat} (hn : n < 30) : gr M (21 + 4 * n) 6 = some (23 + 4 * n) := (h.2.2.2.1 n hn).2.2.2.2.2.2.2.2.2.1
theorem FSC.grT7 (h : FSC M) {n : Nat} (hn : n < 30) : gr M (21 + 4 * n) 7 = some (24 + 4 * n) := (h.2.2.2.1 n hn).2.2.2.2.2.2.2.2.2.2
theorem FSC.kdF (h : FSC M) {n : Nat} (hn : n < 31) : kd M (146 + n) = 2 := (h.2.2.2.2 n hn).2
theorem inb_lt {i : Int32} {n : Nat} (h : inb i n) : i.toNatClampNeg < n := Nat.not_le.mp fun q => h (Or.inr q)
theorem bi_aR {α : Type} {K : Option Nat → Option α} {q k n : Nat} {i : Int32} (hk : kd M q = k) (hl : ln M q = n) : (aR M k (some q) i).bind K = gd (inb i n) (K (gr M q i.toNatClampNeg)) := by
  unfold aR gd; dsimp only; rw [hl]
  by_cases h : inb i n
  · rw [if_pos ⟨hk, h⟩, if_pos h]; rfl
  · rw [if_neg (fun e => h e.2), if_neg h]; rfl
theorem FSC.aT {α : Type} {K : Option Nat → Option α} {i : Int32} (hF : FSC M) : (aR M 26 (some 20) i).bind K = gd (inb i 30) (K (some (21 + 4 * i.toNatClampNeg))) := by
  refine (bi_aR (hF.hk 20) (hF.hl 20)).trans ?_
  refine gd_congr (fun h => ?_)
  rw [(hF.2.2.2.1 _ (inb_lt h)).1]
theorem FSC.aF {α : Type} {K : Option Nat → Option α} {i : Int32} (hF : FSC M) : (aR M 27 (some 145) i).bind K = gd (inb i 31) (K (some (146 + i.toNatClampNeg))) := by
  refine (bi_aR (hF.hk 145) (hF.hl 145)).trans ?_
  refine gd_congr (fun h => ?_)
  rw [(hF.2.2.2.2 _ (inb_lt h)).1]
theorem bi_aN {α : Type} {K : Int32 → Option α} {q k n : Nat} (hk : kd M q = k) (h20 : 20 ≤ k) (h29 : k < 29) (hl : ln M q = n) : (aN M (some q)).bind K = K (Int32.ofNat n) := by
  unfold aN; dsimp only; rw [if_pos ⟨by omega, by omega⟩, hl]; rfl
theorem bi_pR {α : Type} {K : Mem → Option α} {q k j : Nat} {u : Option Nat} (hk : kd M q = k) : (pR M k j (some q) u).bind K = K (sr M q j u) := by
  unfold pR; dsimp only; rw [if_pos hk]; rfl
theorem bi_uR {α : Type} {K : Mem → Option α} {q k n : Nat} {i : Int32} {u : Option Nat} (hk : kd M q = k) (hl : ln M q = n) : (uR M k (some q) i u).bind K = gd (inb i n ∧ okRd M (acm k) u = true) (K (sr M q i.toNatClampNeg u)) := by
  unfold uR gd; dsimp only; rw [hl]
  by_cases h : inb i n ∧ okRd M (acm k) u = true
  · rw [if_pos ⟨hk, h⟩, if_pos h]; rfl
  · rw [if_neg (fun e => h e.2), if_neg h]; rfl
theorem kc_srk {q k j : Nat} {u : Option Nat} (hk : kd M q = k) (hf : fxk k j = false) : KC M (sr M q j u) := by
  refine ⟨Nat.le_refl _, Nat.le_refl _, fun _ _ => ⟨rfl, rfl⟩, fun b i _ hb => ?_⟩
  rw [gr_sr, if_neg]
  rintro ⟨rfl, rfl⟩
  rw [hk, hf] at hb
  cases hb
theorem fxL_ok : ∀ q ∈ fxL, kdL q.1 ≠ 99 ∧ fxk (kdL q.1) q.2.1 = true := by decide +kernel
theorem FSC.kc {A B : Mem} (h : FSC A) (g : KC A B) : FSC B := by
  obtain ⟨h1, h2, h3, h4, h5⟩ := h
  obtain ⟨g1, g2, g3, g4⟩ := g
  refine ⟨Nat.le_trans h1 g1, fun a ha hk => ?_, fun q hq => ?_, fun n hn => ?_, fun n hn => ?_⟩
  · have e := g3 a (by omega)
    rw [e.1, e.2]; exact h2 a ha hk
  · obtain ⟨e1, e2⟩ := fxL_ok q hq
    have hlt := lt_of_kdL e1
    rw [g4 q.1 q.2.1 (by omega) (by rw [(h2 q.1 hlt e1).1]; exact e2)]
    exact h3 q hq
  · obtain ⟨a0, a1, a2, a3, a4, a5, a6, a7, a8, a9, a10⟩ := h4 n hn
    have k20 := (h2 20 (by decide) (by decide)).1
    refine ⟨?_, ?_, ?_, ?_, ?_, ?_, ?_, ?_, ?_, ?_, ?_⟩
    · rw [g4 20 n (by omega) (by rw [k20]; simp [fxk, kdL])]; exact a0
    · rw [(g3 _ (by omega)).1]; exact a1
    · rw [(g3 _ (by omega)).1]; exact a2
    · rw [(g3 _ (by omega)).1]; exact a3
    · rw [(g3 _ (by omega)).1]; exact a4
    · rw [(g3 _ (by omega)).2]; exact a5
    · rw [(g3 _ (by omega)).2]; exact a6
    · rw [(g3 _ (by omega)).2]; exact a7
    · rw [g4 _ 5 (by omega) (by rw [a1]; decide)]; exact a8
    · rw [g4 _ 6 (by omega) (by rw [a1]; decide)]; exact a9
    · rw [g4 _ 7 (by omega) (by rw [a1]; decide)]; exact a10
  · obtain ⟨a0, a1⟩ := h5 n hn
    have k145 := (h2 145 (by decide) (by decide)).1
    refine ⟨?_, ?_⟩
    · rw [g4 145 n (by omega) (by rw [k145]; simp [fxk, kdL])]; exact a0
    · rw [(g3 _ (by omega)).1]; exact a1
end Fsc
