-- ===== a class starts, comes to its end, or is withdrawn =====
theorem nst_set {B : Mem} {Y : Nat} {x : Int32} (hY : Y < 30) (h : gi B 212 Y = 1) (hx : ¬ x = 1) : nst (si B 212 Y x) + 1 ≤ nst B := by
  refine cnt_lt (j := Y) (fun k hk e => ?_) hY ?_ (decide_eq_true h)
  · have e := of_decide_eq_true e
    rw [gi_si] at e
    by_cases q : k = Y
    · rw [if_pos ⟨rfl, q⟩] at e; exact absurd e hx
    · rw [if_neg (fun z => q z.2)] at e; exact decide_eq_true e
  · rw [decide_eq_false_iff_not, si_eq]; exact hx
theorem nst_same {B : Mem} {Y : Nat} {x : Int32} (h : ¬ gi B 212 Y = 1) (hx : ¬ x = 1) : nst (si B 212 Y x) = nst B := by
  refine cnt_eq fun k hk => ?_
  rw [gi_si]
  by_cases q : k = Y
  · rw [if_pos ⟨rfl, q⟩, q, decide_eq_false hx, decide_eq_false h]
  · rw [if_neg (fun z => q z.2)]
/-- the class of Y comes to phase x with thrown u -/
theorem mi_phase {L Y : Nat} {A B : Mem} {x u : Int32} (h : Mi L A B) (hY : Y < 30) (h1 : ¬ gi B 212 Y = 1) (hx : x = 2 ∨ x = 3) : Mi L (si (si A (21 + 4 * Y) 1 x) (21 + 4 * Y) 3 u) (si (si B 212 Y x) 214 Y u) := by
  have x1 : ¬ x = 1 := by rcases hx with rfl | rfl <;> decide
  refine mi_mk h ((frv_si (by omega)).tr (frv_si (by omega))) ((frv_si (by omega)).tr (frv_si (by omega))) (by rw [gi_ne (by omega), gi_ne (by omega)]) (by rw [gi_ne (by omega), gi_ne (by omega)]) rfl (fun y hy => ?_) ?_
  · unfold Dy1
    obtain ⟨⟨d1, d2, d3⟩, d4, d5⟩ := h.2.2.2.2.2.1 y hy
    rw [gi_ne (show 212 ≠ 214 by omega), gi_ne (show 215 ≠ 214 by omega), gi_ne (show 215 ≠ 212 by omega)]
    by_cases e : y = Y
    · subst e
      refine ⟨⟨?_, ?_, ?_⟩, d4, fun _ => ?_⟩
      · rw [si_ff' (by omega), si_eq, si_eq]
      · rw [si_eq, si_eq]
      · rw [si_ff' (by omega), si_ff' (by omega)]; exact d3
      · rw [si_eq]
        rcases hx with rfl | rfl
        · exact Or.inr (Or.inl rfl)
        · exact Or.inr (Or.inr (Or.inl rfl))
    · rw [gi_ne (show 21 + 4 * y ≠ 21 + 4 * Y by omega), gi_ne (show 21 + 4 * y ≠ 21 + 4 * Y by omega), gi_si, if_neg (fun z => e z.2), gi_si (a := 214), if_neg (fun z => e z.2), gi_ne (show 214 ≠ 212 by omega)]
      exact ⟨⟨d1, d2, d3⟩, d4, d5⟩
  · obtain ⟨n, n1, n2, n3, n4⟩ := h.2.2.2.2.2.2
    refine ⟨n, ?_, ?_, ?_, ?_⟩
    · rw [nst_eq (gi_ne (by omega)), nst_same h1 x1]; exact n1
    · rw [gi_ne (by omega), gi_ne (by omega)]; exact n2
    · rw [gi_ne (by omega), gi_ne (by omega)]; exact n3
    · rw [gi_ne (show 179 ≠ 21 + 4 * Y by omega), gi_ne (show 179 ≠ 21 + 4 * Y by omega), gi_ne (show 220 ≠ 214 by omega), gi_ne (show 220 ≠ 212 by omega)]; exact n4
/-- what both have once a class has begun to start -/
def bgA (A : Mem) (Y n : Nat) : Mem := si (if n < 300 then si (si A (21 + 4 * Y) 1 4) 179 n (ni Y) else si A (21 + 4 * Y) 1 4) 144 8 (ni (n + 1))
def bgB (B : Mem) (Y n : Nat) : Mem := si (if n < 300 then si (si B 212 Y 4) 220 n (ni (1700 + Y)) else si B 212 Y 4) 181 66 (ni (n + 1))
theorem bgA_wa {A : Mem} {Y n D sp : Nat} (hY : Y < 30) : FA D sp A (bgA A Y n) := by
  unfold bgA
  split
  · exact ((frv_si (by omega)).tr (frv_si (by omega))).tr (frv_si (by omega))
  · exact (frv_si (by omega)).tr (frv_si (by omega))
theorem bgB_wb {B : Mem} {Y n sp : Nat} : FB sp B (bgB B Y n) := by
  unfold bgB
  split
  · exact ((frv_si (by omega)).tr (frv_si (by omega))).tr (frv_si (by omega))
  · exact (frv_si (by omega)).tr (frv_si (by omega))
theorem bgB_212 {B : Mem} {Y n : Nat} : gi (bgB B Y n) 212 = gi (si B 212 Y 4) 212 := by
  unfold bgB
  rw [gi_ne (by omega)]
  split
  · rw [gi_ne (by omega)]
  · rfl
theorem bgB_o {B : Mem} {Y n a : Nat} (h : a ≠ 212) (h1 : a ≠ 220) (h2 : a ≠ 181) : gi (bgB B Y n) a = gi B a := by
  unfold bgB
  rw [gi_ne h2]
  split
  · rw [gi_ne h1, gi_ne h]
  · rw [gi_ne h]
theorem bgA_t {A : Mem} {Y n y : Nat} (hy : y < 30) (hY : Y < 30) : gi (bgA A Y n) (21 + 4 * y) = gi (si A (21 + 4 * Y) 1 4) (21 + 4 * y) := by
  unfold bgA
  rw [gi_ne (by omega)]
  split
  · rw [gi_ne (by omega)]
  · rfl
theorem bg_gl {A B : Mem} {Y n : Nat} : gl (bgA A Y n) = gl A ∧ gl (bgB B Y n) = gl B ∧ gr (bgA A Y n) = gr A ∧ gr (bgB B Y n) = gr B := by
  unfold bgA bgB
  constructor
  · split <;> rfl
  · constructor
    · split <;> rfl
    · constructor
      · split <;> rfl
      · split <;> rfl
theorem mi_begin {L Y n : Nat} {A B : Mem} (h : Mi L A B) (hY : Y < 30) (h1 : gi B 212 Y = 1) (hn : gi A 144 8 = ni n) (hn' : gi B 181 66 = ni n) (hs : n + nst B ≤ L) (hr : ∀ k, k < n → k < 300 → ∃ y, y < 30 ∧ gi A 179 k = ni y ∧ gi B 220 k = ni (1700 + y)) (hg : gr A (21 + 4 * Y) 0 ≠ none) : Mi L (bgA A Y n) (bgB B Y n) ∧ nst (bgB B Y n) + 1 ≤ nst B := by
  have ns : nst (bgB B Y n) + 1 ≤ nst B := by
    rw [nst_eq bgB_212]; exact nst_set hY h1 (by decide)
  refine ⟨mi_mk h (bgA_wa (D := 0) (sp := 0) hY).q (bgB_wb (sp := 0)).q ?_ (bgB_o (by omega) (by omega) (by omega)) (by rw [bg_gl (A := A).2.1]) (fun y hy => ?_) ?_, ns⟩
  · unfold bgB
    rw [si_ff' (by omega)]
    split
    · rw [gi_ne (by omega), gi_ne (by omega)]
    · rw [gi_ne (by omega)]
  · unfold Dy1
    obtain ⟨⟨d1, d2, d3⟩, d4, d5⟩ := h.2.2.2.2.2.1 y hy
    rw [bgA_t hy hY, bgB_212, bgB_o (a := 214) (by omega) (by omega) (by omega), bgB_o (a := 215) (by omega) (by omega) (by omega), (bg_gl (A := A) (B := B)).1, (bg_gl (A := A) (B := B)).2.1, (bg_gl (A := A) (B := B)).2.2.1]
    by_cases e : y = Y
    · subst e
      refine ⟨⟨?_, ?_, ?_⟩, d4, fun _ => ?_⟩
      · rw [si_eq, si_eq]
      · rw [si_ff' (by omega)]; exact d2
      · rw [si_ff' (by omega)]; exact d3
      · rw [si_eq]
        refine Or.inr (Or.inr (Or.inr ⟨rfl, ?_⟩))
        rcases d5 hg with h | h | h | h
        · exact h.2
        · rw [h1] at h; exact absurd h (by decide)
        · rw [h1] at h; exact absurd h (by decide)
        · exact h.2
    · rw [gi_ne (show 21 + 4 * y ≠ 21 + 4 * Y by omega), gi_si, if_neg (fun z => e z.2)]
      exact ⟨⟨d1, d2, d3⟩, d4, d5⟩
  · refine ⟨n + 1, by omega, ?_, ?_, fun k k1 k2 => ?_⟩
    · unfold bgA; exact si_eq
    · unfold bgB; exact si_eq
    · unfold bgA bgB
      rw [gi_ne (show 179 ≠ 144 by omega), gi_ne (show 220 ≠ 181 by omega)]
      by_cases e : n < 300
      · rw [if_pos e, if_pos e]
        by_cases q : k = n
        · rw [q]; exact ⟨Y, hY, si_eq, si_eq⟩
        · rw [si_ff' q, si_ff' q, gi_ne (show 179 ≠ 21 + 4 * Y by omega), gi_ne (show 220 ≠ 212 by omega)]; exact hr k (by omega) k2
      · rw [if_neg e, if_neg e, gi_ne (show 179 ≠ 21 + 4 * Y by omega), gi_ne (show 220 ≠ 212 by omega)]; exact hr k (by omega) k2
