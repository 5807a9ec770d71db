-- ===== the entries of a table, one by one =====
section Tbm
variable {o : Nat → Int32} {a : Nat → Int64} {w : Nat → Int32} {v : Nat → Int64} {z : Nat → Int32} {nn : Nat} {L f d y s pc b q sp : Nat} {rS : Int32 → Mem → Option (Int32 × Mem)}
theorem tab_1 {c r n qz i G : Nat} {ld : Int32} {A B : Mem} (hb : b ≤ 40 * d) (hN : NdS L f rS) (hE : E2 false 1 y ld o a w v z (c + 1) r n 37) (ho : o (c + 1 + n) = 18) (ha : a (c + 1 + n) = nl ((c + 1) * 8 + q)) (h11 : w (r + n) = 11) (hr : r + n < 1200) (hc : c + 1 + n < nn) (h12 : qz ≤ 12)
    (hi : i < qz) (hC : Cf o a w v z nn L d y s (c + 1) b i 1 b A B) (hsy : gr A (21 + 4 * y) 0 = some s) (hq : q < ln A (s + 5)) (hz : gi B 202 (6 * (30 + y) + q) = ni qz) (hn : nst B < f) :
    (∃ t A' B', SJ_X11_builds_19 rS (G + 1) (ni y) (ni q) (ni r) (ni qz) (ni i) B = SJ_X11_builds_19 rS G (ni y) (ni q) (ni r) (ni qz) (ni (i + 1)) B' ∧ Go A t A' ∧ t + 14000 * nst B' ≤ n + 1 + 14000 * nst B ∧ Cf o a w v z nn L d y s (if i + 1 < qz then c + 1 else c + 1 + n + 1) b (i + 1) 1 b A' B' ∧ FA d b A A' ∧ FB b B B' ∧ Ph B B') ∨
    (∃ x B', SJ_X11_builds_19 rS (G + 1) (ni y) (ni q) (ni r) (ni qz) (ni i) B = some (x, B') ∧ Wt L d y s b i 1 n (c + 1) (c + 1 + n) x A B B') := by
  have hd := hC.d31
  have y30 := hC.y30
  have g := hC.1.2.2.1 y y30
  rw [hsy] at g
  have l6 : ln A (s + 5) ≤ 6 := g.2.2.1.2.2.2.1.2.1
  have nn1 := hC.2.1.1.2.2.2.1
  rw [SJ_X11_builds_19]; dsimp only
  rw [if_neg (show ¬ ni qz ≤ ni i from fun e => by have := (ni_le (by omega) (by omega)).mp e; omega)]
  rcases works_ok (qr := i) hb hN (fun _ => rfl) hE h11 hC hc hr hn (fun e => absurd e (by decide)) with ⟨x, t, A1, B1, w1, go, ht, W1, fa, fb, ph⟩ | ⟨x, B1, w1, W1⟩
  · rw [w1, bS]; dsimp only
    rw [if_pos rfl, show (72 : Int32) * ni y + 12 * ni q + ni i = ni (72 * y + (12 * q + i)) by rw [show (72 : Int32) = ni 72 from rfl, show (12 : Int32) = ni 12 from rfl, ni_mul, ni_mul, ni_add, ni_add]; exact congrArg ni (by omega), gdT ((ni_inb (by omega)).mpr (by omega)), ni_tn (by omega), show ni i + 1 = ni (i + 1) from ni_add i 1, W1.2.2.2.2.2.2]
    have hsy1 : gr A1 (21 + 4 * y) 0 = some s := (fa.2.2.1 (21 + 4 * y) 0 (by omega)).trans hsy
    obtain ⟨A2, go2, C2, fa2, fb2⟩ := store1 (q := q) (qz := qz) (C := c + 1) W1 hsy1 (by rw [FrV.ln fa]; exact hq) ((fb.2.2.2.1 202 _ (by omega)).trans hz) h12 hi (by omega) (by omega) ho ha (by omega)
    exact Or.inl ⟨t + 1, A2, _, rfl, go.tr go2, by show _ + 14000 * nst B1 ≤ _; omega, C2, fa.tr fa2 (Nat.le_refl _), fb.tr fb2 (Nat.le_refl _), ph.tr (fun u hu => Or.inl ⟨rfl, rfl, fun _ _ => rfl⟩)⟩
  · rw [w1, bS]; dsimp only
    rw [if_neg W1.1.1]
    exact Or.inr ⟨x, B1, rfl, W1⟩
theorem Wt.le {n n' c c2 c' c2' : Nat} {st : Int32} {x : Int32} {A B B' : Mem} (h : Wt L d y s b q st n c c2 x A B B') (hn : n ≤ n') (hc : c' ≤ c) (hc2 : c2 ≤ c2') : Wt L d y s b q st n' c' c2' x A B B' := by
  obtain ⟨h1, h2, t, j, A', h3, h4, h5, h6, ⟨pc, h7, h8, h9⟩, h10⟩ := h
  exact ⟨h1, h2, t, j, A', h3, h4, by omega, h6, ⟨pc, by omega, by omega, h9⟩, h10⟩
theorem Wt.pre {n m t c c2 : Nat} {st : Int32} {x : Int32} {A B A1 B1 B' : Mem} (go : Go A t A1) (ht : t + 14000 * nst B1 ≤ m + 14000 * nst B) (fa : FA d b A A1) (fb : FB b B B1) (ph : Ph B B1) (h : Wt L d y s b q st n c c2 x A1 B1 B') : Wt L d y s b q st (m + n) c c2 x A B B' := by
  obtain ⟨h1, h2, u, j, A', h3, h4, h5, h6, h7, h8, h9, h10, h11⟩ := h
  exact ⟨h1, h2, t + u, j, A', go.th h3, h4, by omega, h6, h7, h8, fa.tr h9 (Nat.le_refl _), fb.tr h10 (Nat.le_refl _), ph.tr h11⟩
theorem tab_lp {c r n qz : Nat} {ld : Int32} (hb : b ≤ 40 * d) (hN : NdS L f rS) (hE : E2 false 1 y ld o a w v z (c + 1) r n 37) (ho : o (c + 1 + n) = 18) (ha : a (c + 1 + n) = nl ((c + 1) * 8 + q)) (h11 : w (r + n) = 11) (hr : r + n < 1200) (hc : c + 1 + n < nn) (h12 : qz ≤ 12) :
    ∀ {j i F : Nat} {A B : Mem}, i + (j + 1) = qz → j + 1 < F → Cf o a w v z nn L d y s (c + 1) b i 1 b A B → gr A (21 + 4 * y) 0 = some s → q < ln A (s + 5) → gi B 202 (6 * (30 + y) + q) = ni qz → nst B < f →
    (∃ t A' B', SJ_X11_builds_19 rS F (ni y) (ni q) (ni r) (ni qz) (ni i) B = some (0, B') ∧ Go A t A' ∧ t + 14000 * nst B' ≤ (j + 1) * (n + 1) + 14000 * nst B ∧ Cf o a w v z nn L d y s (c + 1 + n + 1) b qz 1 b A' B' ∧ FA d b A A' ∧ FB b B B' ∧ Ph B B') ∨
    (∃ x B' q', SJ_X11_builds_19 rS F (ni y) (ni q) (ni r) (ni qz) (ni i) B = some (x, B') ∧ q' ≤ 12 ∧ Wt L d y s b q' 1 ((j + 1) * (n + 1)) (c + 1) (c + 1 + n) x A B B') := by
  intro j
  induction j with
  | zero =>
    intro i F A B hj hF hC hsy hq hz hn
    obtain ⟨G, rfl⟩ : ∃ g, F = g + 1 + 1 := ⟨F - 2, by omega⟩
    rcases tab_1 (G := G + 1) hb hN hE ho ha h11 hr hc h12 (by omega) hC hsy hq hz hn with ⟨t, A', B', e1, go, ht, C1, fa, fb, ph⟩ | ⟨x, B', e1, W1⟩
    · rw [if_neg (by omega), show i + 1 = qz by omega] at C1
      refine Or.inl ⟨t, A', B', ?_, go, by omega, C1, fa, fb, ph⟩
      rw [e1, SJ_X11_builds_19]; dsimp only
      rw [show i + 1 = qz by omega, if_pos ((ni_le (by omega) (by omega)).mpr (Nat.le_refl _))]
    · exact Or.inr ⟨x, B', i, e1, by omega, W1.le (by omega) (Nat.le_refl _) (Nat.le_refl _)⟩
  | succ j ih =>
    intro i F A B hj hF hC hsy hq hz hn
    obtain ⟨G, rfl⟩ : ∃ g, F = g + 1 := ⟨F - 1, by omega⟩
    have y30 := hC.y30
    have em : (j + 1 + 1) * (n + 1) = (j + 1) * (n + 1) + (n + 1) := Nat.succ_mul _ _
    generalize (j + 1 + 1) * (n + 1) = M2 at em ⊢
    generalize (j + 1) * (n + 1) = M1 at em ih
    rcases tab_1 (G := G) hb hN hE ho ha h11 hr hc h12 (by omega) hC hsy hq hz hn with ⟨t, A', B', e1, go, ht, C1, fa, fb, ph⟩ | ⟨x, B', e1, W1⟩
    · rw [if_pos (by omega)] at C1
      have pn := ph.nst
      rcases ih (i := i + 1) (F := G) (by omega) (by omega) C1 ((fa.2.2.1 (21 + 4 * y) 0 (by omega)).trans hsy) (by rw [FrV.ln fa]; exact hq) ((fb.2.2.2.1 202 _ (by omega)).trans hz) (by omega) with ⟨t2, A2, B2, e2, go2, ht2, C2, fa2, fb2, ph2⟩ | ⟨x, B2, q', e2, hq', W2⟩
      · exact Or.inl ⟨t + t2, A2, B2, e1.trans e2, go.tr go2, by omega, C2, fa.tr fa2 (Nat.le_refl _), fb.tr fb2 (Nat.le_refl _), ph.tr ph2⟩
      · exact Or.inr ⟨x, B2, q', e1.trans e2, hq', (Wt.pre go ht fa fb ph W2).le (by omega) (Nat.le_refl _) (Nat.le_refl _)⟩
    · exact Or.inr ⟨x, B', i, e1, by omega, W1.le (by omega) (Nat.le_refl _) (Nat.le_refl _)⟩
end Tbm
