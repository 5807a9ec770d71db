-- ===== all steps =====
def Sd (o : Nat → Int32) (a : Nat → Int64) (w : Nat → Int32) (v : Nat → Int64) (z : Nat → Int32) (sk sa sw ts te es : Nat → Int32) (nt ny nn L f : Nat) (rS : Int32 → Mem → Option (Int32 × Mem)) (d y s b N : Nat) (dd c c2 m m2 t t2 : Nat) : Prop :=
  (c ≤ c2 ∧ m ≤ m2 ∧ t ≤ t2 ∧ ∀ i, t ≤ i → i < t2 → ∃ p p', ts i = ni p ∧ te i = ni p' ∧ c ≤ p ∧ p ≤ p' ∧ p' ≤ c2) ∧
  ∀ (A B : Mem) (F wi : Nat), Cs o a w v z nn L d y s c b A B → Sx sk sa sw ts te es nt ny y s A B → wi + dd ≤ 3 → m2 - m < F → c2 < nn → m2 ≤ N → t2 ≤ ny → nst B < f → (∀ i, t2 ≤ i → i < ny → ∃ p, ts i = ni p ∧ c2 ≤ p ∧ p < 2000) →
    (∃ F' A' B', Ps rS d y b N wi wi wi (m2 - m) (13 * (c2 - c)) F m A B F' m2 A' B' ∧ Cs o a w v z nn L d y s c2 b A' B') ∨ SdT rS ts te L d y s b N wi wi (m2 - m) (13 * (c2 - c)) c c2 t t2 F m A B
section Sda
variable {o : Nat → Int32} {a : Nat → Int64} {w : Nat → Int32} {v : Nat → Int64} {z : Nat → Int32} {nn : Nat} {L f d y s pc b q sp N F wi m : Nat} {rS : Int32 → Mem → Option (Int32 × Mem)} {sk sa sw ts te es : Nat → Int32} {nt ny : Nat} {A B A' B' : Mem}
theorem Cs.n1024 (h : Cs o a w v z nn L d y s pc b A B) : nn ≤ 1024 := by
  obtain ⟨q, -, C⟩ := h; exact C.2.1.1.2.2.2.1
/-- where a part has caught -/
theorem caught {e : Nat} (hC : Cs o a w v z nn L d y s pc b A B) (mi : Mi L A' B') {pc' q' : Nat} (hq' : q' ≤ 12) (fr : FrAt A' d y s pc' b q' 1) (dep : gi A' 144 2 = ni (d + 1)) (e63 : gi B' 181 63 = ni b) (fa : FA d b A A') (fb : FB b B B') (py : Py y wi B B') : Cs o a w v z nn L d y s e b (si (si A' 144 4 (ni b)) (146 + d) 2 (ni e)) B' ∧ FA d b A (si (si A' 144 4 (ni b)) (146 + d) 2 (ni e)) := by
  obtain ⟨q, hq, C⟩ := hC
  have hd := C.d31
  obtain ⟨f0, f1, f2, f3, f4, f5⟩ := fr
  have pa : PA A' (si (si A' 144 4 (ni b)) (146 + d) 2 (ni e)) := (frv_si (by omega)).tr (frv_si (by omega))
  have fa2 : FA d b A (si (si A' 144 4 (ni b)) (146 + d) 2 (ni e)) := FrV.tr fa ((frv_si (by omega)).tr (frv_si (by omega)))
  have fj : ∀ j, j ≠ 2 → gi (si (si A' 144 4 (ni b)) (146 + d) 2 (ni e)) (146 + d) j = gi A' (146 + d) j := fun j h2 => by rw [si_ff' h2, gi_ne (by omega)]
  refine ⟨⟨q', hq', mi_p mi pa FrV.rf, rw_q C.2.1 fa2.q fb.q, ⟨(fj 0 (by omega)).trans f0, f1, si_eq, (fj 3 (by omega)).trans f3, (fj 4 (by omega)).trans f4, (fj 5 (by omega)).trans f5⟩, ⟨?_, ?_, e63, fun k hk => ?_⟩, ?_⟩, fa2⟩
  · rw [gi_ne (by omega), si_ff' (by omega)]; exact dep
  · rw [gi_ne (by omega), si_eq]
  · rw [fa2.2.2.2.2 177 k (by omega), fb.2.2.2.2 219 k (by omega)]; exact C.2.2.2.1.2.2.2 k hk
  · have := py.nst; have := C.2.2.2.2; omega
theorem sd_nil {dd c m t : Nat} : Sd o a w v z sk sa sw ts te es nt ny nn L f rS d y s b N dd c c m m t t :=
  ⟨⟨Nat.le_refl _, Nat.le_refl _, Nat.le_refl _, fun i i1 i2 => by omega⟩, fun A B F wi hC _ _ _ _ _ _ _ _ => Or.inl ⟨F, A, B, ⟨by omega, rfl, ⟨0, Go.rf, by omega⟩, FrV.rf, FrV.rf, Py.rf⟩, hC⟩⟩
theorem sd_jump {dd c c1 c2 m m2 t t2 : Nat} (h1 : o c = 14) (h2 : a c = nl c1) (h3 : c < c1) (ih : Sd o a w v z sk sa sw ts te es nt ny nn L f rS d y s b N dd c1 c2 m m2 t t2) : Sd o a w v z sk sa sw ts te es nt ny nn L f rS d y s b N dd c c2 m m2 t t2 := by
  obtain ⟨⟨r1, r2, r3, r4⟩, ih⟩ := ih
  refine ⟨⟨by omega, r2, r3, fun i i1 i2 => ?_⟩, fun A B F wi hC hS hw hF hc hm ht hn hT => ?_⟩
  · obtain ⟨p, p', p1, p2, p3, p4, p5⟩ := r4 i i1 i2
    exact ⟨p, p', p1, p2, by omega, p4, p5⟩
  · obtain ⟨A1, P1, C1⟩ := ps_jump (rS := rS) (N := N) (wi := wi) (F := F) (m := m) hC h1 h2 (by omega)
    rcases ih A1 B F wi C1 (hS.fr P1.2.2.2.1 P1.2.2.2.2.1 P1.2.2.2.2.2) hw hF hc hm ht hn hT with ⟨F', A2, B2, P2, C2⟩ | T
    · exact Or.inl ⟨F', A2, B2, (P1.tr P2 (Nat.le_refl _)).le (by omega) (by omega), C2⟩
    · exact Or.inr ((P1.thr T rfl (Nat.le_refl _)).le (by omega) (by omega) (by omega) (Nat.le_refl _) (Nat.le_refl _) (fun pc i _ _ z1 z2 => Or.inl ⟨z1, z2⟩))
theorem sd_one {dd c c1 c2 m m2 t t2 k : Nat} (hc1 : c < c1) (hk : k ≤ 13 * (c1 - c)) (ih : Sd o a w v z sk sa sw ts te es nt ny nn L f rS d y s b N dd c1 c2 (m + 1) m2 t t2)
    (one : ∀ (A B : Mem) (F wi : Nat), Cs o a w v z nn L d y s c b A B → Sx sk sa sw ts te es nt ny y s A B → wi ≤ 3 → c1 ≤ nn → m < N → nst B < f → (∃ A' B', Ps rS d y b N wi wi wi 1 k (F + 1) m A B F (m + 1) A' B' ∧ Cs o a w v z nn L d y s c1 b A' B') ∨ SdT rS ts te L d y s b N wi wi 1 k c c1 0 0 (F + 1) m A B) :
    Sd o a w v z sk sa sw ts te es nt ny nn L f rS d y s b N dd c c2 m m2 t t2 := by
  obtain ⟨⟨r1, r2, r3, r4⟩, ih⟩ := ih
  refine ⟨⟨by omega, by omega, r3, fun i i1 i2 => ?_⟩, fun A B F wi hC hS hw hF hc hm ht hn hT => ?_⟩
  · obtain ⟨p, p', p1, p2, p3, p4, p5⟩ := r4 i i1 i2
    exact ⟨p, p', p1, p2, by omega, p4, p5⟩
  · have hnn := hC.n1024
    obtain ⟨G, rfl⟩ : ∃ g, F = g + 1 := ⟨F - 1, by omega⟩
    rcases one A B G wi hC hS (by omega) (by omega) (by omega) hn with ⟨A1, B1, P1, C1⟩ | T
    · have n1 := P1.2.2.2.2.2.nst
      rcases ih A1 B1 G wi C1 (hS.fr P1.2.2.2.1 P1.2.2.2.2.1 P1.2.2.2.2.2) hw (by omega) hc hm ht (by omega) hT with ⟨F', A2, B2, P2, C2⟩ | T
      · exact Or.inl ⟨F', A2, B2, (P1.tr P2 (Nat.le_refl _)).le (by omega) (by omega), C2⟩
      · exact Or.inr ((P1.thr T rfl (Nat.le_refl _)).le (by omega) (by omega) (by omega) (Nat.le_refl _) (Nat.le_refl _) (fun pc i _ _ z1 z2 => Or.inl ⟨z1, z2⟩))
    · refine Or.inr (T.le (by omega) (by omega) (Nat.le_refl _) (by omega) (Nat.le_refl _) (fun pc i p1 p2 z1 z2 => Or.inr (Or.inl ?_)))
      obtain ⟨p, p', q1, q2, q3, q4, q5⟩ := r4 i z1 z2
      rw [q1]; exact (ni_lt (by omega) (by omega)).mpr (by omega)
theorem sd_try {dd c cb ce c2 m mb me m2 t tb t1 t2 : Nat} (hN : N ≤ 120) (h1 : ts t = ni c) (i1 : Sd o a w v z sk sa sw ts te es nt ny nn L f rS d y s b N dd c cb (m + 1) mb (t + 1) tb) (h3 : o cb = 14) (h4 : a cb = nl ce) (h5 : te t = ni (cb + 1)) (h6 : es t = ni (cb + 1))
    (i2 : Sd o a w v z sk sa sw ts te es nt ny nn L f rS d y s b N dd (cb + 1) ce (mb + 1) me tb t1) (h8 : sk m = 2) (h9 : sw m = ni (mb + 1)) (h10 : sk mb = 3) (h11 : sw mb = ni me) (h12 : sk me = 4) (i3 : Sd o a w v z sk sa sw ts te es nt ny nn L f rS d y s b N (dd + 1) ce c2 (me + 1) m2 t1 t2) :
    Sd o a w v z sk sa sw ts te es nt ny nn L f rS d y s b N (dd + 1) c c2 m m2 t t2 := by
  obtain ⟨⟨a1, a2, a3, a4⟩, i1⟩ := i1
  obtain ⟨⟨b1, b2, b3, b4⟩, i2⟩ := i2
  obtain ⟨⟨c1, c2', c3, c4⟩, i3⟩ := i3
  refine ⟨⟨by omega, by omega, by omega, fun i x1 x2 => ?_⟩, fun A B F wi hC hS hw hF hc hm ht hn hT => ?_⟩
  · by_cases e0 : i = t
    · subst e0; exact ⟨c, cb + 1, h1, h5, Nat.le_refl _, by omega, by omega⟩
    · by_cases e1 : i < tb
      · obtain ⟨p, p', p1, p2, p3, p4, p5⟩ := a4 i (by omega) e1; exact ⟨p, p', p1, p2, by omega, p4, by omega⟩
      · by_cases e2 : i < t1
        · obtain ⟨p, p', p1, p2, p3, p4, p5⟩ := b4 i (by omega) e2; exact ⟨p, p', p1, p2, by omega, p4, by omega⟩
        · obtain ⟨p, p', p1, p2, p3, p4, p5⟩ := c4 i (by omega) x2; exact ⟨p, p', p1, p2, by omega, p4, by omega⟩
  have hnn := hC.n1024
  obtain ⟨G, rfl⟩ : ∃ g, F = g + 1 := ⟨F - 1, by omega⟩
  -- later tries lie behind
  have later : ∀ i, tb ≤ i → i < ny → ∃ p, ts i = ni p ∧ cb + 1 ≤ p ∧ p < 2000 := fun i x1 x2 => by
    by_cases e2 : i < t1
    · obtain ⟨p, p', p1, p2, p3, p4, p5⟩ := b4 i x1 e2; exact ⟨p, p1, by omega, by omega⟩
    · by_cases e3 : i < t2
      · obtain ⟨p, p', p1, p2, p3, p4, p5⟩ := c4 i (by omega) e3; exact ⟨p, p1, by omega, by omega⟩
      · obtain ⟨p, p1, p2, p3⟩ := hT i (by omega) x2; exact ⟨p, p1, by omega, p3⟩
  have later1 : ∀ i, t1 ≤ i → i < ny → ∃ p, ts i = ni p ∧ ce ≤ p ∧ p < 2000 := fun i x1 x2 => by
    by_cases e3 : i < t2
    · obtain ⟨p, p', p1, p2, p3, p4, p5⟩ := c4 i (by omega) e3; exact ⟨p, p1, by omega, by omega⟩
    · obtain ⟨p, p1, p2, p3⟩ := hT i (by omega) x2; exact ⟨p, p1, by omega, p3⟩
  have y30 := hS.2.2.2.2.2
  -- into the part
  have pbx : PB B (si B 221 (3 * y + wi) (sw m)) := frv_si (by omega)
  have fbx : FB b B (si B 221 (3 * y + wi) (sw m)) := frv_si (by omega)
  have pyx : Py y wi B (si B 221 (3 * y + wi) (sw m)) := fun u hu => by
    refine ⟨fun ne => Or.inl ⟨by rw [gi_ne (by omega)], by rw [gi_ne (by omega)], fun j hj => by rw [gi_si, if_neg (by omega)]⟩, fun e => ⟨by rw [gi_ne (by omega)], by rw [gi_ne (by omega)], fun j hj => by rw [gi_si, if_neg (by omega)]⟩⟩
  have P0 : Ps rS d y b N wi (wi + 1) wi 1 0 (G + 1) m A B G (m + 1) A (si B 221 (3 * y + wi) (sw m)) := ⟨by omega, d24_2 hS (by omega) hN h8 (by omega), ⟨0, Go.rf, by rw [pbx.nst]; omega⟩, FrV.rf, fbx, pyx⟩
  have C0 : Cs o a w v z nn L d y s c b A (si B 221 (3 * y + wi) (sw m)) := by
    obtain ⟨q, hq, C⟩ := hC
    exact ⟨q, hq, mi_p C.1 FrV.rf pbx, rw_q C.2.1 FrV.rf pbx.q, C.2.2.1, ⟨C.2.2.2.1.1, C.2.2.2.1.2.1, by rw [gi_ne (by omega)]; exact C.2.2.2.1.2.2.1, C.2.2.2.1.2.2.2⟩, by rw [pbx.nst]; exact C.2.2.2.2⟩
  have S0 : Sx sk sa sw ts te es nt ny y s A (si B 221 (3 * y + wi) (sw m)) := hS.fr (d := d) (b := b) FrV.rf fbx pyx
  -- the end of the part
  have last : ∀ {F1 n k : Nat} {A1 B1 : Mem}, Ps rS d y b N wi wi wi n k (G + 1) m A B (F1 + 1) me A1 B1 → n + 1 + (m2 - (me + 1)) ≤ m2 - m → k + 13 * (c2 - ce) ≤ 13 * (c2 - c) → Cs o a w v z nn L d y s ce b A1 B1 → (∃ F' A' B', Ps rS d y b N wi wi wi (m2 - m) (13 * (c2 - c)) (G + 1) m A B F' m2 A' B' ∧ Cs o a w v z nn L d y s c2 b A' B') ∨ SdT rS ts te L d y s b N wi wi (m2 - m) (13 * (c2 - c)) c c2 t t2 (G + 1) m A B := by
    intro F1 n k A1 B1 P1 hn1 hk1 C1
    have S1 := hS.fr P1.2.2.2.1 P1.2.2.2.2.1 P1.2.2.2.2.2
    have P2 : Ps rS d y b N wi wi wi 1 0 (F1 + 1) me A1 B1 F1 (me + 1) A1 B1 := ⟨by omega, d24_4 S1 (by omega) hN h12, ⟨0, Go.rf, by omega⟩, FrV.rf, FrV.rf, Py.rf⟩
    have P12 := P1.tr P2 (Nat.le_refl _)
    have n1 := P12.2.2.2.2.2.nst
    have f1 := P12.1
    rcases i3 A1 B1 F1 wi C1 S1 hw (by omega) hc hm ht (by omega) hT with ⟨F', A2, B2, P3, C3⟩ | T
    · exact Or.inl ⟨F', A2, B2, (P12.tr P3 (Nat.le_refl _)).le (by omega) (by omega), C3⟩
    · refine Or.inr ((P12.thr T rfl (Nat.le_refl _)).le (by omega) (by omega) (by omega) (Nat.le_refl _) (Nat.le_refl _) (fun pc i p1 p2 z1 z2 => ?_))
      by_cases e2 : t1 ≤ i
      · exact Or.inl ⟨e2, z2⟩
      · refine Or.inr (Or.inr ?_)
        have : ∃ p', te i = ni p' ∧ p' ≤ ce := by
          by_cases e0 : i = t
          · subst e0; exact ⟨cb + 1, h5, by omega⟩
          · by_cases e1 : i < tb
            · obtain ⟨p, p', q1, q2, q3, q4, q5⟩ := a4 i (by omega) e1; exact ⟨p', q2, by omega⟩
            · obtain ⟨p, p', q1, q2, q3, q4, q5⟩ := b4 i (by omega) (by omega); exact ⟨p', q2, q5⟩
        obtain ⟨p', q1, q2⟩ := this
        rw [q1]; exact (ni_le (by omega) (by omega)).mpr (by omega)
  rcases i1 A _ G (wi + 1) C0 S0 (by omega) (by omega) (by omega) (by omega) (by omega) (by rw [pbx.nst]; exact hn) (fun i x1 x2 => by obtain ⟨p, p1, p2, p3⟩ := later i x1 x2; exact ⟨p, p1, by omega, p3⟩) with ⟨F1, A1, B1, P1, C1⟩ | T
  · -- the part went well: over its else
    have S1 := S0.fr P1.2.2.2.1 P1.2.2.2.2.1 P1.2.2.2.2.2
    have P01 := P0.tr P1 (by omega)
    have f1 := P01.1
    obtain ⟨H, rfl⟩ : ∃ g, F1 = g + 1 + 1 := ⟨F1 - 2, by omega⟩
    obtain ⟨A2, P2, C2⟩ := ps_jump (rS := rS) (N := N) (wi := wi + 1) (F := H + 1 + 1) (m := mb) C1 h3 h4 (by omega)
    have S2 := S1.fr P2.2.2.2.1 P2.2.2.2.2.1 P2.2.2.2.2.2
    have P3 : Ps rS d y b N (wi + 1) wi wi 1 0 (H + 1 + 1) mb A2 B1 (H + 1) me A2 B1 := ⟨by omega, d24_3 S2 (by omega) hN h10 h11 (by omega), ⟨0, Go.rf, by omega⟩, FrV.rf, FrV.rf, Py.rf⟩
    exact last (((P01.tr P2 (by omega)).tr P3 (Nat.le_refl _))) (by omega) (by omega) C2
  · -- it threw: its else
    obtain ⟨F1, x, B1, mm, u, j, A1, g1, g2, g3, g4, g5, g6, g7, g8, ⟨pc, q', hq', p2, p3, p4, p5⟩, g10, g11, g12, g13⟩ := T
    have e1 : gi B1 221 (3 * y + wi) = ni (mb + 1) := by
      rw [((g13 y y30).2 rfl).2.2 wi (by omega), si_eq]; exact h9
    rw [d196_s g2.1 y30 (by omega) e1] at g3
    have go := g5.catch g6 g10 p5 (S0.2.1.q g11.q) (k := t) (by omega) (e := cb + 1) (by omega) h6 (by rw [h1]; exact fun e => by have := (ni_lt (by omega) (by omega)).mp e; omega) (by rw [h5]; exact fun e => by have := (ni_le (by omega) (by omega)).mp e; omega) (fun i x1 x2 => by
      by_cases e2 : i < tb
      · exact p4 i (by omega) e2
      · obtain ⟨p, q1, q2, q3⟩ := later i (by omega) x2
        exact Or.inl (by rw [q1]; exact (ni_lt (by omega) (by omega)).mpr (by omega)))
    obtain ⟨C2, fa2⟩ := caught (e := cb + 1) C0 g8 hq' p5 g10 g4 g11 g12 g13
    have P2 : Ps rS d y b N (wi + 1) wi (wi + 1) (mb - (m + 1)) (13 * (cb - c)) G (m + 1) A _ F1 (mb + 1) _ B1 := ⟨g1, g3, ⟨u, go, g7⟩, fa2, g12, g13⟩
    have P02 := P0.tr P2 (by omega)
    have f2 := P02.1
    have n2 := P02.2.2.2.2.2.nst
    have S2 := hS.fr P02.2.2.2.1 P02.2.2.2.2.1 P02.2.2.2.2.2
    rcases i2 _ B1 F1 wi C2 S2 (by omega) (by omega) (by omega) (by omega) (by omega) (by omega) later1 with ⟨F3, A3, B3, P3, C3⟩ | T
    · have P03 := P02.tr P3 (Nat.le_refl _)
      have f3 := P03.1
      obtain ⟨H, rfl⟩ : ∃ g, F3 = g + 1 := ⟨F3 - 1, by omega⟩
      exact last P03 (by omega) (by omega) C3
    · refine Or.inr ((P02.thr T rfl (Nat.le_refl _)).le (by omega) (by omega) (by omega) (by omega) (Nat.le_refl _) (fun pc i x1 x2 z1 z2 => ?_))
      by_cases e0 : i < tb
      · refine Or.inr (Or.inr ?_)
        have : ∃ p', te i = ni p' ∧ p' ≤ cb + 1 := by
          by_cases e0 : i = t
          · subst e0; exact ⟨cb + 1, h5, Nat.le_refl _⟩
          · obtain ⟨p, p', q1, q2, q3, q4, q5⟩ := a4 i (by omega) (by omega); exact ⟨p', q2, by omega⟩
        obtain ⟨p', q1, q2⟩ := this
        rw [q1]; exact (ni_le (by omega) (by omega)).mpr (by omega)
      · by_cases e2 : i < t1
        · exact Or.inl ⟨by omega, e2⟩
        · obtain ⟨p, q1, q2, q3⟩ := later1 i (by omega) (by omega)
          exact Or.inr (Or.inl (by rw [q1]; exact (ni_lt (by omega) (by omega)).mpr (by omega)))
theorem sd_all {dd c c2 m m2 t t2 : Nat} {ld : Int32} (hb : b ≤ 40 * d) (hNd : NdS L f rS) (hN : N ≤ 120) (T : T2 y ld o a w v z sk sa sw ts te es nt dd c c2 m m2 t t2) : Sd o a w v z sk sa sw ts te es nt ny nn L f rS d y s b N dd c c2 m m2 t t2 := by
  refine T (fun dd c c2 m m2 t t2 => Sd o a w v z sk sa sw ts te es nt ny nn L f rS d y s b N dd c c2 m m2 t t2) ⟨?_, ?_, ?_, ?_, ?_⟩
  · intro dd c m t; exact sd_nil
  · intro dd c c1 c2 m m2 t t2 h1 h2 h3 h4; exact sd_jump h1 h2 h3 h4
  · intro dd c c2 m m2 t t2 r n q h1 h2 h3 h4 h5 h6 h7 h8 h9 h10 h11
    exact sd_one (k := 13 * (n + 2)) (by omega) (by omega) h11 (fun A B F wi hC hS hw hc hm hn => ps_table hb hNd hC hS hm hN hw hn h1 h2 h3 h4 h5 h6 h7 h8 h9 h10 (by omega))
  · intro dd c c2 m m2 t t2 r n q h1 h2 h3 h4 h5 h6 h7 h8 h9 h10 h11
    exact sd_one (k := 13 * (n + 1)) (by omega) (by omega) h11 (fun A B F wi hC hS hw hc hm hn => ps_check hb hNd hC hS hm hN hw hn h1 h2 h3 h4 h5 h6 h7 h8 h9 h10 (by omega))
  · intro dd c cb ce c2 m mb me m2 t tb t1 t2 h1 h2 h3 h4 h5 h6 h7 h8 h9 h10 h11 h12 h13
    exact sd_try hN h1 h2 h3 h4 h5 h6 h7 h8 h9 h10 h11 h12 h13
end Sda
