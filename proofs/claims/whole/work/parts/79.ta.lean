-- ===== whole formulas =====
section Wk
variable {o : Nat → Int32} {a : Nat → Int64} {w : Nat → Int32} {v : Nat → Int64} {z : Nat → Int32} {nn : Nat} {L f d y s pc b q qr sp : Nat} {st : Int32} {A B A1 B1 : Mem} {rS : Int32 → Mem → Option (Int32 × Mem)}
theorem ev_all {mo c r n h : Nat} {ld : Int32} (hb : b ≤ 40 * d) (hN : NdS L f rS) (hq : mo = 1 → q = qr) (e : E2 false mo y ld o a w v z c r n h) : 1 ≤ n ∧ 1 ≤ h ∧ Ev o a w v z nn L f rS d y s b q qr st mo c r n h := by
  refine e (fun c r n h => 1 ≤ n ∧ 1 ≤ h ∧ Ev o a w v z nn L f rS d y s b q qr st mo c r n h) ⟨?_, ?_, ?_, ?_, ?_, ?_, ?_, ?_⟩
  · intro c r h n h1 h2 h3 h4 h5 h6
    exact ⟨Nat.le_refl _, h1, ev_num hb h1 h3 h4 h5 h6⟩
  · intro c r h h1 h2 h3 h4 h5
    refine ⟨Nat.le_refl _, h1, ?_⟩
    have := hq h3
    subst h3
    exact ev_at this hb h1 h4 h5
  · intro c r h j h1 h2 h3 h4 h5 h6 h7
    refine ⟨Nat.le_refl _, h1, ?_⟩
    subst h3
    exact ev_set hb h1 h4 h5 h6 h7
  · intro c r h h1 h2 h3 h4
    exact ⟨Nat.le_refl _, h1, ev_const hb h1 h2 h3 h4⟩
  · intro c r n h h1 h2 h3 h4 h5
    exact ⟨by omega, h2.2.1, ev_entry hb h2.2.1 hN h2.2.2 h3 h4 h5⟩
  · intro c r n h h1 h2 h3
    exact ⟨by omega, h1.2.1, ev_neg hb h1.2.1 h1.2.2 h2 h3⟩
  · intro c r n m h g h1 h2 h3 h4
    exact ⟨by omega, h1.2.1, ev_bin hb h1.2.2 h2.2.2 h3 h2.2.1 h4⟩
  · intro c r n m l h h1 h2 h3 h4 h5 h6 h7 h8 h9 h10 h11 h12
    exact ⟨by omega, h2.2.1, ev_cond hb h2.2.1 h2.2.2 h3 h4 h5 h6 h7.2.2 h8 h9 h10 h11 h12.2.2⟩
/-- where a formula has come to a number -/
def Wd (o : Nat → Int32) (a : Nat → Int64) (w : Nat → Int32) (v : Nat → Int64) (z : Nat → Int32) (nn L d y s pc b q : Nat) (st : Int32) (x : Int64) (A B : Mem) : Prop := Mi L A B ∧ Rw o a w v z nn s y A B ∧ FrAt A d y s pc b q st ∧ (gi A 144 2 = ni (d + 1) ∧ gi A 144 4 = ni (b + 1) ∧ gi B 181 63 = ni b ∧ ∀ k, k < b → gl A 177 k = gl B 219 k) ∧ d + 1 + nst B ≤ 31 ∧ gl A 177 b = x ∧ gl B 181 71 = x
/-- where something was thrown out of a formula -/
def Wt (L d y s b q : Nat) (st : Int32) (n c c2 : Nat) (x : Int32) (A B B' : Mem) : Prop := (¬ x = 0 ∧ ¬ x = -1) ∧ gi B' 181 63 = ni b ∧ ∃ t j A', Th A t x j A' ∧ j + d + 1 ≤ 31 ∧ t + 14000 * nst B' ≤ n + 14000 * nst B ∧ Mi L A' B' ∧ (∃ pc, c ≤ pc ∧ pc < c2 ∧ FrAt A' d y s pc b q st) ∧ gi A' 144 2 = ni (d + 1) ∧ FA d b A A' ∧ FB b B B' ∧ Ph B B'
theorem works_ok {mo c r n : Nat} {ld : Int32} (hb : b ≤ 40 * d) (hN : NdS L f rS) (hq : mo = 1 → q = qr) (e : E2 false mo y ld o a w v z c r n 37) (h11 : w (r + n) = 11) (hC : Cf o a w v z nn L d y s c b q st b A B) (hc : c + n < nn) (hr : r + n < 1200) (hn : nst B < f) (hm : mo = 2 → Stg A B) :
    (∃ x t A' B', S_X11_works rS (ni y) (ni r) (ni qr) B = some (0, B') ∧ Go A t A' ∧ t + 14000 * nst B' ≤ n + 14000 * nst B ∧ Wd o a w v z nn L d y s (c + n) b q st x A' B' ∧ FA d b A A' ∧ FB b B B' ∧ Ph B B') ∨
    (∃ x B', S_X11_works rS (ni y) (ni r) (ni qr) B = some (x, B') ∧ Wt L d y s b q st n c (c + n) x A B B') := by
  have hd := hC.d31
  have y30 := hC.y30
  have ew : S_X11_works rS (ni y) (ni r) (ni qr) B = W22 rS y b qr FU r 0 B := by
    unfold S_X11_works W22
    rw [hC.2.2.2.1.2.2.1, show (30 : Int32) + ni y = ni (30 + y) from ni_add 30 y, show (1200 : Int32) * ni (30 + y) = ni (1200 * (30 + y)) from ni_mul 1200 (30 + y)]
  rw [ew]
  have hFU : FU = 4000000 := rfl
  rcases (ev_all (nn := nn) (s := s) (st := st) hb hN hq e).2.2 A B b FU hC (by omega) (Nat.le_refl _) (by omega) hc hr hn hm with ⟨F', A1, B1, p, C1⟩ | ⟨t, x, j, A1, B1, h0, h1, h2, h3, h4, h5, h6, h7, h8, h9, h10⟩
  · obtain ⟨p1, p2, ⟨t, p3, p4⟩, p5, p6, p7⟩ := p
    obtain ⟨G, rfl⟩ : ∃ g, F' = g + 1 := ⟨F' - 1, by omega⟩
    obtain ⟨t1, t2, t3, t4⟩ := C1.2.2.2.1
    have pb : PB B1 (si (sl B1 181 71 (gl B1 219 b)) 181 63 (ni b)) := (frv_sl (by omega)).tr (frv_si (by omega))
    have fb : FB b B1 (si (sl B1 181 71 (gl B1 219 b)) 181 63 (ni b)) := (frv_sl (by omega)).tr (frv_si (by omega))
    have e5 : W22 rS y b qr (G + 1) (r + n) 0 B1 = some (0, si (sl B1 181 71 (gl B1 219 b)) 181 63 (ni b)) := by
      unfold W22
      rw [SJ_X11_works_22]; dsimp only
      rw [show ni (1200 * (30 + y)) + ni (r + n) = ni (1200 * (30 + y) + (r + n)) from ni_add _ _, gdT ((ni_inb (by omega)).mpr (by omega))]
      rw [if_pos (by rw [ni_tn (by omega)]; exact (C1.2.1.2.2 (r + n)).1.trans h11)]
      unfold SJ_X11_works_442 SJ_X11_works_462
      rw [if_neg (fun q => q rfl), t3, show ni (b + 1) - 1 = ni b from (ni_sub (a := b + 1) (b := 1) (by omega)).trans (congrArg ni (by omega)), gdT ((ni_inb (by omega)).mpr (by omega)), ni_tn (by omega)]
    refine Or.inl ⟨gl B1 219 b, t, A1, _, p2.trans e5, p3, by rw [pb.nst]; exact p4, ⟨mi_p C1.1 FrV.rf pb, rw_q C1.2.1 FrV.rf pb.q, C1.2.2.1, ⟨t1, t2, si_eq, fun k hk => t4 k (by omega)⟩, by rw [pb.nst]; exact C1.2.2.2.2, t4 b (by omega), ?_⟩, p5, p6.tr fb (Nat.le_refl _), p7.tr (ph_pb pb (gi_ne (M := sl B1 181 71 (gl B1 219 b)) (by omega)))⟩
    rw [gl_si]; exact sl_eq
  · have pb : PB B1 (si B1 181 63 (ni b)) := frv_si (by omega)
    have fb : FB b B1 (si B1 181 63 (ni b)) := frv_si (by omega)
    exact Or.inr ⟨x, _, h1, h0, si_eq, t, j, A1, h2, h3, by rw [pb.nst]; exact h4, mi_p h5 FrV.rf pb, h6, h7, h8, h9.tr fb (Nat.le_refl _), h10.tr (ph_pb pb (gi_ne (by omega)))⟩
end Wk
