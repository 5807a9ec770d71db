-- ===== formulas in both: numbers, at, settings =====
/-- a formula works alike in both -/
def Ev (o : Nat → Int32) (a : Nat → Int64) (w : Nat → Int32) (v : Nat → Int64) (z : Nat → Int32) (nn L f : Nat) (rS : Int32 → Mem → Option (Int32 × Mem)) (d y s b q qr : Nat) (st : Int32) (mo c r n h : Nat) : Prop := ∀ (A B : Mem) (sp F : Nat), Cf o a w v z nn L d y s c b q st sp A B → sp + h ≤ b + 37 → b ≤ sp → n < F → c + n < nn → r + n < 1200 → nst B < f → (mo = 2 → Stg A B) →
  (∃ F' A' B', Pth rS d y b qr sp n F r A B F' (r + n) A' B' ∧ Cf o a w v z nn L d y s (c + n) b q st (sp + 1) A' B') ∨ Thr rS L d y s b q qr st sp n c (c + n) F r A B
section Ev1
variable {o : Nat → Int32} {a : Nat → Int64} {w : Nat → Int32} {v : Nat → Int64} {z : Nat → Int32} {nn : Nat} {L f d y s pc b q qr sp : Nat} {st : Int32} {A B A1 B1 : Mem} {rS : Int32 → Mem → Option (Int32 × Mem)}
theorem Cf.d31 (h : Cf o a w v z nn L d y s pc b q st sp A B) : d < 31 := by have := h.2.2.2.2; omega
theorem Cf.y30 (h : Cf o a w v z nn L d y s pc b q st sp A B) : y < 30 := h.2.1.1.2.2.2.2
theorem cf_adv (h : Cf o a w v z nn L d y s pc b q st sp A B) (hp : pc < nn) : S_X3_advance d A = advO d (o pc) (a pc) A := by
  obtain ⟨-, ⟨⟨-, r2, r3, r4, -⟩, r6, -⟩, ⟨-, f1, f2, -⟩, -⟩ := h
  rw [adv_eq r2 (by omega) f1 f2 (by omega), (r6 pc).1, (r6 pc).2]
theorem pth1 {p m F r r' : Nat} (h : Cf o a w v z nn L d y s pc b q st sp A B) (adv : S_X3_advance d A = some (0, A1)) (hw : W22 rS y b qr (F + 1) r 0 B = W22 rS y b qr F r' 0 B1)
    (hA : FrV (fun _ _ => False) (fun a j => a = 144 ∧ j = 4) (fun a j => a = 177 ∧ p ≤ j) A A1) (hB : FrV (fun _ _ => False) (fun a j => a = 181 ∧ j = 63) (fun a j => a = 219 ∧ p ≤ j) B B1) (e1 : gi A1 144 4 = ni m) (e2 : gi B1 181 63 = ni m) (e4 : ∀ k, k < m → gl A1 177 k = gl B1 219 k) :
    Pth rS d y b qr p 1 (F + 1) r A B F r' (si A1 (146 + d) 2 (ni (pc + 1))) B1 ∧ Cf o a w v z nn L d y s (pc + 1) b q st m (si A1 (146 + d) 2 (ni (pc + 1))) B1 := by
  have f2 : gi A1 (146 + d) 2 = ni pc := (hA.2.2.2.1 (146 + d) 2 (by omega)).trans h.2.2.1.2.2.1
  have g := go_0 h.2.2.2.1.1 h.d31 adv
  rw [f2, show ni pc + 1 = ni (pc + 1) from ni_add pc 1] at g
  have hA' : FrV (fun _ _ => False) (fun a j => (a = 144 ∧ j = 4) ∨ (a = 146 + d ∧ j = 2)) (fun a j => a = 177 ∧ p ≤ j) A (si A1 (146 + d) 2 (ni (pc + 1))) := (hA.mono (fun _ _ q => q) (fun _ _ q => Or.inl q) (fun _ _ q => q)).tr (frv_si (Or.inr ⟨rfl, rfl⟩))
  obtain ⟨c1, c2, c3, c4, c5⟩ := cf_step h hA' hB (by rw [gi_ne (by omega)]; exact e1) e2 si_eq e4
  exact ⟨⟨Nat.le_refl _, hw, ⟨1, g, by omega⟩, c2, c3, c4⟩, c1⟩
theorem pthm {p m pc' F r r' : Nat} (h : Cf o a w v z nn L d y s pc b q st sp A B) (adv : S_X3_advance d A = some (-1, A1)) (hw : W22 rS y b qr (F + 1) r 0 B = W22 rS y b qr F r' 0 B1)
    (hA : FrV (fun _ _ => False) (fun a j => (a = 144 ∧ j = 4) ∨ (a = 146 + d ∧ j = 2)) (fun a j => a = 177 ∧ p ≤ j) A A1) (hB : FrV (fun _ _ => False) (fun a j => a = 181 ∧ j = 63) (fun a j => a = 219 ∧ p ≤ j) B B1) (e1 : gi A1 144 4 = ni m) (e2 : gi B1 181 63 = ni m) (e3 : gi A1 (146 + d) 2 = ni pc') (e4 : ∀ k, k < m → gl A1 177 k = gl B1 219 k) :
    Pth rS d y b qr p 1 (F + 1) r A B F r' A1 B1 ∧ Cf o a w v z nn L d y s pc' b q st m A1 B1 := by
  obtain ⟨c1, c2, c3, c4, c5⟩ := cf_step h hA hB e1 e2 e3 e4
  exact ⟨⟨Nat.le_refl _, hw, ⟨1, go_m h.2.2.2.1.1 h.d31 adv, by omega⟩, c2, c3, c4⟩, c1⟩
/-- both push x -/
theorem push1 {F r : Nat} {x : Int64} (h : Cf o a w v z nn L d y s pc b q st sp A B) (hs : sp < 1240) (adv : S_X3_advance d A = (S_X3_push x A).bind fun w => some (w.1, w.2)) (hw : W22 rS y b qr (F + 1) r 0 B = W22 rS y b qr F (r + 1) 0 (si (sl B 219 sp x) 181 63 (ni (sp + 1)))) :
    ∃ A' B', Pth rS d y b qr sp 1 (F + 1) r A B F (r + 1) A' B' ∧ Cf o a w v z nn L d y s (pc + 1) b q st (sp + 1) A' B' := by
  rw [push_eq h.2.2.2.1.2.1 hs, bS] at adv
  refine ⟨_, _, pth1 (p := sp) h adv hw ((frv_sl ⟨rfl, Nat.le_refl _⟩).tr (frv_si ⟨rfl, rfl⟩)) ((frv_sl ⟨rfl, Nat.le_refl _⟩).tr (frv_si ⟨rfl, rfl⟩)) si_eq si_eq fun k hk => ?_⟩
  rw [gl_si, gl_si, gl_sl, gl_sl]
  by_cases e : k = sp
  · rw [if_pos ⟨rfl, e⟩, if_pos ⟨rfl, e⟩]
  · rw [if_neg (fun q => e q.2), if_neg (fun q => e q.2)]; exact h.2.2.2.1.2.2.2 k (by omega)
theorem w123 {k : Int32 → Int32 → Int32 → Int32 → Int32 → Int32 → Mem → Option (Int32 × Mem)} {v1 v3 v4 v5 v6 v7 : Int32} {x : Int64} (h : gi B 181 63 = ni sp) (hs : sp < 4000) : SJ_X11_works_123 rS k v1 v3 v4 v5 v6 v7 (ni sp) x B = k v1 v3 v4 v5 v6 v7 (si (sl B 219 sp x) 181 63 (ni (sp + 1))) := by
  unfold SJ_X11_works_123 SJ_X11_works_439
  rw [gdT ((ni_inb (by omega)).mpr hs), ni_tn (by omega), show gi (sl B 219 sp x) 181 63 = ni sp from h, show ni sp + 1 = ni (sp + 1) from ni_add sp 1]
theorem ev_num {c r h n mo : Nat} (hb : b ≤ 40 * d) (h1 : 1 ≤ h) (ho : o c = 0) (ha : a c = nl n) (hw : w r = 0) (hv : v r = nl n) : Ev o a w v z nn L f rS d y s b q qr st mo c r 1 h := by
  intro A B sp F hC hh hb1 hF hc hr hn hm
  obtain ⟨F, rfl⟩ : ∃ g, F = g + 1 := ⟨F - 1, by omega⟩
  have hd := hC.d31
  have rw3 := hC.2.1.2.2 r
  have e0 : gi B 208 (1200 * (30 + y) + r) = 0 := rw3.1.trans hw
  refine Or.inl ⟨F, push1 hC (by omega) (x := nl n) ?_ ?_⟩
  · rw [cf_adv hC (by omega), ho, ha]; unfold advO; rw [if_pos rfl]
  · unfold W22
    rw [w22_u hC.y30 (by omega) (by rw [e0]; decide), if_pos e0, rw3.2.1, hv, e0]
    unfold SJ_X11_works_98
    rw [if_neg (fun q => q rfl), hC.2.2.2.1.2.2.1, w123 hC.2.2.2.1.2.2.1 (by omega)]
theorem ev_at {c r h : Nat} (hq : q = qr) (hb : b ≤ 40 * d) (h1 : 1 ≤ h) (ho : o c = 1) (hw : w r = 1) : Ev o a w v z nn L f rS d y s b q qr st 1 c r 1 h := by
  intro A B sp F hC hh hb1 hF hc hr hn hm
  obtain ⟨F, rfl⟩ : ∃ g, F = g + 1 := ⟨F - 1, by omega⟩
  have hd := hC.d31
  have rw3 := hC.2.1.2.2 r
  have e0 : gi B 208 (1200 * (30 + y) + r) = 1 := rw3.1.trans hw
  subst hq
  refine Or.inl ⟨F, push1 hC (by omega) (x := (ni q).toInt64) ?_ ?_⟩
  · rw [cf_adv hC (by omega), ho]; unfold advO; rw [if_neg (by decide), if_pos rfl, hC.2.2.1.2.2.2.2.1]
  · unfold W22
    rw [w22_u hC.y30 (by omega) (by rw [e0]; decide), e0, if_neg (by decide), if_neg (by decide), if_neg (by decide)]
    unfold SJ_X11_works_98 S_X11_told
    rw [if_pos (by decide), if_pos rfl, bS, hC.2.2.2.1.2.2.1]; dsimp only
    rw [w123 hC.2.2.2.1.2.2.1 (by omega)]
theorem ev_set {c r h j : Nat} (hb : b ≤ 40 * d) (h1 : 1 ≤ h) (hj : j < 4) (ho : o c = 2) (ha : a c = nl j) (hw : w r = ni (2 + j)) : Ev o a w v z nn L f rS d y s b q qr st 2 c r 1 h := by
  intro A B sp F hC hh hb1 hF hc hr hn hm
  obtain ⟨F, rfl⟩ : ∃ g, F = g + 1 := ⟨F - 1, by omega⟩
  have hd := hC.d31
  have rw3 := hC.2.1.2.2 r
  have e0 : gi B 208 (1200 * (30 + y) + r) = ni (2 + j) := rw3.1.trans hw
  have hg := hm rfl j hj
  have t63 := hC.2.2.2.1.2.2.1
  refine Or.inl ⟨F, push1 hC (by omega) (x := gl A 178 j) ?_ ?_⟩
  · rw [cf_adv hC (by omega), ho, ha]; unfold advO
    rw [if_neg (by decide), if_neg (by decide), if_pos rfl]
    obtain rfl | rfl | rfl | rfl : j = 0 ∨ j = 1 ∨ j = 2 ∨ j = 3 := by omega
    all_goals rw [if_neg (by decide), if_neg (by decide), gdT (by decide)]; rfl
  · unfold W22
    rw [hg, w22_u hC.y30 (by omega) (by rw [e0]; exact fun e => by have := (ni_inj (b := 11) (by omega) (by omega)).mp e; omega), e0, if_neg (show ¬ ni (2 + j) = 0 from fun e => by have := (ni_inj (b := 0) (by omega) (by omega)).mp e; omega), if_neg (show ¬ ni (2 + j) < 1 from fun e => by have := (ni_lt (b := 1) (by omega) (by omega)).mp e; omega), if_neg (show ¬ (5 : Int32) < ni (2 + j) from fun e => by have := (ni_lt (a := 5) (by omega) (by omega)).mp e; omega)]
    unfold SJ_X11_works_98 S_X11_told
    rw [if_pos (show ¬ ni (2 + j) = 0 from fun e => by have := (ni_inj (b := 0) (by omega) (by omega)).mp e; omega), t63]
    obtain rfl | rfl | rfl | rfl : j = 0 ∨ j = 1 ∨ j = 2 ∨ j = 3 := by omega
    · rw [if_neg (by decide), if_pos (by decide), bS]; dsimp only; rw [w123 t63 (by omega)]
    · rw [if_neg (by decide), if_neg (by decide), if_pos (by decide), bS]; dsimp only; rw [w123 t63 (by omega)]
    · rw [if_neg (by decide), if_neg (by decide), if_neg (by decide), if_pos (by decide), bS]; dsimp only; rw [w123 t63 (by omega)]
    · rw [if_neg (by decide), if_neg (by decide), if_neg (by decide), if_neg (by decide), bS]; dsimp only; rw [w123 t63 (by omega)]
end Ev1
