-- ===== formulas in both: choices, consts =====
theorem putV_s {x : Int64} {st st1 : List Int64} (h : putV x st = some st1) (hs : ∀ u ∈ st, smallV u) : ∀ u ∈ st1, smallV u := by
  by_cases e : st.length < 4 ∧ smallV x
  · rw [putV_y e] at h; cases h
    intro u hu
    rcases List.mem_cons.mp hu with rfl | hu
    · exact e.2
    · exact hs u hu
  · rw [putV_n e] at h; cases h
theorem ev1_s {A : Mem} {f : Nat → Nat → Option Int64} {op : Int32} {arg : Int64} {st st1 : List Int64} (h : ev1 A f op arg st = some st1) (hs : ∀ u ∈ st, smallV u) : ∀ u ∈ st1, smallV u := by
  unfold ev1 at h
  split at h
  · split at h
    · cases h
    · split at h
      · cases h
      · exact putV_s h hs
  · split at h
    · exact putV_s h hs
    · split at h
      · cases h
      · rename_i x st2
        have hs2 : ∀ u ∈ st2, smallV u := fun u hu => hs u (List.mem_cons_of_mem _ hu)
        split at h
        · exact putV_s h hs2
        · split at h
          · cases h
          · rename_i l st3
            have hs3 : ∀ u ∈ st3, smallV u := fun u hu => hs2 u (List.mem_cons_of_mem _ hu)
            split at h
            · exact putV_s h hs3
            · split at h
              · exact putV_s h hs3
              · split at h
                · split at h
                  · exact putV_s h hs3
                  · cases h
                · cases h
theorem evR_sm {A : Mem} {f : Nat → Nat → Option Int64} {s : Nat} {x : Int64} : ∀ {n pc : Nat} {st : List Int64}, evR A f s n pc st = some x → (∀ u ∈ st, smallV u) → smallV x := by
  intro n
  induction n with
  | zero => intro pc st h; cases h
  | succ n ih =>
    intro pc st h hs
    unfold evR at h
    split at h
    · cases h
    · split at h
      · split at h
        · cases h; exact hs x (List.mem_cons_self ..)
        · cases h
      · split at h
        · cases h
        · rename_i st1 e
          exact ih h (ev1_s e hs)
theorem vl_small {A : Mem} {i y k : Nat} {x : Int64} (h : vlC A i y k = some x) : smallV x := by
  cases i with
  | zero => cases h
  | succ i =>
    unfold vlC evC at h
    split at h
    · cases h
    · split at h
      · exact evR_sm h (fun u hu => by cases hu)
      · cases h
theorem small_ne {x : Int64} (h : smallV x) : ¬ x = -2000000000000000 := by
  rintro rfl
  exact absurd h.2 (by decide)
section Ev4
variable {o : Nat → Int32} {a : Nat → Int64} {w : Nat → Int32} {v : Nat → Int64} {z : Nat → Int32} {nn : Nat} {L f d y s pc b q qr sp : Nat} {st : Int32} {A B A1 B1 : Mem} {rS : Int32 → Mem → Option (Int32 × Mem)}
theorem ev_cond {mo c r n m l h : Nat} (hb : b ≤ 40 * d) (hh1 : 1 ≤ h) (e1 : Ev o a w v z nn L f rS d y s b q qr st mo c r n h) (h1 : o (c + n) = 15) (h2 : a (c + n) = nl (c + n + m + 2)) (h3 : w (r + n) = 9) (h4 : v (r + n) = nl (r + n + m + 2))
    (e2 : Ev o a w v z nn L f rS d y s b q qr st mo (c + n + 1) (r + n + 1) m h) (h5 : o (c + n + m + 1) = 14) (h6 : a (c + n + m + 1) = nl (c + n + m + l + 2)) (h7 : w (r + n + m + 1) = 10) (h8 : v (r + n + m + 1) = nl (r + n + m + l + 2))
    (e3 : Ev o a w v z nn L f rS d y s b q qr st mo (c + n + m + 2) (r + n + m + 2) l h) : Ev o a w v z nn L f rS d y s b q qr st mo c r (n + m + l + 2) h := by
  intro A B sp F hC hh hb1 hF hc hr hn hm
  rcases e1 A B sp F hC hh hb1 (by omega) (by omega) (by omega) hn hm with ⟨F1, A1, B1, p, C1⟩ | t
  · have q1 := p.1
    have q2 := p.ns
    obtain ⟨G, rfl⟩ : ∃ g, F1 = g + 1 := ⟨F1 - 1, by omega⟩
    have hd := hC.d31
    have rw3 := C1.2.1.2.2 (r + n)
    have e0 : gi B1 208 (1200 * (30 + y) + (r + n)) = 9 := rw3.1.trans h3
    obtain ⟨t1, t2, t3, t4⟩ := C1.2.2.2.1
    have f2 : gi A1 (146 + d) 2 = ni (c + n) := C1.2.2.1.2.2.1
    have adv0 : S_X3_advance d A1 = if ¬ gl A1 177 sp = 0 then some (-1, si (si A1 144 4 (ni sp)) (146 + d) 2 (ni (c + n + 1))) else some (-1, si (si A1 144 4 (ni sp)) (146 + d) 2 (ni (c + n + m + 2))) := by
      rw [cf_adv C1 (by omega), h1, h2]; unfold advO SJ_X3_advance_257
      rw [if_neg (by decide), if_neg (by decide), if_neg (by decide), if_neg (by decide), if_neg (by decide), if_neg (by decide), if_neg (by decide), if_pos rfl, pop_eq t2 (by omega), bS]; dsimp only
      rw [gi_ne (show 146 + d ≠ 144 by omega), f2, show ni (c + n) + 1 = ni (c + n + 1) from ni_add _ 1, nl_i]
    have hw0 : W22 rS y b qr (G + 1) (r + n) 0 B1 = if ¬ gl B1 219 sp = 0 then W22 rS y b qr G (r + n + 1) 0 (si B1 181 63 (ni sp)) else W22 rS y b qr G (r + n + m + 2) 0 (si B1 181 63 (ni sp)) := by
      unfold W22
      rw [w22_u hC.y30 (by omega) (by rw [e0]; decide), e0, if_neg (by decide), if_neg (by decide), if_pos (by decide), rw3.2.1, h4]
      unfold SJ_X11_works_137 SJ_X11_works_439
      rw [if_pos (by decide), if_pos (by decide), if_pos (by decide), if_pos (by decide), if_neg (by decide), t3, show ni (sp + 1) - 1 = ni sp from (ni_sub (a := sp + 1) (b := 1) (by omega)).trans (congrArg ni (by omega)), si_eq, gdT ((ni_inb (by omega)).mpr (by omega)), ni_tn (by omega), gl_si, nl_i]
    rw [← t4 sp (by omega)] at hw0
    have fA : ∀ x, FrV (fun _ _ => False) (fun a j => (a = 144 ∧ j = 4) ∨ (a = 146 + d ∧ j = 2)) (fun a j => a = 177 ∧ sp ≤ j) A1 (si (si A1 144 4 (ni sp)) (146 + d) 2 x) := fun x => (frv_si (Or.inl ⟨rfl, rfl⟩)).tr (frv_si (Or.inr ⟨rfl, rfl⟩))
    by_cases x0 : gl A1 177 sp = 0
    · rw [if_neg (fun q => q x0)] at adv0 hw0
      obtain ⟨P2, C2⟩ := pthm (p := sp) (m := sp) C1 adv0 hw0 (fA _) (frv_si ⟨rfl, rfl⟩) (by rw [gi_ne (by omega)]; exact si_eq) si_eq si_eq (fun k hk => t4 k (by omega))
      have q5 := P2.ns
      have P12 := p.tr P2 (Nat.le_refl _)
      rcases e3 _ _ sp G C2 hh hb1 (by omega) (by omega) (by omega) (by omega) (fun e => P12.stg (hm e)) with ⟨F3, A3, B3, p3, C3⟩ | t
      · refine Or.inl ⟨F3, A3, B3, ?_, ?_⟩
        · rw [show r + (n + m + l + 2) = r + n + m + 2 + l by omega]
          exact (P12.tr p3 (Nat.le_refl _)).le (by omega)
        · rw [show c + (n + m + l + 2) = c + n + m + 2 + l by omega]; exact C3
      · exact Or.inr ((P12.thr t (Nat.le_refl _) (by omega) (Nat.le_refl _)).le (Nat.le_refl _) (by omega) (Nat.le_refl _) (by omega))
    · rw [if_pos x0] at adv0 hw0
      obtain ⟨P2, C2⟩ := pthm (p := sp) (m := sp) C1 adv0 hw0 (fA _) (frv_si ⟨rfl, rfl⟩) (by rw [gi_ne (by omega)]; exact si_eq) si_eq si_eq (fun k hk => t4 k (by omega))
      have q5 := P2.ns
      have P12 := p.tr P2 (Nat.le_refl _)
      rcases e2 _ _ sp G C2 hh hb1 (by omega) (by omega) (by omega) (by omega) (fun e => P12.stg (hm e)) with ⟨F3, A3, B3, p3, C3⟩ | t
      · have q6 := p3.1
        obtain ⟨H, rfl⟩ : ∃ g, F3 = g + 1 := ⟨F3 - 1, by omega⟩
        rw [show c + n + 1 + m = c + n + m + 1 by omega] at C3
        rw [show r + n + 1 + m = r + n + m + 1 by omega] at p3
        have rw4 := C3.2.1.2.2 (r + n + m + 1)
        have e4 : gi B3 208 (1200 * (30 + y) + (r + n + m + 1)) = 10 := rw4.1.trans h7
        obtain ⟨u1, u2, u3, u4⟩ := C3.2.2.2.1
        have adv3 : S_X3_advance d A3 = some (-1, si A3 (146 + d) 2 (ni (c + n + m + l + 2))) := by
          rw [cf_adv C3 (by omega), h5, h6]; unfold advO
          rw [if_neg (by decide), if_neg (by decide), if_neg (by decide), if_neg (by decide), if_neg (by decide), if_neg (by decide), if_pos rfl, nl_i]
        have hw3 : W22 rS y b qr (H + 1) (r + n + m + 1) 0 B3 = W22 rS y b qr H (r + n + m + l + 2) 0 B3 := by
          unfold W22
          rw [w22_u hC.y30 (by omega) (by rw [e4]; decide), e4, if_neg (by decide), if_neg (by decide), if_pos (by decide), rw4.2.1, h8]
          unfold SJ_X11_works_137 SJ_X11_works_439
          rw [if_pos (by decide), if_pos (by decide), if_pos (by decide), if_neg (by decide), nl_i]
        obtain ⟨P4, C4⟩ := pthm (p := sp) (m := sp + 1) C3 adv3 hw3 (frv_si (Or.inr ⟨rfl, rfl⟩)) FrV.rf (by rw [gi_ne (by omega)]; exact u2) u3 si_eq u4
        rw [show r + (n + m + l + 2) = r + n + m + l + 2 by omega, show c + (n + m + l + 2) = c + n + m + l + 2 by omega]
        exact Or.inl ⟨H, _, _, ((P12.tr p3 (Nat.le_refl _)).tr P4 (Nat.le_refl _)).le (by omega), C4⟩
      · exact Or.inr ((P12.thr t (Nat.le_refl _) (by omega) (Nat.le_refl _)).le (Nat.le_refl _) (by omega) (Nat.le_refl _) (by omega))
  · exact Or.inr (t.le (Nat.le_refl _) (by omega) (Nat.le_refl _) (by omega))
end Ev4
