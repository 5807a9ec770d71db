-- ===== formulas in both: pairs, choices =====
section Ev3
variable {o : Nat → Int32} {a : Nat → Int64} {w : Nat → Int32} {v : Nat → Int64} {z : Nat → Int32} {nn : Nat} {L f d y s pc b q qr sp : Nat} {st : Int32} {A B A1 B1 : Mem} {rS : Int32 → Mem → Option (Int32 × Mem)}
theorem bop_adv {op wo : Int32} {x9 : Int64} (hb : Bop false op wo) : advO d op x9 A = (S_X3_calculate op A).bind fun w3 => some (w3.1, w3.2) := by
  unfold advO SJ_X3_advance_326
  rcases hb with ⟨rfl, rfl⟩ | ⟨rfl, rfl⟩ | ⟨rfl, rfl⟩ | ⟨-, ⟨rfl, rfl⟩ | ⟨rfl, rfl⟩ | ⟨rfl, rfl⟩ | ⟨rfl, rfl⟩ | ⟨rfl, rfl⟩⟩ <;>
  rw [if_neg (by decide), if_neg (by decide), if_neg (by decide), if_neg (by decide), if_neg (by decide), if_neg (by decide), if_neg (by decide), if_neg (by decide), if_neg (by decide), if_neg (by decide), if_neg (by decide), if_neg (by decide), if_neg (by decide), if_neg (by decide)]
theorem bin_some {op wo : Int32} {l x : Int64} (hb : Bop false op wo) (h47 : ¬ wo = 47) (h37 : ¬ wo = 37) : ∃ r, bin op l x = some r := by
  unfold bin
  rcases hb with ⟨rfl, rfl⟩ | ⟨rfl, rfl⟩ | ⟨rfl, rfl⟩ | ⟨-, ⟨rfl, rfl⟩ | ⟨rfl, rfl⟩ | ⟨rfl, rfl⟩ | ⟨rfl, rfl⟩ | ⟨rfl, rfl⟩⟩
  · exact ⟨_, if_pos rfl⟩
  · rw [if_neg (by decide)]; exact ⟨_, if_pos rfl⟩
  · rw [if_neg (by decide), if_neg (by decide)]; exact ⟨_, if_pos rfl⟩
  · exact absurd rfl h47
  · exact absurd rfl h37
  · rw [if_neg (by decide), if_neg (by decide), if_neg (by decide), if_neg (by decide), if_neg (by decide)]; exact ⟨_, if_pos rfl⟩
  · rw [if_neg (by decide), if_neg (by decide), if_neg (by decide), if_neg (by decide), if_neg (by decide), if_neg (by decide)]; exact ⟨_, if_pos rfl⟩
  · rw [if_neg (by decide), if_neg (by decide), if_neg (by decide), if_neg (by decide), if_neg (by decide), if_neg (by decide), if_neg (by decide)]; exact ⟨_, rfl⟩
theorem bin_div {op wo : Int32} {l x : Int64} (hb : Bop false op wo) (h : wo = 47 ∨ wo = 37) : (x = 0 → bin op l x = none) ∧ (¬ x = 0 → ∃ r, bin op l x = some r) := by
  unfold bin
  rcases h with rfl | rfl
  · have e : op = 9 := by
      rcases hb with ⟨_, e⟩ | ⟨_, e⟩ | ⟨_, e⟩ | ⟨-, ⟨h, _⟩ | ⟨_, e⟩ | ⟨_, e⟩ | ⟨_, e⟩ | ⟨_, e⟩⟩
      · exact absurd e (by decide)
      · exact absurd e (by decide)
      · exact absurd e (by decide)
      · exact h
      · exact absurd e (by decide)
      · exact absurd e (by decide)
      · exact absurd e (by decide)
      · exact absurd e (by decide)
    subst e
    rw [if_neg (by decide), if_neg (by decide), if_neg (by decide), if_pos rfl]
    exact ⟨fun e => if_pos e, fun e => ⟨_, if_neg e⟩⟩
  · have e : op = 10 := by
      rcases hb with ⟨_, e⟩ | ⟨_, e⟩ | ⟨_, e⟩ | ⟨-, ⟨_, e⟩ | ⟨h, _⟩ | ⟨_, e⟩ | ⟨_, e⟩ | ⟨_, e⟩⟩
      · exact absurd e (by decide)
      · exact absurd e (by decide)
      · exact absurd e (by decide)
      · exact absurd e (by decide)
      · exact h
      · exact absurd e (by decide)
      · exact absurd e (by decide)
      · exact absurd e (by decide)
    subst e
    rw [if_neg (by decide), if_neg (by decide), if_neg (by decide), if_neg (by decide), if_pos rfl]
    exact ⟨fun e => if_pos e, fun e => ⟨_, if_neg e⟩⟩
theorem bop_w {op wo : Int32} (hb : Bop false op wo) : ¬ wo = 6 ∧ ¬ wo = 7 ∧ ¬ wo = 8 ∧ ¬ wo = 10 ∧ ¬ wo = 9 ∧ ¬ wo = 11 ∧ ¬ wo = 0 ∧ ¬ wo < 1 ∧ 5 < wo := by
  rcases hb with ⟨_, rfl⟩ | ⟨_, rfl⟩ | ⟨_, rfl⟩ | ⟨-, ⟨_, rfl⟩ | ⟨_, rfl⟩ | ⟨_, rfl⟩ | ⟨_, rfl⟩ | ⟨_, rfl⟩⟩ <;> decide
theorem s403 {k : Int32 → Int32 → Int32 → Int32 → Int32 → Int32 → Mem → Option (Int32 × Mem)} {v1 v3 v4 v5 v6 v7 op wo : Int32} {x : Int64} (hb : Bop false op wo) (t : gi B 181 63 = ni (sp + 1)) (hs : sp + 1 < 4000) (h : bin op (gl B 219 sp) (gl B 219 (sp + 1)) = some x) : SJ_X11_works_403 rS k v1 v3 v4 v5 v6 v7 wo B = k v1 v3 v4 v5 v6 v7 (sl B 219 sp x) := by
  unfold SJ_X11_works_403 SJ_X11_works_439
  simp only [t, show ni (sp + 1) - 1 = ni sp from (ni_sub (a := sp + 1) (b := 1) (by omega)).trans (congrArg ni (by omega)), show (ni sp).toNatClampNeg = sp from ni_tn (by omega), show (ni (sp + 1)).toNatClampNeg = sp + 1 from ni_tn (by omega)]
  rw [gdT ((ni_inb (by omega)).mpr (by omega)), gdT ((ni_inb (by omega)).mpr (by omega)), acted_eq hb h, bS, gdT ((ni_inb (by omega)).mpr (by omega))]
theorem w137_bin {k : Int32 → Int32 → Int32 → Int32 → Int32 → Int32 → Mem → Option (Int32 × Mem)} {v1 v3 v4 v5 v6 v7 op wo v11 : Int32} {v9 : Int64} (hb : Bop false op wo) (t : gi B 181 63 = ni (sp + 1 + 1)) (hs : sp + 1 < 4000) : SJ_X11_works_137 rS k v1 v3 v4 v5 v6 v7 wo v9 v11 B = match bin op (gl B 219 sp) (gl B 219 (sp + 1)) with
    | some x => k v1 v3 v4 v5 v6 v7 (sl (si B 181 63 (ni (sp + 1))) 219 sp x)
    | none => k v1 v3 v4 v5 801 v7 (si B 181 63 (ni (sp + 1))) := by
  obtain ⟨n6, n7, n8, n10, n9, -⟩ := bop_w hb
  unfold SJ_X11_works_137
  rw [if_pos n6, if_pos n7, if_pos n8, if_pos n10, if_pos n9, t, show ni (sp + 1 + 1) - 1 = ni (sp + 1) from (ni_sub (a := sp + 1 + 1) (b := 1) (by omega)).trans (congrArg ni (by omega))]
  have h381 : (wo = 47 ∨ wo = 37) → SJ_X11_works_381 rS k v1 v3 v4 v5 v6 v7 wo (si B 181 63 (ni (sp + 1))) = match bin op (gl B 219 sp) (gl B 219 (sp + 1)) with
      | some x => k v1 v3 v4 v5 v6 v7 (sl (si B 181 63 (ni (sp + 1))) 219 sp x)
      | none => k v1 v3 v4 v5 801 v7 (si B 181 63 (ni (sp + 1))) := by
    intro h
    obtain ⟨z1, z2⟩ := bin_div (l := gl B 219 sp) (x := gl B 219 (sp + 1)) hb h
    unfold SJ_X11_works_381
    rw [si_eq, gdT ((ni_inb (by omega)).mpr (by omega)), ni_tn (by omega), gl_si]
    by_cases x0 : gl B 219 (sp + 1) = 0
    · rw [if_neg (fun q => q x0), z1 x0]; rfl
    · obtain ⟨r, hr⟩ := z2 x0
      rw [if_pos x0, hr]; dsimp only
      exact s403 hb si_eq hs hr
  by_cases h47 : wo = 47
  · rw [if_pos h47]; exact h381 (Or.inl h47)
  · rw [if_neg h47]
    by_cases h37 : wo = 37
    · rw [if_neg (fun q => q h37)]; exact h381 (Or.inr h37)
    · rw [if_pos h37]
      obtain ⟨r, hr⟩ := bin_some (l := gl B 219 sp) (x := gl B 219 (sp + 1)) hb h47 h37
      rw [hr]; dsimp only
      exact s403 hb si_eq hs hr
theorem ev_bin {mo c r n m h g : Nat} (hb : b ≤ 40 * d) (e1 : Ev o a w v z nn L f rS d y s b q qr st mo c r n h) (e2 : Ev o a w v z nn L f rS d y s b q qr st mo (c + n) (r + n) m g) (hg : g + 1 ≤ h) (hg1 : 1 ≤ g) (hbo : Bop false (o (c + n + m)) (w (r + n + m))) : Ev o a w v z nn L f rS d y s b q qr st mo c r (n + m + 1) h := by
  intro A B sp F hC hh hb1 hF hc hr hn hm
  rcases e1 A B sp F hC hh hb1 (by omega) (by omega) (by omega) hn hm with ⟨F1, A1, B1, p, C1⟩ | t
  · have q1 := p.1
    have q2 := p.ns
    rcases e2 A1 B1 (sp + 1) F1 C1 (by omega) (by omega) (by omega) (by omega) (by omega) (by omega) (fun e => p.stg (hm e)) with ⟨F2, A2, B2, p2, C2⟩ | t
    · obtain ⟨G, rfl⟩ : ∃ g, F2 = g + 1 := ⟨F2 - 1, by have := p2.1; omega⟩
      have q3 := p2.1
      have hd := hC.d31
      have rw3 := C2.2.1.2.2 (r + n + m)
      obtain ⟨t1, t2, t3, t4⟩ := C2.2.2.2.1
      have adv0 : S_X3_advance d A2 = (S_X3_calculate (o (c + n + m)) A2).bind fun w3 => some (w3.1, w3.2) := by
        rw [cf_adv C2 (by omega)]; exact bop_adv hbo
      rw [calc_eq t2 (by omega)] at adv0
      have hw0 : W22 rS y b qr (G + 1) (r + n + m) 0 B2 = SJ_X11_works_137 rS (SJ_X11_works_22 rS G) (ni y) (ni qr) (ni (1200 * (30 + y))) (ni b) 0 (ni (r + n + m + 1)) (w (r + n + m)) (v (r + n + m)) (z (r + n + m)) B2 := by
        unfold W22
        obtain ⟨-, -, -, -, -, n11, n0, n1, n5⟩ := bop_w hbo
        rw [w22_u hC.y30 (by omega) (by rw [rw3.1]; exact n11), rw3.1, rw3.2.1, rw3.2.2, if_neg n0, if_neg n1, if_pos n5]
      rw [w137_bin hbo t3 (by omega), ← t4 sp (by omega), ← t4 (sp + 1) (by omega)] at hw0
      cases hx : bin (o (c + n + m)) (gl A2 177 sp) (gl A2 177 (sp + 1)) with
      | some x =>
        rw [hx] at adv0 hw0
        dsimp only at adv0 hw0
        rw [bS] at adv0; dsimp only at adv0
        obtain ⟨P3, C3⟩ := pth1 (p := sp) (m := sp + 1) C2 adv0 hw0 ((((frv_si ⟨rfl, rfl⟩).tr (frv_si ⟨rfl, rfl⟩)).tr (frv_sl ⟨rfl, Nat.le_refl _⟩)).tr (frv_si ⟨rfl, rfl⟩)) ((frv_si ⟨rfl, rfl⟩).tr (frv_sl ⟨rfl, Nat.le_refl _⟩)) si_eq (show gi (si B2 181 63 (ni (sp + 1))) 181 63 = ni (sp + 1) from si_eq) (fun k hk => by
          rw [gl_si, gl_sl, gl_sl, gl_si, gl_si, gl_si]
          by_cases e : k = sp
          · rw [if_pos ⟨rfl, e⟩, if_pos ⟨rfl, e⟩]
          · rw [if_neg (fun q => e q.2), if_neg (fun q => e q.2)]; exact t4 k (by omega))
        rw [show c + (n + m + 1) = c + n + m + 1 by omega, show r + (n + m + 1) = r + n + m + 1 by omega]
        exact Or.inl ⟨G, _, _, (p.tr p2 (by omega)).tr P3 (Nat.le_refl _), C3⟩
      | none =>
        rw [hx] at adv0 hw0
        dsimp only at adv0 hw0
        rw [bS] at adv0; dsimp only at adv0
        obtain ⟨G, rfl⟩ : ∃ g, G = g + 1 := ⟨G - 1, by omega⟩
        rw [w22_x hC.y30 (by omega) (by decide)] at hw0
        have t5 := thr1 (p := sp) C2 adv0 (by decide) (by decide) hw0 ((frv_si ⟨rfl, rfl⟩).tr (frv_si ⟨rfl, rfl⟩)) (frv_si ⟨rfl, rfl⟩)
        exact Or.inr ((p.tr p2 (by omega)).thr t5 (Nat.le_refl _) (by omega) (by omega))
    · exact Or.inr ((p.thr t (by omega) (by omega) (Nat.le_refl _)).le (Nat.le_refl _) (by omega) (Nat.le_refl _) (by omega))
  · exact Or.inr (t.le (Nat.le_refl _) (by omega) (Nat.le_refl _) (by omega))
end Ev3
