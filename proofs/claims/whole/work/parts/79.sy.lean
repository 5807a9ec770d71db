-- ===== an entry, in both =====
theorem mi_mk {L L' : Nat} {A A' B B' : Mem} (h : Mi L A B) (g : WA A A') (k : WB2 B B') (e1 : gi B' 181 64 = gi B 181 64) (e2 : gi B' 217 = gi B 217) (e3 : gl B' 218 = gl B 218) (dy : ∀ y, y < 30 → Dy1 A' B' y) (st : StR L' A' B') : Mi L' A' B' :=
  ⟨fsc_q h.1 g, ⟨fsr_q h.2.1.1 k, h.2.1.2.cg (k.2.2.2.1 181 59 (by omega)) e1⟩, slr_q h.2.2.1 g k, cnA_q h.2.2.2.1 h.2.2.1 g, cnB_q h.2.2.2.2.1 h.2.2.1 g k e1 e2 e3, dy, st⟩
theorem mi_half {L p : Nat} {A B : Mem} (h : Mi L A B) (hp : p < 30) : Mi L (si A (21 + 4 * p) 4 (gi A (21 + 4 * p) 4 + 1)) (si B 215 p (gi B 215 p + 1)) := by
  refine mi_mk h (frv_si (by omega)) (frv_si (by omega)) (by rw [gi_ne (by omega)]) (gi_ne (by omega)) rfl (fun y hy => ?_) ?_
  · unfold Dy1
    obtain ⟨⟨d1, d2, d3⟩, d4, d5⟩ := h.2.2.2.2.2.1 y hy
    rw [gi_ne (show 212 ≠ 215 by omega), gi_ne (show 214 ≠ 215 by omega)]
    refine ⟨⟨?_, ?_, ?_⟩, d4, d5⟩
    · rw [gi_si, if_neg (by omega)]; exact d1
    · rw [gi_si, if_neg (by omega)]; exact d2
    · rw [gi_si, gi_si]
      by_cases e : y = p
      · rw [if_pos (by omega), if_pos (by omega), ← e, d3]
      · rw [if_neg (by omega), if_neg (by omega)]; exact d3
  · obtain ⟨n, n1, n2, n3, n4⟩ := h.2.2.2.2.2.2
    refine ⟨n, ?_, ?_, ?_, ?_⟩
    · rw [nst_eq (gi_ne (by omega))]; exact n1
    · rw [gi_ne (by omega)]; exact n2
    · rw [gi_ne (by omega)]; exact n3
    · rw [gi_ne (show 179 ≠ 21 + 4 * p by omega), gi_ne (show 220 ≠ 215 by omega)]; exact n4
section En
variable {o : Nat → Int32} {a : Nat → Int64} {w : Nat → Int32} {v : Nat → Int64} {z : Nat → Int32} {nn : Nat} {L f d y s pc b q qr sp : Nat} {st : Int32} {A B A1 B1 : Mem} {rS : Int32 → Mem → Option (Int32 × Mem)}
theorem cf_half {p : Nat} (h : Cf o a w v z nn L d y s pc b q st sp A B) (hp : p < 30) : Cf o a w v z nn L d y s pc b q st sp (si A (21 + 4 * p) 4 (gi A (21 + 4 * p) 4 + 1)) (si B 215 p (gi B 215 p + 1)) ∧ FA (d + 1) sp A (si A (21 + 4 * p) 4 (gi A (21 + 4 * p) 4 + 1)) ∧ FB sp B (si B 215 p (gi B 215 p + 1)) ∧ Ph B (si B 215 p (gi B 215 p + 1)) ∧ nst (si B 215 p (gi B 215 p + 1)) = nst B := by
  have fa : FA (d + 1) sp A (si A (21 + 4 * p) 4 (gi A (21 + 4 * p) 4 + 1)) := frv_si (by omega)
  have fb : FB sp B (si B 215 p (gi B 215 p + 1)) := frv_si (by omega)
  have ne : nst (si B 215 p (gi B 215 p + 1)) = nst B := nst_eq (gi_ne (by omega))
  refine ⟨⟨mi_half h.1 hp, rw_q h.2.1 fa.q fb.q, h.2.2.1.fa fa h.d31, ⟨?_, ?_, ?_, h.2.2.2.1.2.2.2⟩, by rw [ne]; exact h.2.2.2.2⟩, fa, fb, fun x hx => Or.inl ⟨?_, ?_, fun j hj => ?_⟩, ne⟩
  · rw [gi_ne (by omega)]; exact h.2.2.2.1.1
  · rw [gi_ne (by omega)]; exact h.2.2.2.1.2.1
  · rw [gi_ne (by omega)]; exact h.2.2.2.1.2.2.1
  · rw [gi_ne (by omega)]
  · rw [gi_ne (by omega)]
  · rw [gi_ne (by omega)]
theorem ent_fin {p1 p2 s' : Nat} {fg : Int32} (hC : Cf o a w v z nn L d y s pc b q st (sp + 1) A B) (hs : sp < 1240) (h1 : p1 < 30) (hs' : gr A (21 + 4 * p1) 0 = some s') (h2 : p2 < ln A (s' + 5)) (hfg : fg = if p1 = y then 0 else 1) :
    (∃ e Ah Bh, Cf o a w v z nn L d y s pc b q st (sp + 1) Ah Bh ∧ FA (d + 1) (sp + 1) A Ah ∧ FB (sp + 1) B Bh ∧ Ph B Bh ∧ nst Bh = nst B ∧ S_X3_pushEntry p1 (ni p2) fg A = some (0, si (sl (si Ah 144 4 (ni sp)) 177 sp e) 144 4 (ni (sp + 1))) ∧ SJ_X11_looks_71 rS (ni y) (gl A 177 sp) (ni (6 * p1 + p2)) (ni p1) 0 B = some (0, sl Bh 181 71 e)) ∨
    (S_X3_pushEntry p1 (ni p2) fg A = some (805, si A 144 4 (ni sp)) ∧ SJ_X11_looks_71 rS (ni y) (gl A 177 sp) (ni (6 * p1 + p2)) (ni p1) 0 B = some (805, B)) := by
  have mi := hC.1
  have t2 := hC.2.2.2.1.2.1
  have y30 := hC.y30
  have hd := hC.d31
  have g0 := mi.2.2.1 p1 h1
  rw [hs'] at g0
  have l6 : ln A (s' + 5) ≤ 6 := g0.2.2.1.2.2.2.1.2.1
  have FA' : WA A (si A 144 4 (ni sp)) := frv_si (by omega)
  have g : ShR (si A 144 4 (ni sp)) B (some s') (30 + p1) p1 := shr_cg g0 (fun s1 e1 c c1 c2 => sm_si (by have := shr_ge g0 e1; omega)) (Nat.le_refl _) (fun _ _ _ => Sm.rf)
  obtain ⟨i1, i2⟩ := id6 h1 (show p2 < 6 by omega)
  have dy := mi.2.2.2.2.2.1 p1 h1
  unfold S_X3_pushEntry SJ_X11_looks_71
  rw [pop_eq t2 hs, bS, if_pos rfl]; dsimp only
  rw [i1, i2, show (30 : Int32) + ni p1 = ni (30 + p1) from ni_add 30 p1, show (6 : Int32) * ni (30 + p1) + ni p2 = ni (6 * (30 + p1) + p2) by rw [show (6 : Int32) = ni 6 from rfl, ni_mul, ni_add], gdT (c := inb (ni (6 * (30 + p1) + p2)) 360) ((ni_inb (by omega)).mpr (by omega))]
  simp only [show (ni (6 * (30 + p1) + p2)).toNatClampNeg = 6 * (30 + p1) + p2 from ni_tn (by omega), show (ni p1).toNatClampNeg = p1 from ni_tn (by omega)]
  rw [gdT (c := inb (ni p1) 30) ((ni_inb (by omega)).mpr h1), gdT (c := inb (ni p1) 30) ((ni_inb (by omega)).mpr h1), gdT (c := inb (ni p1) 30) ((ni_inb (by omega)).mpr h1)]
  rcases hasE (fsc_q mi.1 FA') h1 (show gr (si A 144 4 (ni sp)) (21 + 4 * p1) 0 = some s' from hs') g (ni p2) (gl A 177 sp) with ⟨k, qz, j, k1, k2, k3, k4, k5, k6, k7⟩ | ⟨k7, k8⟩
  · have ek : k = p2 := ((ni_inj (by omega) (by have : k < ln A (s' + 5) := k1; omega)).mp k2).symm
    subst ek
    left
    rw [k7, bS]; dsimp only
    rw [if_pos (show ¬ (1 : Int32) = 0 by decide), k6, if_neg (nl_n0 (by omega)), k3, ni_l (by omega), if_pos ((nl_lt (by omega) (by omega)).mpr k4)]
    have c42 : ∀ M : Mem, gi M 144 4 = ni sp → SJ_X3_pushEntry_42 p1 (ni k) (nl j) M = some (0, si (sl M 177 sp (gl M (24 + 4 * p1) (k * 12 + j))) 144 4 (ni (sp + 1))) := fun M hM => by
      unfold SJ_X3_pushEntry_42
      rw [nl_i, show ni k * 12 + ni j = ni (k * 12 + j) by rw [show (12 : Int32) = ni 12 from rfl, ni_mul, ni_add], gdT ((ni_inb (by omega)).mpr (by omega)), ni_tn (by omega), push_eq hM hs, bS]
    have l146 : ∀ M : Mem, SJ_X11_looks_146 rS (nl j) (ni (6 * p1 + k)) (ni p1) M = some (0, sl M 181 71 (gl M 216 (72 * p1 + (k * 12 + j)))) := fun M => by
      unfold SJ_X11_looks_146
      rw [i1, i2, nl_i, show (72 : Int32) * ni p1 + 12 * ni k + ni j = ni (72 * p1 + (k * 12 + j)) by rw [show (72 : Int32) = ni 72 from rfl, show (12 : Int32) = ni 12 from rfl, ni_mul, ni_mul, ni_add, ni_add]; exact congrArg ni (by omega), gdT ((ni_inb (by omega)).mpr (by omega)), ni_tn (by omega)]
    have ee : gl A (24 + 4 * p1) (k * 12 + j) = gl B 216 (72 * p1 + (k * 12 + j)) := dy.2.1 _ (by omega)
    have plain : (∃ e Ah Bh, Cf o a w v z nn L d y s pc b q st (sp + 1) Ah Bh ∧ FA (d + 1) (sp + 1) A Ah ∧ FB (sp + 1) B Bh ∧ Ph B Bh ∧ nst Bh = nst B ∧ SJ_X3_pushEntry_42 p1 (ni k) (nl j) (si A 144 4 (ni sp)) = some (0, si (sl (si Ah 144 4 (ni sp)) 177 sp e) 144 4 (ni (sp + 1))) ∧ SJ_X11_looks_146 rS (nl j) (ni (6 * p1 + k)) (ni p1) B = some (0, sl Bh 181 71 e)) :=
      ⟨_, A, B, hC, FrV.rf, FrV.rf, Ph.rf, rfl, c42 _ si_eq, by rw [l146, ← ee]; rfl⟩
    by_cases ey : p1 = y
    · rw [hfg, if_pos ey, if_pos rfl, if_pos (show ni p1 = ni y by rw [ey])]
      by_cases e4 : gi B 212 p1 = 4
      · rw [if_neg (fun q => q e4)]; exact plain
      · rw [if_pos e4]; exact plain
    · rw [hfg, if_neg ey, if_neg (show ¬ (1 : Int32) = 0 by decide), if_neg (show ¬ ni p1 = ni y from fun e => ey ((ni_inj (by omega) (by omega)).mp e)), gi_ne (show 21 + 4 * p1 ≠ 144 by omega), dy.1.1]
      by_cases e4 : gi B 212 p1 = 4
      · rw [if_neg (fun q => q e4), if_neg (fun q => q e4)]
        obtain ⟨c1, c2, c3, c4, c5⟩ := cf_half hC h1
        refine ⟨gl A (24 + 4 * p1) (k * 12 + j), _, _, c1, c2, c3, c4, c5, ?_, ?_⟩
        · rw [si_comm (by omega), c42 _ si_eq]; rfl
        · rw [l146]
          show some ((0 : Int32), sl (si B 215 p1 (gi B 215 p1 + 1)) 181 71 (gl B 216 (72 * p1 + (k * 12 + j)))) = _
          rw [← ee]
      · rw [if_pos e4, if_pos e4]; exact plain
  · right
    rw [k7, bS]; dsimp only
    rw [if_neg (fun q => q rfl)]
    refine ⟨rfl, ?_⟩
    rcases k8 with k8 | ⟨k, qz, k1, k2, k3, k4, k5, k6⟩
    · exact absurd ⟨p2, h2, rfl⟩ k8
    · have ek : k = p2 := ((ni_inj (by omega) (by have : k < ln A (s' + 5) := k1; omega)).mp k2).symm
      subst ek
      rw [k3, ni_l (by omega)]
      rcases k6 with k6 | k6
      · rw [if_pos k6]
      · rcases l_cases (gl A 177 sp) with hx | ⟨j, hj, ej⟩
        · rw [if_pos hx]
        · rw [ej] at k6 ⊢
          rw [if_neg (nl_n0 hj), if_neg (fun e => by have := (nl_lt hj (by omega)).mp e; have := (nl_le (by omega) hj).mp k6; omega)]
end En
