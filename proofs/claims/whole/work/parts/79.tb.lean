-- ===== a table is built, in both =====
theorem id8 {C q : Nat} (h : C * 8 + q < 2147483648) (hq : q < 8) : ni (C * 8 + q) / 8 = ni C ∧ ni (C * 8 + q) - ni C * 8 = ni q := by
  constructor
  · apply Int32.toInt_inj.mp
    rw [Int32.toInt_div_of_ne_right _ _ (by decide), ni_toInt h, ni_toInt (show C < 2147483648 by omega), show (8 : Int32).toInt = 8 from rfl, Int.tdiv_eq_ediv_of_nonneg (by omega)]
    omega
  · rw [show (8 : Int32) = ni 8 from rfl, ni_mul, ni_sub (by omega)]
    exact congrArg ni (by omega)
theorem mi_ent {L y k : Nat} {x : Int64} {A B : Mem} (h : Mi L A B) (hy : y < 30) (hk : k < 72) : Mi L (sl A (24 + 4 * y) k x) (sl B 216 (72 * y + k) x) := by
  refine mi_mk h (frv_sl (by omega)) (frv_sl (by omega)) rfl rfl (gl_ne (by omega)) (fun u hu => ?_) ?_
  · obtain ⟨d1, d2, d3⟩ := h.2.2.2.2.2.1 u hu
    refine ⟨d1, fun i hi => ?_, d3⟩
    rw [gl_sl, gl_sl]
    by_cases e : u = y ∧ i = k
    · rw [if_pos (by omega), if_pos (by omega)]
    · rw [if_neg (by omega), if_neg (by omega)]; exact d2 i hi
  · exact h.2.2.2.2.2.2
theorem hasE_n {A B : Mem} {y s q qz i : Nat} (hF : FSC A) (hy : y < 30) (hr : gr A (21 + 4 * y) 0 = some s) (g : ShR A B (some s) (30 + y) y) (hq : q < ln A (s + 5)) (hz : gi B 202 (6 * (30 + y) + q) = ni qz) (h12 : qz ≤ 12) (hi : i < 1000) : S_X8_hasEntry y (ni q) (nl i) A = some (if i < qz then 1 else 0, A) := by
  have l6 : ln A (s + 5) ≤ 6 := g.2.2.1.2.2.2.1.2.1
  rcases hasE hF hy hr g (ni q) (nl i) with ⟨k, u, j, k1, k2, k3, k4, k5, k6, k7⟩ | ⟨k7, k8⟩
  · have ek : k = q := ((ni_inj (by omega) (by omega)).mp k2).symm
    subst ek
    have eu : qz = u := (ni_inj (by omega) (by omega)).mp (hz.symm.trans k3)
    have ej : i = j := (nl_inj (by omega) (by omega)).mp k6
    rw [k7, if_pos (by omega)]
  · rw [k7]
    rcases k8 with k8 | ⟨k, u, k1, k2, k3, k4, k5, k6⟩
    · exact absurd ⟨q, hq, rfl⟩ k8
    · have ek : k = q := ((ni_inj (by omega) (by omega)).mp k2).symm
      subst ek
      have eu : qz = u := (ni_inj (by omega) (by omega)).mp (hz.symm.trans k3)
      rcases k6 with k6 | k6
      · exact absurd k6 (nl_n0 (by omega))
      · have := (nl_le (by omega) (by omega)).mp k6
        rw [if_neg (by omega)]
section Tbl
variable {o : Nat → Int32} {a : Nat → Int64} {w : Nat → Int32} {v : Nat → Int64} {z : Nat → Int32} {nn : Nat} {L f d y s pc b q sp : Nat} {A B A1 B1 : Mem} {rS : Int32 → Mem → Option (Int32 × Mem)}
/-- an entry is stored -/
theorem store1 {c i qz C : Nat} {x : Int64} (hW : Wd o a w v z nn L d y s c b i 1 x A B) (hsy : gr A (21 + 4 * y) 0 = some s) (hq : q < ln A (s + 5)) (hz : gi B 202 (6 * (30 + y) + q) = ni qz) (h12 : qz ≤ 12) (hi : i < qz) (hb : b < 1240) (hc : c < nn) (ho : o c = 18) (ha : a c = nl (C * 8 + q)) (hC : C < 1024) :
    ∃ A', Go A 1 A' ∧ Cf o a w v z nn L d y s (if i + 1 < qz then C else c + 1) b (i + 1) 1 b A' (sl B 216 (72 * y + (12 * q + i)) x) ∧ FA d b A A' ∧ FB b B (sl B 216 (72 * y + (12 * q + i)) x) := by
  obtain ⟨mi, hR, fr, ⟨t1, t2, t3, t4⟩, hk, x1, x2⟩ := hW
  obtain ⟨f0, f1, f2, f3, f4, f5⟩ := fr
  have hd : d < 31 := by omega
  have y30 := hR.1.2.2.2.2
  have g := mi.2.2.1 y y30
  rw [hsy] at g
  have l6 : ln A (s + 5) ≤ 6 := g.2.2.1.2.2.2.1.2.1
  obtain ⟨i1, i2⟩ := id8 (C := C) (q := q) (by omega) (by omega)
  have pa1 : PA A (si A 144 4 (ni b)) := frv_si (by omega)
  have m1 := mi_p mi pa1 (FrV.rf (A := B))
  have m2 := mi_ent (x := x) m1 y30 (show 12 * q + i < 72 by omega)
  have pa3 : PA (sl (si A 144 4 (ni b)) (24 + 4 * y) (12 * q + i) x) (si (sl (si A 144 4 (ni b)) (24 + 4 * y) (12 * q + i) x) (146 + d) 4 (ni (i + 1))) := frv_si (by omega)
  have m3 := mi_p m2 pa3 (FrV.rf (A := sl B 216 (72 * y + (12 * q + i)) x))
  have g1 := m1.2.2.1 y y30
  rw [show gr (si A 144 4 (ni b)) (21 + 4 * y) 0 = some s from hsy] at g1
  have g3 := m3.2.2.1 y y30
  rw [show gr (si (sl (si A 144 4 (ni b)) (24 + 4 * y) (12 * q + i) x) (146 + d) 4 (ni (i + 1))) (21 + 4 * y) 0 = some s from hsy] at g3
  have adv : S_X3_advance d A = if i + 1 < qz then some (-1, si (si (sl (si A 144 4 (ni b)) (24 + 4 * y) (12 * q + i) x) (146 + d) 4 (ni (i + 1))) (146 + d) 2 (ni C)) else some (0, si (sl (si A 144 4 (ni b)) (24 + 4 * y) (12 * q + i) x) (146 + d) 4 (ni (i + 1))) := by
    obtain ⟨⟨-, r2, r3, r4, -⟩, r6, -⟩ := hR
    rw [adv_eq r2 (by omega) f1 f2 (by omega), (r6 c).1, (r6 c).2, ho, ha]
    unfold advO
    rw [if_neg (by decide), if_neg (by decide), if_neg (by decide), if_neg (by decide), if_neg (by decide), if_neg (by decide), if_neg (by decide), if_neg (by decide), if_neg (by decide), if_neg (by decide), if_pos rfl]
    unfold S_X3_storeEntry SJ_X3_storeEntry_56
    rw [f0, gdT ((ni_inb (by omega)).mpr y30), ni_tn (a := y) (by omega), pop_eq t2 hb, bS, nl_i, i1, i2, x1]; dsimp only
    rw [gi_ne (show 146 + d ≠ 144 by omega), f4, ni_l (by omega), hasE_n m1.1 y30 hsy g1 hq hz h12 (by omega), bS, if_pos hi]; dsimp only
    rw [if_neg (show ¬ (1 : Int32) = 0 by decide), gi_ne (show 146 + d ≠ 144 by omega), f4, show ni q * 12 + ni i = ni (12 * q + i) by rw [show (12 : Int32) = ni 12 from rfl, ni_mul, ni_add]; exact congrArg ni (by omega), gdT ((ni_inb (by omega)).mpr (by omega)), ni_tn (by omega), gi_sl, gi_ne (show 146 + d ≠ 144 by omega), f4, show ni i + 1 = ni (i + 1) from ni_add i 1, si_eq, ni_l (by omega), hasE_n m3.1 y30 hsy g3 hq (show gi (sl B 216 (72 * y + (12 * q + i)) x) 202 (6 * (30 + y) + q) = ni qz from hz) h12 (by omega), bS]; dsimp only
    by_cases e : i + 1 < qz
    · rw [if_pos e, if_pos e, if_pos (by decide), bS]
    · rw [if_neg e, if_neg e, if_neg (by decide), bS]
  have fin : ∀ pc', Cf o a w v z nn L d y s pc' b (i + 1) 1 b (si (si (sl (si A 144 4 (ni b)) (24 + 4 * y) (12 * q + i) x) (146 + d) 4 (ni (i + 1))) (146 + d) 2 (ni pc')) (sl B 216 (72 * y + (12 * q + i)) x) ∧ FA d b A (si (si (sl (si A 144 4 (ni b)) (24 + 4 * y) (12 * q + i) x) (146 + d) 4 (ni (i + 1))) (146 + d) 2 (ni pc')) := by
    intro pc'
    have fa : FA d b A (si (si (sl (si A 144 4 (ni b)) (24 + 4 * y) (12 * q + i) x) (146 + d) 4 (ni (i + 1))) (146 + d) 2 (ni pc')) := (((frv_si (by omega)).tr (frv_sl (by omega))).tr (frv_si (by omega))).tr (frv_si (by omega))
    have wb : WB2 B (sl B 216 (72 * y + (12 * q + i)) x) := frv_sl (by omega)
    have pa4 : PA (si (sl (si A 144 4 (ni b)) (24 + 4 * y) (12 * q + i) x) (146 + d) 4 (ni (i + 1))) (si (si (sl (si A 144 4 (ni b)) (24 + 4 * y) (12 * q + i) x) (146 + d) 4 (ni (i + 1))) (146 + d) 2 (ni pc')) := frv_si (by omega)
    have fj : ∀ j, j ≠ 4 → j ≠ 2 → gi (si (si (sl (si A 144 4 (ni b)) (24 + 4 * y) (12 * q + i) x) (146 + d) 4 (ni (i + 1))) (146 + d) 2 (ni pc')) (146 + d) j = gi A (146 + d) j := fun j h4 h2 => by
      rw [si_ff' h2, si_ff' h4, gi_sl, gi_ne (show 146 + d ≠ 144 by omega)]
    refine ⟨⟨mi_p m3 pa4 FrV.rf, rw_q hR fa.q wb, ⟨(fj 0 (by omega) (by omega)).trans f0, f1, si_eq, (fj 3 (by omega) (by omega)).trans f3, ?_, (fj 5 (by omega) (by omega)).trans f5⟩, ⟨?_, ?_, t3, fun k hk => ?_⟩, hk⟩, fa⟩
    · rw [si_ff' (by omega), si_eq]
    · rw [gi_ne (by omega), gi_ne (by omega), gi_sl, si_ff' (by omega)]; exact t1
    · rw [gi_ne (by omega), gi_ne (by omega), gi_sl, si_eq]
    · rw [gl_si, gl_si, gl_ne (by omega), gl_si, gl_ne (by omega)]; exact t4 k hk
  by_cases e : i + 1 < qz
  · rw [if_pos e] at adv ⊢
    exact ⟨_, go_m t1 hd adv, (fin C).1, (fin C).2, frv_sl (by omega)⟩
  · rw [if_neg e] at adv ⊢
    have g0 := go_0 t1 hd adv
    rw [show gi (si (sl (si A 144 4 (ni b)) (24 + 4 * y) (12 * q + i) x) (146 + d) 4 (ni (i + 1))) (146 + d) 2 = ni c by rw [si_ff' (by omega), gi_sl, gi_ne (by omega)]; exact f2, show ni c + 1 = ni (c + 1) from ni_add c 1] at g0
    exact ⟨_, g0, (fin (c + 1)).1, (fin (c + 1)).2, frv_sl (by omega)⟩
end Tbl
