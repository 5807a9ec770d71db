-- ===== the lines of a bill, in both =====
/-- a voyage as its bill reads it, the settings that the reference keeps, and no bill yet -/
def BlR (q v n : Nat) (A B : Mem) : Prop := (gi A q 2 = ni n ∧ gi B 224 v = ni n) ∧ (gi A q 8 = 0 ∧ gi B 228 v = -1) ∧ (gi A q 0 = gi B 181 67 ∧ gi A q 1 = gi B 181 68) ∧ ∀ k, k < n → gi A (q + 1) k = gi B 225 (8 * v + k) ∧ gi A (q + 2) k = gi B 226 (8 * v + k) ∧ gi A (q + 3) k = gi B 227 (8 * v + k) ∧ ∃ y, y < 30 ∧ gi A (q + 2) k = ni y
theorem BlR.cg {q v n : Nat} {A A' B B' : Mem} (h : BlR q v n A B) (hq : 231 ≤ q) (g : WA A A') (k : WB2 B B') (e7 : gi B' 181 67 = gi B 181 67) (e8 : gi B' 181 68 = gi B 181 68) : BlR q v n A' B' := by
  have s : ∀ a, 231 ≤ a → Sm a A A' := fun a ha => g.sm (by omega)
  have t : ∀ a, 222 ≤ a → Sm a B B' := fun a ha => k.sm (by omega)
  unfold BlR
  rw [(s q hq).i, (s (q + 1) (by omega)).i, (s (q + 2) (by omega)).i, (s (q + 3) (by omega)).i, (t 224 (by omega)).i, (t 225 (by omega)).i, (t 226 (by omega)).i, (t 227 (by omega)).i, (t 228 (by omega)).i, e7, e8]
  exact h
theorem VyO.cg {q : Nat} {A A' : Mem} (h : VyO A q) (g : WA A A') : VyO A' q := by
  have s : ∀ a, 231 ≤ a → Sm a A A' := fun a ha => g.sm (by omega)
  have hq := h.1
  unfold VyO at h ⊢
  rw [(s q hq).k, (s (q + 1) (by omega)).k, (s (q + 2) (by omega)).k, (s (q + 3) (by omega)).k, (s (q + 4) (by omega)).k, (s (q + 1) (by omega)).l, (s (q + 2) (by omega)).l, (s (q + 3) (by omega)).l, (s (q + 4) (by omega)).l, (s q hq).r]
  exact h
/-- the reference's book -/
def bkB (x : Int32) (B : Mem) : Mem := if x = 0 then si B 181 83 (gi B 181 83 + 1) else si B 181 84 (gi B 181 84 + 1)
theorem bill_lp {L q v n : Nat} (hL : L < 1000000) (hv : v < 20) (hn : n ≤ 8) : ∀ d k, k + d = n → ∀ (A B : Mem) (z : Int64) (f g : Nat), Mi L A B → gi B 181 63 = 0 → Apt A q → VyO A q → BlR q v n A B → (∀ i, i < k → gl A (q + 4) i = gl B 230 (8 * v + i)) → d < f → d < g →
    ∃ x A' B', SJ_X3_charge_10 f (some q) z (ni k) A = some (x, A') ∧ SJ_X11_bill_54 g (ni v) z (ni k) B = some (x, bkB x B') ∧ Mi L A' B' ∧ gi B' 181 63 = 0 ∧ WQ q A A' ∧ WP v B B' ∧ (x = 0 → gi A' q 8 = ni n ∧ gi B' 228 v = ni n ∧ gl A' q 7 = gl B' 229 v ∧ ∀ i, i < n → gl A' (q + 4) i = gl B' 230 (8 * v + i)) ∧ (¬ x = 0 → gi A' q 8 = 0 ∧ gi B' 228 v = -1) := by
  intro d
  induction d with
  | zero =>
    intro k hk A B z f g m e63 ha ho hb hl hf hg
    obtain ⟨f, rfl⟩ : ∃ f', f = f' + 1 := ⟨f - 1, by omega⟩
    obtain ⟨g, rfl⟩ : ∃ g', g = g' + 1 := ⟨g - 1, by omega⟩
    have hk : k = n := by omega
    subst hk
    obtain ⟨⟨b1, b2⟩, -⟩ := hb
    have va : Mv q A (si (sl A q 7 z) q 8 (ni k)) := FrV.tr (frv_sl (by omega)) (frv_si (by omega))
    have vb : Mw v B (si (sl B 229 v z) 228 v (ni k)) := FrV.tr (frv_sl (by omega)) (frv_si (by omega))
    have q1 := ha.1
    refine ⟨0, si (sl A q 7 z) q 8 (ni k), si (sl B 229 v z) 228 v (ni k), ?_, ?_, mi_w (mi_v m ha va) vb, ?_, va.wq, vb.wp, fun _ => ⟨si_eq, si_eq, ?_, fun i hi => ?_⟩, fun e => absurd rfl e⟩
    · rw [SJ_X3_charge_10]; dsimp only
      rw [bi_fI ho.2.1.1, b1, if_pos (Int32.le_refl _)]
      unfold SJ_X3_charge_96
      rw [bi_pL ho.2.1.1, bi_fI (M := sl A q 7 z) ho.2.1.1, bi_pI (M := sl A q 7 z) ho.2.1.1, show gi (sl A q 7 z) q 2 = ni k from b1]
    · rw [SJ_X11_bill_54]; dsimp only
      rw [gdT ((ni_inb (by omega)).mpr hv), gdT ((ni_inb (by omega)).mpr hv), gdT ((ni_inb (by omega)).mpr hv), gdT ((ni_inb (by omega)).mpr hv)]
      simp only [show (ni v).toNatClampNeg = v from ni_tn (by omega)]
      rw [b2, if_pos (Int32.le_refl _), gi_sl, b2]; rfl
    · rw [gi_ne (by omega), gi_sl]; exact e63
    · rw [gl_si, gl_si, sl_eq, sl_eq]
    · rw [gl_si, gl_si, gl_ne (by omega), gl_ne (by omega)]; exact hl i hi
  | succ d ih =>
    intro k hk A B z f g m e63 ha ho hb hl hf hg
    obtain ⟨f, rfl⟩ : ∃ f', f = f' + 1 := ⟨f - 1, by omega⟩
    obtain ⟨g, rfl⟩ : ∃ g', g = g' + 1 := ⟨g - 1, by omega⟩
    have q1 := ha.1
    have kn : k < n := by omega
    have hb0 := hb
    obtain ⟨⟨b1, b2⟩, ⟨b3, b4⟩, ⟨b5, b6⟩, b7⟩ := hb
    obtain ⟨c1, c2, c3, Y, hY, c4⟩ := b7 k kn
    obtain ⟨x, A1, B1, s1, s2, -, m1, e631, wa1, wb1, j1⟩ := summon_mi hL hY m e63
    have ix : (8 : Int32) * ni v + ni k = ni (8 * v + k) := by rw [show (8 : Int32) * ni v = ni (8 * v) from ni_mul _ _, ni_add]
    have ho1 := ho.cg wa1
    have hb1 := hb0.cg q1 wa1 wb1 (j1 67 (by omega)) (j1 68 (by omega))
    have e226 : gi B 226 (8 * v + k) = ni Y := c2.symm.trans c4
    have ex : SJ_X3_charge_10 (f + 1) (some q) z (ni k) A = (if ¬ x = 0 then SJ_X3_charge_64 (SJ_X3_charge_10 f) (some q) z (ni k) x A1 else ((S_X3_prepare (some q) (ni k) A1).bind fun w10 => (fR w10.2 9 4 (some q)).bind fun x11 => (aI w10.2 20 x11 (ni k)).bind fun x12 => (S_X3_workRule x12 w10.2).bind fun w13 => SJ_X3_charge_64 (SJ_X3_charge_10 f) (some q) z (ni k) w13.1 w13.2)) := by
      rw [SJ_X3_charge_10]; dsimp only
      rw [bi_fI ho.2.1.1, b1, if_neg (fun e => by have := (ni_le (by omega) (by omega)).mp e; omega), if_neg (show ¬ (8 : Int32) ≤ ni k from fun e => by have := (ni_le (a := 8) (by omega) (by omega)).mp e; omega), bi_fR ho.2.1.1 ho.2.2.2.2.1, bi_aI ho.2.1.2.2.1 ho.2.2.1.2.1, gdT ((ni_inb (by omega)).mpr (by omega)), ni_tn (by omega), c4, s1, bS]
    have ey : SJ_X11_bill_54 (g + 1) (ni v) z (ni k) B = ((if x = 0 then SJ_X11_lined_25 FU (ni (8 * v + k)) (ni Y) 0 B1 else some (x, B1)).bind fun w1 => if w1.1 = 0 then SJ_X11_bill_54 g (ni v) (z + gl (sl w1.2 230 (8 * v + k) (gl w1.2 181 71)) 181 71) (ni k + 1) (sl w1.2 230 (8 * v + k) (gl w1.2 181 71)) else some (w1.1, si w1.2 181 84 (gi w1.2 181 84 + 1))) := by
      rw [SJ_X11_bill_54]; dsimp only
      rw [gdT ((ni_inb (by omega)).mpr hv)]
      simp only [show (ni v).toNatClampNeg = v from ni_tn (by omega)]
      rw [b2, if_neg (fun e => by have := (ni_le (by omega) (by omega)).mp e; omega)]
      unfold S_X11_lined
      simp only [ix, show (ni (8 * v + k)).toNatClampNeg = 8 * v + k from ni_tn (by omega)]
      rw [gdT ((ni_inb (by omega)).mpr (by omega)), e226, s2, bS]; dsimp only
      refine congrArg _ (funext fun w => ?_)
      rw [gdT ((ni_inb (by omega)).mpr (by omega))]
    have fin : ∀ (x : Int32) (A3 B3 : Mem), ¬ x = 0 → Mi L A3 B3 → gi B3 181 63 = 0 → WQ q A A3 → WP v B B3 → BlR q v n A3 B3 → SJ_X3_charge_10 (f + 1) (some q) z (ni k) A = SJ_X3_charge_64 (SJ_X3_charge_10 f) (some q) z (ni k) x A3 → SJ_X11_bill_54 (g + 1) (ni v) z (ni k) B = some (x, si B3 181 84 (gi B3 181 84 + 1)) →
        ∃ x A' B', SJ_X3_charge_10 (f + 1) (some q) z (ni k) A = some (x, A') ∧ SJ_X11_bill_54 (g + 1) (ni v) z (ni k) B = some (x, bkB x B') ∧ Mi L A' B' ∧ gi B' 181 63 = 0 ∧ WQ q A A' ∧ WP v B B' ∧ (x = 0 → gi A' q 8 = ni n ∧ gi B' 228 v = ni n ∧ gl A' q 7 = gl B' 229 v ∧ ∀ i, i < n → gl A' (q + 4) i = gl B' 230 (8 * v + i)) ∧ (¬ x = 0 → gi A' q 8 = 0 ∧ gi B' 228 v = -1) := by
      intro x A3 B3 hx m3 e3 wq wp hb3 f1 f2
      refine ⟨x, A3, B3, ?_, ?_, m3, e3, wq, wp, fun e => absurd e hx, fun _ => hb3.2.1⟩
      · rw [f1]; unfold SJ_X3_charge_64; rw [if_neg hx]
      · rw [f2]; unfold bkB; rw [if_neg hx]
    by_cases hx : x = 0
    · subst hx
      have pa : PA A1 (ppA A1 q k) := ppA_pa
      obtain ⟨g0, g1, g2, g3⟩ := ppA_gl (A := A1) (q := q) (k := k)
      have m2 : Mi L (ppA A1 q k) B1 := mi_p m1 pa FrV.rf
      have ho2 := ho1.cg pa.q
      have hb2 : BlR q v n (ppA A1 q k) B1 := hb1.cg q1 pa.q FrV.rf rfl rfl
      obtain ⟨-, -, ⟨d5, d6⟩, d7⟩ := hb1
      obtain ⟨d1, d2, d3, -⟩ := d7 k kn
      have hg2 : Stg (ppA A1 q k) (si (si B1 181 69 (gi B1 225 (8 * v + k))) 181 70 (gi B1 227 (8 * v + k))) := by
        intro j hj
        rcases (show j = 0 ∨ j = 1 ∨ j = 2 ∨ j = 3 by omega) with rfl | rfl | rfl | rfl
        · rw [g0, d5, si_ff' (by omega), si_ff' (by omega)]
        · rw [g1, d6, si_ff' (by omega), si_ff' (by omega)]
        · rw [g2, d1, si_ff' (by omega), si_eq]
        · rw [g3, d3, si_eq]
      obtain ⟨x, A3, B3, r1, r2, -, m3, e3, wa3, wb3, r3, j3⟩ := wrule_mi (show 8 * v + k < 160 by omega) hL hY m2 e631 hg2
      have hb3 := hb2.cg q1 wa3 wb3 (j3 67 (by omega)) (j3 68 (by omega))
      have ho3 := ho2.cg wa3
      have wqa : WQ q A A3 := FrV.tr (FrV.tr (WA.wq wa1) (WA.wq pa.q)) (WA.wq wa3)
      have wpb : WP v B B3 := FrV.tr (WB2.wp wb1) (WB2.wp wb3)
      have c4' : gi (ppA A1 q k) (q + 2) k = ni Y := by rw [(pa.q.sm (a := q + 2) (by omega)).i, (wa1.sm (a := q + 2) (by omega)).i]; exact c4
      have ex2 : SJ_X3_charge_10 (f + 1) (some q) z (ni k) A = SJ_X3_charge_64 (SJ_X3_charge_10 f) (some q) z (ni k) x A3 := by
        rw [ex, if_neg (fun e => e rfl), prep_eq ho1 (by omega), bS]; dsimp only
        rw [bi_fR ho2.2.1.1 ho2.2.2.2.2.1, bi_aI ho2.2.1.2.2.1 ho2.2.2.1.2.1, gdT ((ni_inb (by omega)).mpr (by omega)), ni_tn (by omega), c4', r1, bS]
      by_cases hx : x = 0
      · subst hx
        have va : Mv q A3 (sl A3 (q + 4) k (gl A3 144 6)) := frv_sl (by omega)
        have vb : Mw v B3 (sl B3 230 (8 * v + k) (gl B3 181 71)) := frv_sl (by omega)
        have ha3 : Apt A3 q := ha.wq wqa
        have o4 : ∀ i, i < 8 → i ≠ k → gl (sl A3 (q + 4) k (gl A3 144 6)) (q + 4) i = gl A (q + 4) i := fun i _ hi => by
          rw [gl_sl, if_neg (by omega), (wa3.sm (a := q + 4) (by omega)).j, (pa.q.sm (a := q + 4) (by omega)).j, (wa1.sm (a := q + 4) (by omega)).j]
        have o5 : ∀ i, i ≠ k → gl (sl B3 230 (8 * v + k) (gl B3 181 71)) 230 (8 * v + i) = gl B 230 (8 * v + i) := fun i hi => by
          rw [gl_sl, if_neg (by omega), (wb3.sm (a := 230) (by omega)).j, (wb1.sm (a := 230) (by omega)).j]
        obtain ⟨x, A', B', t1, t2, t3, t4, t5, t6, t7, t8⟩ := ih (k + 1) (by omega) (sl A3 (q + 4) k (gl A3 144 6)) (sl B3 230 (8 * v + k) (gl B3 181 71)) (z + gl A3 144 6) f g (mi_w (mi_v m3 ha3 va) vb) e3 (ha3.wq va.wq) ho3 hb3 (fun i hi => by
          by_cases e : i = k
          · subst e; rw [sl_eq, sl_eq]; exact r3 rfl
          · rw [o4 i (by omega) e, o5 i e]; exact hl i (by omega)) (by omega) (by omega)
        refine ⟨x, A', B', ?_, ?_, t3, t4, FrV.tr (FrV.tr wqa va.wq) t5, FrV.tr (FrV.tr wpb vb.wp) t6, t7, t8⟩
        · rw [ex2]; unfold SJ_X3_charge_64
          rw [if_pos rfl, bi_fR ho3.2.1.1 ho3.2.2.2.2.2.2, bi_uL ho3.2.1.2.2.2.2 ho3.2.2.1.2.2.2, gdT ((ni_inb (by omega)).mpr (by omega)), ni_tn (by omega), gl_ne (show 144 ≠ q + 4 by omega), show ni k + 1 = ni (k + 1) from ni_add k 1]
          exact t1
        · rw [ey, if_pos rfl, r2, bS]; dsimp only
          rw [if_pos rfl, gl_ne (show 181 ≠ 230 by omega), show ni k + 1 = ni (k + 1) from ni_add k 1, ← r3 rfl]
          rw [r3 rfl] at t2 ⊢
          exact t2
      · refine fin x A3 B3 hx m3 e3 wqa wpb hb3 ex2 ?_
        rw [ey, if_pos rfl, r2, bS]; dsimp only
        rw [if_neg hx]
    · refine fin x A1 B1 hx m1 e631 wa1.wq wb1.wp hb1 ?_ ?_
      · rw [ex, if_pos hx]
      · rw [ey, if_neg hx, bS]; dsimp only
        rw [if_neg hx]
