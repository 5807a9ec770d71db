-- ===== worksConstants =====
theorem ev1_im {A : Mem} {f g : Nat → Nat → Option Int64} (h : ∀ q, isC A q → ∀ v, f q.1 q.2 = some v → g q.1 q.2 = some v) {op : Int32} {arg : Int64} {st st' : List Int64} (e : ev1 A f op arg st = some st') : ev1 A g op arg st = some st' := by
  unfold ev1 at e ⊢
  by_cases h3 : op = 3
  · rw [if_pos h3] at e ⊢
    cases hq : fdC A 0 (arg &&& 1099511627775) 30 (tn (arg >>> 40).toInt32) with
    | none => rw [hq] at e; cases e
    | some q =>
      rw [hq] at e
      dsimp only at e ⊢
      have hc : isC A q := fdC_lt hq
      cases hf : f q.1 q.2 with
      | none => rw [hf] at e; cases e
      | some x => rw [hf] at e; rw [h q hc _ hf]; exact e
  · rw [if_neg h3] at e ⊢; exact e
theorem evR_im {A : Mem} {f g : Nat → Nat → Option Int64} (h : ∀ q, isC A q → ∀ v, f q.1 q.2 = some v → g q.1 q.2 = some v) {s : Nat} : ∀ {n pc : Nat} {st : List Int64} {v : Int64}, evR A f s n pc st = some v → evR A g s n pc st = some v := by
  intro n
  induction n with
  | zero => intro pc st v e; cases e
  | succ n ih =>
    intro pc st v e
    unfold evR at e ⊢
    split at e
    · cases e
    · rename_i h1
      rw [if_neg h1]
      split at e
      · rename_i h2
        rw [if_pos h2]; exact e
      · rename_i h2
        rw [if_neg h2]
        cases h3 : ev1 A f (gi A (s + 1) pc) (gl A (s + 2) pc) st with
        | none => rw [h3] at e; cases e
        | some st1 =>
          rw [h3] at e
          rw [ev1_im h h3]; exact ih e
theorem evC_im {A : Mem} {f g : Nat → Nat → Option Int64} (h : ∀ q, isC A q → ∀ v, f q.1 q.2 = some v → g q.1 q.2 = some v) {y k : Nat} {v : Int64} (e : evC A f y k = some v) : evC A g y k = some v := by
  unfold evC at e ⊢
  cases hs : gr A (21 + 4 * y) 0 with
  | none => rw [hs] at e; cases e
  | some s =>
    rw [hs] at e
    dsimp only at e ⊢
    split at e
    · rename_i h1
      rw [if_pos h1]; exact evR_im h e
    · cases e
theorem vl_isC {A : Mem} {i y k : Nat} {v : Int64} (hy : y < 30) (e : vlC A i y k = some v) : isC A (y, k) := by
  cases i with
  | zero => cases e
  | succ i =>
    rw [vl_s] at e
    unfold evC at e
    cases hs : gr A (21 + 4 * y) 0 with
    | none => rw [hs] at e; cases e
    | some s =>
      rw [hs] at e
      dsimp only at e
      split at e
      · rename_i h; exact ⟨hy, s, hs, h⟩
      · cases e
theorem slr_8 {A B : Mem} (hS : SlR A B) {q : Nat × Nat} (h : isC A q) : q.2 < 8 := by
  obtain ⟨h1, s, h2, h3⟩ := h
  have g := hS q.1 h1
  rw [h2] at g
  have : ln A (s + 3) ≤ 8 := g.2.2.1.2.2.1.2.1
  omega
def FrK (sp : Nat) (B B' : Mem) : Prop := FrW (fun a i => a = 217 ∨ a = 218 ∨ (a = 219 ∧ sp ≤ i)) B B'
theorem FrK.trans {sp : Nat} {A B C : Mem} (h : FrK sp A B) (g : FrK sp B C) : FrK sp A C := FrW.tr h g (fun a i u => ⟨u, u⟩)
theorem FrK.slr {sp : Nat} {A B B' : Mem} (f : FrK sp B B') (h : SlR A B) : SlR A B' := fun y hy => shr_cg (h y hy) (fun _ _ _ _ _ => Sm.rf) (Nat.le_refl _) (fun a a1 a2 => f.1.sm (funext fun i => (f.2 a i (by omega)).1) (funext fun i => (f.2 a i (by omega)).2))
theorem comesOut_ok {A B : Mem} (hS : SlR A B) {y k sp : Nat} (hq : isC A (y, k)) (h63 : gi B 181 63 = ni sp) (hsp : sp ≤ 2000) :
    (∃ B', S_X11_comesOut (ni (8 * y + k)) B = some (1, B') ∧ evC A (kn B) y k = some (gl B' 218 (8 * y + k)) ∧ FrW (fun a i => (a = 219 ∧ sp ≤ i) ∨ (a = 218 ∧ i = 8 * y + k)) B B') ∨
    (∃ B', S_X11_comesOut (ni (8 * y + k)) B = some (0, B') ∧ evC A (kn B) y k = none ∧ FrP sp B B') := by
  have k8 := slr_8 hS hq
  obtain ⟨hy, s, hs, hk⟩ := hq
  have hs : gr A (21 + 4 * y) 0 = some s := hs
  have hy : y < 30 := hy
  have k8 : k < 8 := k8
  have hk : k < ln A (s + 3) := hk
  have g := hS y hy
  rw [hs] at g
  obtain ⟨g1, g2, g3, -⟩ := g
  obtain ⟨⟨t1, t2⟩, t3, ⟨t4, t5, t6⟩, ⟨t7, t8, t9⟩, t10, t11, t12, -⟩ := g3
  obtain ⟨-, c, r, n, f1, f2, f3, f4, f5, f6, f7⟩ := t6 k hk
  have f1 : gi A (s + 4) k = ni c := f1
  have f2 : gi B 199 (8 * (30 + y) + k) = ni r := f2
  have f4 : gi A (s + 1) (c + n) = 20 := f4
  have f5 : gi B 208 (1200 * (30 + y) + (r + n)) = 11 := f5
  have f6 : c + n < ln A (s + 1) := f6
  have t12 : ln A (s + 1) ≤ 1024 := t12
  obtain ⟨d1, d2⟩ := id_div hy k8
  have e0 : S_X11_comesOut (ni (8 * y + k)) B = SJ_X11_comesOut_39 FU (ni (8 * y + k)) (ni y) (ni (1200 * (30 + y))) (ni sp) (ni r) B := by
    unfold S_X11_comesOut
    rw [d1, d2, show (30 : Int32) + ni y = ni (30 + y) from ni_add 30 y, show (8 : Int32) * ni (30 + y) + ni k = ni (8 * (30 + y) + k) by rw [show (8 : Int32) = ni 8 from rfl, ni_mul, ni_add], show (1200 : Int32) * ni (30 + y) = ni (1200 * (30 + y)) by rw [show (1200 : Int32) = ni 1200 from rfl, ni_mul], gdT ((ni_inb (by omega)).mpr (by omega)), ni_tn (by omega), h63, f2]
  have ec : evC A (kn B) y k = evR A (kn B) s 1100 c [] := by
    unfold evC
    rw [hs]; dsimp only
    rw [if_pos hk, f1, show tn (ni c) = c from ni_tn (by omega)]
  obtain ⟨o, oC, oR⟩ := rc_all (v1 := ni (8 * y + k)) hy hS rfl f3 (by omega) (by omega)
  have oC := oC (1100 - n) [] (by decide)
  have oR := oR (FU - n) sp B FrW.rf (by omega)
  have hFU : FU = 4000000 := rfl
  rw [show 1100 - n + n = 1100 by omega] at oC
  rw [e0, ec, oC]
  cases o with
  | none =>
    right
    obtain ⟨B'', q1, q2⟩ := oR
    rw [show FU - n + n = FU by omega] at q1
    exact ⟨B'', q1, rfl, q2⟩
  | some x =>
    left
    obtain ⟨B'', q1, q2, q3⟩ := oR
    rw [show FU - n + n = FU by omega] at q1
    dsimp only
    obtain ⟨N, hN⟩ : ∃ N, 1100 - n = N + 1 := ⟨1100 - n - 1, by omega⟩
    obtain ⟨F, hF⟩ : ∃ F, FU - n = F + 1 := ⟨FU - n - 1, by omega⟩
    rw [hN, evR_20 f6 f4, q1, hF, s39_stop hy (by omega) ((q2.2 208 _ (by omega)).1.trans f5), show ni (sp + 1) - 1 = ni sp from (ni_sub (a := sp + 1) (b := 1) (by omega)).trans (by rw [show sp + 1 - 1 = sp by omega]), gdT ((ni_inb (by omega)).mpr (by omega)), gdT ((ni_inb (by omega)).mpr (by omega)), ni_tn (by omega), ni_tn (by omega), q3]
    refine ⟨_, rfl, ?_, FrW.tr q2 frw_sl (fun a i u => by omega)⟩
    rw [sl_eq]; rfl
/-- what is known is right -/
def KI (A B : Mem) : Prop := ∀ q, isC A q → (gi B 217 (8 * q.1 + q.2) = 0 ∨ gi B 217 (8 * q.1 + q.2) = 1) ∧ (¬ gi B 217 (8 * q.1 + q.2) = 0 → ∃ i, vlC A i q.1 q.2 = some (gl B 218 (8 * q.1 + q.2)))
theorem ki_lv {A B : Mem} (hS : SlR A B) (h : KI A B) : ∃ I, ∀ q, isC A q → ¬ gi B 217 (8 * q.1 + q.2) = 0 → vlC A I q.1 q.2 = some (gl B 218 (8 * q.1 + q.2)) := by
  have key : ∀ m, ∃ I, ∀ q, isC A q → 8 * q.1 + q.2 < m → ¬ gi B 217 (8 * q.1 + q.2) = 0 → vlC A I q.1 q.2 = some (gl B 218 (8 * q.1 + q.2)) := by
    intro m
    induction m with
    | zero => exact ⟨0, fun q _ h => by omega⟩
    | succ m ih =>
      obtain ⟨I, hI⟩ := ih
      by_cases z : ∃ q, isC A q ∧ 8 * q.1 + q.2 = m ∧ ¬ gi B 217 (8 * q.1 + q.2) = 0
      · obtain ⟨q, q1, q2, q3⟩ := z
        obtain ⟨i, hi⟩ := (h q q1).2 q3
        refine ⟨max I i, fun p p1 p2 p3 => ?_⟩
        by_cases e : 8 * p.1 + p.2 = m
        · have p8 := slr_8 hS p1
          have q8 := slr_8 hS q1
          have : p = q := Prod.ext (by omega) (by omega)
          rw [this]; exact vl_mono (Nat.le_max_right _ _) hi
        · exact vl_mono (Nat.le_max_left _ _) (hI p p1 (by omega) p3)
      · refine ⟨I, fun p p1 p2 p3 => ?_⟩
        by_cases e : 8 * p.1 + p.2 = m
        · exact absurd ⟨p, p1, e, p3⟩ z
        · exact hI p p1 (by omega) p3
  obtain ⟨I, hI⟩ := key 240
  exact ⟨I, fun q q1 q2 => hI q q1 (by have := slr_8 hS q1; have := q1.1; omega) q2⟩
theorem ki_new {A B : Mem} (hS : SlR A B) (h : KI A B) {y k : Nat} {v : Int64} (e : evC A (kn B) y k = some v) : ∃ i, vlC A i y k = some v := by
  obtain ⟨I, hI⟩ := ki_lv hS h
  refine ⟨I + 1, ?_⟩
  rw [vl_s]
  refine evC_im (fun q hq v hv => ?_) e
  unfold kn at hv
  split at hv
  · cases hv
  · rename_i z
    cases hv; exact hI q hq z
def unk (B : Mem) : Nat := cnt (fun i => decide (gi B 217 i = 0)) 240
theorem kn_cg {B B' : Mem} (h1 : ∀ i, gi B' 217 i = gi B 217 i) (h2 : ∀ i, ¬ gi B 217 i = 0 → gl B' 218 i = gl B 218 i) : kn B' = kn B := by
  funext y k
  unfold kn
  rw [h1]
  split
  · rfl
  · rename_i z; rw [h2 _ z]
def Cpl (A B : Mem) (c : Nat) : Prop := ∀ q, isC A q → c ≤ 8 * q.1 + q.2 → gi B 217 (8 * q.1 + q.2) = 0 → evC A (kn B) q.1 q.2 = none
theorem wc_52 {A : Mem} {k44 : Int32 → Mem → Option (Unit × Mem)} {sp : Nat} (hsp : sp ≤ 2000) : ∀ {j c F : Nat} {v : Int32} {B : Mem}, c + j = 240 → j < F → SlR A B → KI A B → gi B 181 63 = ni sp → (v = 0 ∨ v = 1) → ∃ B' v', SJ_X11_worksConstants_52 k44 F v (ni c) B = k44 v' B' ∧ FrK sp B B' ∧ KI A B' ∧ (v' = 0 ∨ v' = 1) ∧ (v' = 0 → v = 0 ∧ (∀ i, gi B' 217 i = gi B 217 i) ∧ (∀ i, ¬ gi B 217 i = 0 → gl B' 218 i = gl B 218 i) ∧ Cpl A B c) ∧ (v' = 1 → v = 1 ∨ unk B' + 1 ≤ unk B) ∧ unk B' ≤ unk B := by
  intro j
  induction j with
  | zero =>
    intro c F v B hc hF hS hK h63 hv
    obtain ⟨F, rfl⟩ : ∃ u, F = u + 1 := ⟨F - 1, by omega⟩
    rw [SJ_X11_worksConstants_52]; dsimp only
    rw [if_pos (show (240 : Int32) ≤ ni c from (ni_le (a := 240) (by omega) (by omega)).mpr (by omega))]
    exact ⟨B, v, rfl, FrW.rf, hK, hv, fun e => ⟨e, fun _ => rfl, fun _ _ => rfl, fun q hq h => by have := slr_8 hS hq; have := hq.1; omega⟩, fun e => Or.inl e, Nat.le_refl _⟩
  | succ j ih =>
    intro c F v B hc hF hS hK h63 hv
    obtain ⟨F, rfl⟩ : ∃ u, F = u + 1 := ⟨F - 1, by omega⟩
    obtain ⟨y, k, hy, hk, ec⟩ : ∃ y k, y < 30 ∧ k < 8 ∧ c = 8 * y + k := ⟨c / 8, c % 8, by omega, by omega, by omega⟩
    obtain ⟨d1, d2⟩ := id_div hy hk
    -- nothing to do here
    have skip : (isC A (y, k) → ¬ gi B 217 c = 0) → ∃ B' v', SJ_X11_worksConstants_52 k44 F v (ni (c + 1)) B = k44 v' B' ∧ FrK sp B B' ∧ KI A B' ∧ (v' = 0 ∨ v' = 1) ∧ (v' = 0 → v = 0 ∧ (∀ i, gi B' 217 i = gi B 217 i) ∧ (∀ i, ¬ gi B 217 i = 0 → gl B' 218 i = gl B 218 i) ∧ Cpl A B c) ∧ (v' = 1 → v = 1 ∨ unk B' + 1 ≤ unk B) ∧ unk B' ≤ unk B := by
      intro hn
      obtain ⟨B', v', g1, g2, g3, g4, g5, g6, g7⟩ := ih (c := c + 1) (F := F) (v := v) (B := B) (by omega) (by omega) hS hK h63 hv
      refine ⟨B', v', g1, g2, g3, g4, fun e => ?_, g6, g7⟩
      obtain ⟨e1, e2, e3, e4⟩ := g5 e
      refine ⟨e1, e2, e3, fun q hq hcq h0 => ?_⟩
      by_cases z : 8 * q.1 + q.2 = c
      · have q8 := slr_8 hS hq
        have : q = (y, k) := Prod.ext (by dsimp only; omega) (by dsimp only; omega)
        rw [z] at h0
        exact absurd h0 (hn (this ▸ hq))
      · exact e4 q hq (by omega) h0
    rw [SJ_X11_worksConstants_52]; dsimp only
    unfold SJ_X11_worksConstants_128 SJ_X11_worksConstants_133 SJ_X11_worksConstants_134
    rw [if_neg (show ¬ (240 : Int32) ≤ ni c from fun e => by have := (ni_le (a := 240) (by omega) (by omega)).mp e; omega), gdT ((ni_inb (by omega)).mpr (by omega)), show ni c + 1 = ni (c + 1) from ni_add c 1]
    simp only [show (ni c).toNatClampNeg = c from ni_tn (by omega)]
    by_cases k0 : gi B 217 c = 0
    · rw [if_neg (fun z => z k0)]
      have g := hS y hy
      have ed : ni c / 8 = ni y := by rw [ec]; exact d1
      have em : ni c - ni y * 8 = ni k := by rw [ec]; exact d2
      rw [ed, em, show (30 : Int32) + ni y = ni (30 + y) from ni_add 30 y, gdT ((ni_inb (by omega)).mpr (by omega)), gdT ((ni_inb (by omega)).mpr (by omega)), ni_tn (by omega)]
      cases hs : gr A (21 + 4 * y) 0 with
      | none =>
        rw [hs] at g
        have g : gi B 194 (30 + y) = 0 := g
        rw [if_pos g]
        exact skip (fun ⟨_, s, h2, _⟩ => by
          have h2 : gr A (21 + 4 * y) 0 = some s := h2
          rw [hs] at h2; cases h2)
      | some s =>
        rw [hs] at g
        obtain ⟨g1, g2, g3, g4, ⟨n', n1, n2⟩, g6⟩ := g
        have en : ln A (s + 3) = n' := by
          have : ln A (s + 3) = tn (gi B 197 (30 + y)) := g3.2.2.1.1
          rw [n1] at this
          exact this.trans (ni_tn (by omega))
        rw [if_neg (show ¬ gi B 194 (30 + y) = 0 by rw [g1]; decide), n1]
        by_cases kl : k < n'
        · rw [if_pos ((ni_lt (by omega) (by omega)).mpr kl)]
          have hq : isC A (y, k) := ⟨hy, s, hs, by rw [en]; exact kl⟩
          rcases comesOut_ok hS hq h63 hsp with ⟨B1, z1, z2, z3⟩ | ⟨B1, z1, z2, z3⟩
          · rw [← ec] at z1 z2 z3
            rw [z1, bS]; dsimp only
            rw [gdT ((ni_inb (by omega)).mpr (by omega)), gdT ((ni_inb (by omega)).mpr (by omega)), nar1]
            have e1 : gi (si B1 217 c 1) 217 c = 1 := si_eq
            rw [e1, if_neg (show ¬ (1 : Int32) = 0 by decide), ite_self]
            have f2 : FrK sp B (si B1 217 c 1) := FrW.tr z3 frw_si (fun a i u => by omega)
            have o217 : ∀ i, gi (si B1 217 c 1) 217 i = if i = c then 1 else gi B 217 i := fun i => by
              rw [gi_si]
              by_cases e : i = c
              · rw [if_pos ⟨rfl, e⟩, if_pos e]
              · rw [if_neg (fun z => e z.2), if_neg e, (z3.2 217 i (by omega)).1]
            have o218 : ∀ i, i ≠ c → gl (si B1 217 c 1) 218 i = gl B 218 i := fun i hi => by rw [gl_si, (z3.2 218 i (by omega)).2]
            have k2 : KI A (si B1 217 c 1) := by
              intro q hq'
              rw [o217]
              by_cases e : 8 * q.1 + q.2 = c
              · rw [if_pos e]
                have q8 := slr_8 hS hq'
                have : q = (y, k) := Prod.ext (by dsimp only; omega) (by dsimp only; omega)
                refine ⟨Or.inr rfl, fun _ => ?_⟩
                rw [e, gl_si, this]
                exact ki_new hS hK z2
              · rw [if_neg e]
                obtain ⟨p1, p2⟩ := hK q hq'
                refine ⟨p1, fun z => ?_⟩
                rw [o218 _ e]; exact p2 z
            have uu : unk (si B1 217 c 1) + 1 ≤ unk B := by
              refine cnt_lt (j := c) (fun i hi e => ?_) (by omega) (by rw [o217, if_pos rfl]; rfl) (decide_eq_true k0)
              have e := of_decide_eq_true e
              rw [o217] at e
              split at e
              · exact absurd e (by decide)
              · exact decide_eq_true e
            obtain ⟨B', v', g1', g2', g3', g4', g5', g6', g7'⟩ := ih (c := c + 1) (F := F) (v := 1) (B := si B1 217 c 1) (by omega) (by omega) (f2.slr hS) k2 ((f2.2 181 63 (by omega)).1.trans h63) (Or.inr rfl)
            refine ⟨B', v', g1', f2.trans g2', g3', g4', fun e => absurd (g5' e).1 (by decide), fun _ => Or.inr (by omega), by omega⟩
          · rw [← ec] at z1
            rw [z1, bS]; dsimp only
            rw [gdT ((ni_inb (by omega)).mpr (by omega)), gdT ((ni_inb (by omega)).mpr (by omega)), nar0]
            have e1 : gi (si B1 217 c 0) 217 c = 0 := si_eq
            rw [e1, if_pos rfl]
            have ev : (if ¬ v = 0 then SJ_X11_worksConstants_52 k44 F 1 (ni (c + 1)) (si B1 217 c 0) else SJ_X11_worksConstants_52 k44 F 0 (ni (c + 1)) (si B1 217 c 0)) = SJ_X11_worksConstants_52 k44 F v (ni (c + 1)) (si B1 217 c 0) := by
              rcases hv with rfl | rfl
              · rw [if_neg (fun z => z rfl)]
              · rw [if_pos (by decide)]
            rw [ev]
            have f2 : FrK sp B (si B1 217 c 0) := FrW.tr z3 frw_si (fun a i u => by omega)
            have o217 : ∀ i, gi (si B1 217 c 0) 217 i = gi B 217 i := fun i => by
              rw [gi_si]
              by_cases e : i = c
              · rw [if_pos ⟨rfl, e⟩, e, k0]
              · rw [if_neg (fun z => e z.2), (z3.2 217 i (by omega)).1]
            have o218 : ∀ i, gl (si B1 217 c 0) 218 i = gl B 218 i := fun i => by rw [gl_si, (z3.2 218 i (by omega)).2]
            have k2 : KI A (si B1 217 c 0) := by
              intro q hq'
              rw [o217, o218]; exact hK q hq'
            have ek : kn (si B1 217 c 0) = kn B := kn_cg o217 (fun i _ => o218 i)
            have uu : unk (si B1 217 c 0) = unk B := cnt_eq (fun i _ => by rw [o217])
            obtain ⟨B', v', g1', g2', g3', g4', g5', g6', g7'⟩ := ih (c := c + 1) (F := F) (v := v) (B := si B1 217 c 0) (by omega) (by omega) (f2.slr hS) k2 ((f2.2 181 63 (by omega)).1.trans h63) hv
            refine ⟨B', v', g1', f2.trans g2', g3', g4', fun e => ?_, fun e => by rw [← uu]; exact g6' e, by omega⟩
            obtain ⟨e1', e2', e3', e4'⟩ := g5' e
            refine ⟨e1', fun i => (e2' i).trans (o217 i), fun i hi => (e3' i (by rw [o217]; exact hi)).trans (o218 i), fun q hq' hcq h0 => ?_⟩
            by_cases z : 8 * q.1 + q.2 = c
            · have q8 := slr_8 hS hq'
              have : q = (y, k) := Prod.ext (by dsimp only; omega) (by dsimp only; omega)
              rw [this]; exact z2
            · have := e4' q hq' (by omega) (by rw [o217]; exact h0)
              rw [ek] at this; exact this
        · rw [if_neg (fun e => kl ((ni_lt (by omega) (by omega)).mp e))]
          exact skip (fun ⟨_, s', h2, h3⟩ => by
            have h2 : gr A (21 + 4 * y) 0 = some s' := h2
            rw [hs] at h2; cases h2
            have h3 : k < ln A (s + 3) := h3
            omega)
    · rw [if_pos k0]; exact skip (fun _ => k0)
