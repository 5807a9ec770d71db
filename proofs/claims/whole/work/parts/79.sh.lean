-- ===== settle, settleAll =====
def isC (A : Mem) (q : Nat × Nat) : Prop := q.1 < 30 ∧ ∃ s, gr A (21 + 4 * q.1) 0 = some s ∧ q.2 < ln A (s + 3)
def opn (A : Mem) : List (Nat × Nat) → Prop
  | [] => True
  | q :: L => gi A 142 L.length = ni (8 * q.1 + q.2) ∧ opn A L
/-- each open const needs the one opened next -/
def chn (A : Mem) : List (Nat × Nat) → Prop
  | [] => True
  | q :: L => (∀ p L', L = p :: L' → ∀ i, vlC A (i + 1) p.1 p.2 ≠ none → vlC A i q.1 q.2 ≠ none) ∧ chn A L
def mkA (A : Mem) (q : Nat × Nat) : Int32 := gi A (22 + 4 * q.1) q.2
def Un (A : Mem) : Nat := cnt (fun id => decide (gi A (22 + 4 * (id / 8)) (id % 8) = 0)) 240
def FrT (A A' : Mem) : Prop := KG A A' ∧ (∀ a, a ≠ 141 → a ≠ 142 → (∀ y, y < 30 → a ≠ 22 + 4 * y) → gi A' a = gi A a) ∧ (∀ a, a ≠ 143 → (∀ y, y < 30 → a ≠ 23 + 4 * y) → gl A' a = gl A a) ∧ ∀ y k, y < 30 → ¬ gi A (22 + 4 * y) k = 0 → ¬ gi A' (22 + 4 * y) k = 0
theorem FrT.rf {A : Mem} : FrT A A := ⟨KG.rf, fun _ _ _ _ => rfl, fun _ _ _ => rfl, fun _ _ _ h => h⟩
theorem FrT.trans {A B C : Mem} (h : FrT A B) (g : FrT B C) : FrT A C := ⟨h.1.trans g.1, fun a a1 a2 a3 => (g.2.1 a a1 a2 a3).trans (h.2.1 a a1 a2 a3), fun a a1 a2 => (g.2.2.1 a a1 a2).trans (h.2.2.1 a a1 a2), fun y k hy q => g.2.2.2 y k hy (h.2.2.2 y k hy q)⟩
theorem FrE.ft {A A' : Mem} (f : FrE A A') : FrT A A' := ⟨f.1, fun a a1 _ _ => f.2.1 a a1, fun a a1 _ => f.2.2.1 a a1, fun y k hy q => by rw [(f.mk y hy).1]; exact q⟩
theorem FrT.kp {A A' : Mem} (h : ClO A) (f : FrT A A') : KpT A A' := ⟨fun y _ => congrFun (congrFun f.1.2.2 _) _, fun y s hy hs a a1 a2 => by
  have := (h.2 y hy s hs).1.1
  exact f.1.sm (f.2.1 a (by omega) (by omega) (fun y' _ => by omega)) (f.2.2.1 a (by omega) (fun y' _ => by omega))⟩
theorem FrT.clo {A A' : Mem} (h : ClO A) (f : FrT A A') : ClO A' := clo_kp h (h.1.kg f.1) (Nat.le_of_eq f.1.nc.symm) (f.kp h)
theorem isC_kp {A A' : Mem} {q : Nat × Nat} (k : KpT A A') : isC A' q ↔ isC A q := by
  constructor
  · rintro ⟨h1, s, h2, h3⟩
    rw [k.1 q.1 h1] at h2
    rw [(k.2 q.1 s h1 h2 (s + 3) (by omega) (by omega)).l] at h3
    exact ⟨h1, s, h2, h3⟩
  · rintro ⟨h1, s, h2, h3⟩
    exact ⟨h1, s, by rw [k.1 q.1 h1]; exact h2, by rw [(k.2 q.1 s h1 h2 (s + 3) (by omega) (by omega)).l]; exact h3⟩
theorem isC8 {A : Mem} {q : Nat × Nat} (hC : ClO A) (h : isC A q) : q.2 < 8 := by
  obtain ⟨h1, s, h2, h3⟩ := h
  have := (hC.2 q.1 h1 s h2).2.2.1.2.1
  omega
theorem chn_kp {A A' : Mem} (k : KpT A A') : ∀ {L : List (Nat × Nat)}, (∀ q ∈ L, q.1 < 30) → chn A L → chn A' L := by
  intro L
  induction L with
  | nil => intro _ _; trivial
  | cons q L ih =>
    intro hL h
    refine ⟨fun p L' e i => ?_, ih (fun q hq => hL q (List.mem_cons_of_mem _ hq)) h.2⟩
    rw [k.vl (i + 1) p.1 p.2 (hL p (by rw [e]; simp)), k.vl i q.1 q.2 (hL q (by simp))]
    exact h.1 p L' e i
theorem opn_cg {A A' : Mem} : ∀ {L : List (Nat × Nat)} {m : Nat}, L.length ≤ m → (∀ j, j < m → gi A' 142 j = gi A 142 j) → opn A L → opn A' L := by
  intro L
  induction L with
  | nil => intro m _ _ _; trivial
  | cons x L ih =>
    intro m hm h g
    have hm : L.length + 1 ≤ m := hm
    exact ⟨(h _ (by omega)).trans g.1, ih (by omega) h g.2⟩
theorem opn_ix {A : Mem} : ∀ {L : List (Nat × Nat)}, opn A L → (∀ j, j < L.length → ∃ q ∈ L, gi A 142 j = ni (8 * q.1 + q.2)) ∧ ∀ q ∈ L, ∃ j, j < L.length ∧ gi A 142 j = ni (8 * q.1 + q.2) := by
  intro L
  induction L with
  | nil => intro _; exact ⟨fun j hj => absurd hj (by simp), fun q hq => absurd hq (by simp)⟩
  | cons x L ih =>
    intro h
    obtain ⟨i1, i2⟩ := ih h.2
    refine ⟨fun j hj => ?_, fun q hq => ?_⟩
    · have hj : j < L.length + 1 := hj
      by_cases e : j < L.length
      · obtain ⟨q, q1, q2⟩ := i1 j e
        exact ⟨q, List.mem_cons_of_mem _ q1, q2⟩
      · exact ⟨x, by simp, by rw [show j = L.length by omega]; exact h.1⟩
    · rcases List.mem_cons.mp hq with e | e
      · exact ⟨L.length, Nat.lt_succ_self _, by rw [e]; exact h.1⟩
      · obtain ⟨j, j1, j2⟩ := i2 q e
        exact ⟨j, Nat.lt_succ_of_lt j1, j2⟩
/-- from any open const down to the last opened one -/
theorem chn_dn {A : Mem} {q : Nat × Nat} : ∀ {L : List (Nat × Nat)} {p : Nat × Nat} {i : Nat}, chn A (q :: L) → p ∈ q :: L → vlC A i p.1 p.2 ≠ none → ∃ i', i' ≤ i ∧ vlC A i' q.1 q.2 ≠ none := by
  intro L
  induction L generalizing q with
  | nil =>
    intro p i _ hp hv
    rcases List.mem_cons.mp hp with e | e
    · exact ⟨i, Nat.le_refl _, by rw [← e]; exact hv⟩
    · cases e
  | cons r L ih =>
    intro p i hc hp hv
    rcases List.mem_cons.mp hp with e | e
    · exact ⟨i, Nat.le_refl _, by rw [← e]; exact hv⟩
    · obtain ⟨i1, h1, h2⟩ := ih hc.2 e hv
      cases i1 with
      | zero => exact absurd rfl h2
      | succ i1 => exact ⟨i1, by omega, hc.1 r L rfl i1 h2⟩
theorem mark_eq5 {A : Mem} {y k : Nat} {m : Int32} (hy : y < 30) (hk : k < 8) : S_X5_mark (ni (8 * y + k)) m A = some ((), si A (22 + 4 * y) k m) := by
  obtain ⟨d1, d2⟩ := id_div hy hk
  unfold S_X5_mark
  rw [d1, d2, gdT ((ni_inb (by omega)).mpr hy), gdT ((ni_inb (by omega)).mpr hk), ni_tn (by omega), ni_tn (by omega)]
theorem markOf_eq {A : Mem} {y k : Nat} (hy : y < 30) (hk : k < 8) : S_X5_markOf (ni (8 * y + k)) A = some (gi A (22 + 4 * y) k, A) := by
  obtain ⟨d1, d2⟩ := id_div hy hk
  unfold S_X5_markOf
  rw [d1, d2, gdT ((ni_inb (by omega)).mpr hy), gdT ((ni_inb (by omega)).mpr hk), ni_tn (by omega), ni_tn (by omega)]
theorem lose_lp {d : Nat} (hd2 : d ≤ 240) : ∀ {j i F : Nat} {A : Mem}, gi A 141 2 = ni d → (∀ i, i < d → ∃ y k, y < 30 ∧ k < 8 ∧ gi A 142 i = ni (8 * y + k)) → i + j = d → j < F → ∃ A', SJ_X5_loseOpen_2 F (ni i) A = some ((), A') ∧ FrT A A' ∧ gi A' 141 2 = 0 ∧ (∀ y k, y < 30 → k < 8 → (∃ i', i ≤ i' ∧ i' < d ∧ gi A 142 i' = ni (8 * y + k)) → gi A' (22 + 4 * y) k = 3) ∧ (∀ y k, y < 30 → ¬ (k < 8 ∧ ∃ i', i ≤ i' ∧ i' < d ∧ gi A 142 i' = ni (8 * y + k)) → gi A' (22 + 4 * y) k = gi A (22 + 4 * y) k) ∧ (gl A' = gl A) ∧ gi A' 142 = gi A 142 := by
  intro j
  induction j with
  | zero =>
    intro i F A hd ho hi hF
    obtain ⟨F, rfl⟩ : ∃ u, F = u + 1 := ⟨F - 1, by omega⟩
    rw [SJ_X5_loseOpen_2]; dsimp only
    rw [hd, if_pos ((ni_le (by omega) (by omega)).mpr (by omega))]
    refine ⟨_, rfl, ⟨kg_si, fun a a1 _ _ => gi_ne a1, fun _ _ _ => rfl, fun y k hy q => by rw [gi_ne (by omega)]; exact q⟩, si_eq, fun y k _ _ ⟨i', h1, h2, _⟩ => by omega, fun y k hy _ => by rw [gi_ne (by omega)], rfl, gi_ne (by omega)⟩
  | succ j ih =>
    intro i F A hd ho hi hF
    obtain ⟨F, rfl⟩ : ∃ u, F = u + 1 := ⟨F - 1, by omega⟩
    obtain ⟨y0, k0, hy0, hk0, e0⟩ := ho i (by omega)
    rw [SJ_X5_loseOpen_2]; dsimp only
    rw [hd, if_neg (fun e => by have := (ni_le (by omega) (by omega)).mp e; omega), gdT ((ni_inb (by omega)).mpr (by omega)), ni_tn (by omega), e0, mark_eq5 hy0 hk0, bS, show ni i + 1 = ni (i + 1) from ni_add i 1]
    have e142 : gi (si A (22 + 4 * y0) k0 3) 142 = gi A 142 := gi_ne (by omega)
    obtain ⟨A', g1, g2, g3, g4, g5, g6, g7⟩ := ih (i := i + 1) (F := F) (A := si A (22 + 4 * y0) k0 3) (by rw [gi_ne (by omega)]; exact hd) (fun i hi => by rw [e142]; exact ho i hi) (by omega) (by omega)
    refine ⟨A', g1, FrT.trans ⟨kg_si, fun a _ _ a3 => gi_ne (a3 y0 hy0), fun _ _ _ => rfl, fun y k hy q => ?_⟩ g2, g3, fun y k hy hk ⟨i', h1, h2, h3⟩ => ?_, fun y k hy hn => ?_, g6, g7.trans e142⟩
    · rw [gi_si]; split
      · decide
      · exact q
    · by_cases e : i' = i
      · subst e
        rw [e0] at h3
        have : 8 * y0 + k0 = 8 * y + k := (ni_inj (by omega) (by omega)).mp h3
        have ey : y = y0 := by omega
        have ek : k = k0 := by omega
        subst ey; subst ek
        by_cases z : ∃ i', i' + 1 ≤ i' ∧ False
        · obtain ⟨_, _, z⟩ := z; exact absurd z id
        · by_cases w : ∃ i2, i' + 1 ≤ i2 ∧ i2 < d ∧ gi (si A (22 + 4 * y) k 3) 142 i2 = ni (8 * y + k)
          · exact g4 y k hy hk w
          · rw [g5 y k hy (fun q => w q.2), si_eq]
      · exact g4 y k hy hk ⟨i', by omega, h2, by rw [e142]; exact h3⟩
    · have hne : ¬ (y = y0 ∧ k = k0) := by
        rintro ⟨rfl, rfl⟩
        exact hn ⟨hk0, i, Nat.le_refl _, by omega, e0⟩
      rw [g5 y k hy (fun ⟨q1, i', q2, q3, q4⟩ => hn ⟨q1, i', by omega, q3, by rw [e142] at q4; exact q4⟩), gi_si, if_neg (fun e => hne ⟨by omega, e.2⟩)]
def SI (A : Mem) (L : List (Nat × Nat)) : Prop := ClO A ∧ MkI A ∧ gi A 141 2 = ni L.length ∧ opn A L ∧ (∀ q ∈ L, isC A q) ∧ (∀ q, isC A q → (mkA A q = 1 ↔ q ∈ L)) ∧ (∀ q, isC A q → mkA A q = 0 ∨ mkA A q = 1 ∨ mkA A q = 2 ∨ mkA A q = 3) ∧ chn A L ∧ Un A + L.length ≤ 240
/-- where one mark is written -/
theorem un_le {A A' : Mem} (h : ∀ y k, y < 30 → k < 8 → ¬ gi A (22 + 4 * y) k = 0 → ¬ gi A' (22 + 4 * y) k = 0) : Un A' ≤ Un A := by
  refine cnt_mono fun id hid e => ?_
  have e := of_decide_eq_true e
  refine decide_eq_true (Classical.byContradiction fun q => h (id / 8) (id % 8) (by omega) (by omega) q e)
theorem un_lt {A A' : Mem} {y k : Nat} (hy : y < 30) (hk : k < 8) (h : ∀ y k, y < 30 → k < 8 → ¬ gi A (22 + 4 * y) k = 0 → ¬ gi A' (22 + 4 * y) k = 0) (h0 : gi A (22 + 4 * y) k = 0) (h1 : ¬ gi A' (22 + 4 * y) k = 0) : Un A' + 1 ≤ Un A := by
  refine cnt_lt (j := 8 * y + k) (fun id hid e => ?_) (by omega) ?_ ?_
  · have e := of_decide_eq_true e
    refine decide_eq_true (Classical.byContradiction fun q => h (id / 8) (id % 8) (by omega) (by omega) q e)
  · rw [show (8 * y + k) / 8 = y by omega, show (8 * y + k) % 8 = k by omega]; exact decide_eq_false h1
  · rw [show (8 * y + k) / 8 = y by omega, show (8 * y + k) % 8 = k by omega]; exact decide_eq_true h0
theorem SI.fre {A A' : Mem} {L : List (Nat × Nat)} (h : SI A L) (f : FrE A A') : SI A' L := by
  obtain ⟨h1, h2, h3, h4, h5, h6, h7, h8, h9⟩ := h
  have kp := f.kp h1
  have em : ∀ q, q.1 < 30 → mkA A' q = mkA A q := fun q hq => by unfold mkA; rw [(f.mk q.1 hq).1]
  refine ⟨f.clo h1, mki_kp h2 kp f.mk, (f.2.2.2 2 (by omega)).trans h3, opn_cg (Nat.le_refl _) (fun j _ => by rw [f.2.1 142 (by omega)]) h4, fun q hq => (isC_kp kp).mpr (h5 q hq), fun q hq => ?_, fun q hq => ?_, chn_kp kp (fun q hq => (h5 q hq).1) h8, ?_⟩
  · have := (isC_kp kp).mp hq
    rw [em q this.1]; exact h6 q this
  · have := (isC_kp kp).mp hq
    rw [em q this.1]; exact h7 q this
  · have : Un A' ≤ Un A := un_le (fun y k hy hk q => by rw [(f.mk y hy).1]; exact q)
    omega
theorem si_lose {A : Mem} {q : Nat × Nat} {L : List (Nat × Nat)} (h : SI A (q :: L)) (hn : ∀ p ∈ q :: L, ∀ i, vlC A i p.1 p.2 = none) : ∃ A', S_X5_loseOpen A = some ((), A') ∧ FrT A A' ∧ SI A' [] ∧ Un A' ≤ Un A := by
  obtain ⟨h1, h2, h3, h4, h5, h6, h7, h8, h9⟩ := h
  obtain ⟨i1, i2⟩ := opn_ix h4
  obtain ⟨A', g1, g2, g3, g4, g5, g6, g7⟩ := lose_lp (d := (q :: L).length) (by omega) (j := (q :: L).length) (i := 0) (F := FU) (A := A) h3 (fun i hi => by
    obtain ⟨p, p1, p2⟩ := i1 i hi
    exact ⟨p.1, p.2, (h5 p p1).1, isC8 h1 (h5 p p1), p2⟩) (by omega) (by have : FU = 4000000 := rfl; omega)
  have kp := g2.kp h1
  have un : Un A' ≤ Un A := un_le (fun y k hy _ => g2.2.2.2 y k hy)
  -- the marks behind it
  have m3 : ∀ p, p ∈ q :: L → mkA A' p = 3 := fun p hp => by
    obtain ⟨j, j1, j2⟩ := i2 p hp
    exact g4 p.1 p.2 (h5 p hp).1 (isC8 h1 (h5 p hp)) ⟨j, by omega, j1, j2⟩
  have mo : ∀ p, isC A p → p ∉ q :: L → mkA A' p = mkA A p := fun p hp hq => by
    refine g5 p.1 p.2 hp.1 ?_
    rintro ⟨z1, i', z2, z3, z4⟩
    obtain ⟨r, r1, r2⟩ := i1 i' z3
    rw [r2] at z4
    have r3 := isC8 h1 (h5 r r1)
    have r4 := (h5 r r1).1
    have p4 := hp.1
    have e := (ni_inj (by omega) (by omega)).mp z4
    have : r = p := Prod.ext (by omega) (by omega)
    exact hq (this ▸ r1)
  refine ⟨A', g1, g2, ⟨g2.clo h1, ?_, g3, trivial, fun p hp => absurd hp (by simp), fun p hp => ?_, fun p hp => ?_, trivial, ?_⟩, un⟩
  · intro y s hy hs k hk
    rw [kp.1 y hy] at hs
    rw [(kp.2 y s hy hs (s + 3) (by omega) (by omega)).l] at hk
    have hc : isC A (y, k) := ⟨hy, s, hs, hk⟩
    have eg : gl A' (23 + 4 * y) k = gl A (23 + 4 * y) k := by rw [g6]
    by_cases hm : (y, k) ∈ q :: L
    · have e3 : gi A' (22 + 4 * y) k = 3 := m3 (y, k) hm
      refine ⟨fun e => by rw [e3] at e; exact absurd e (by decide), fun _ i => ?_⟩
      rw [kp.vl i y k hy]; exact hn (y, k) hm i
    · have eo : gi A' (22 + 4 * y) k = gi A (22 + 4 * y) k := mo (y, k) hc hm
      obtain ⟨a1, a2⟩ := h2 y s hy hs k hk
      rw [eo, eg]
      refine ⟨fun e => ?_, fun e i => ?_⟩
      · obtain ⟨i, hi⟩ := a1 e
        exact ⟨i, by rw [kp.vl i y k hy]; exact hi⟩
      · rw [kp.vl i y k hy]; exact a2 e i
  · have hp := (isC_kp kp).mp hp
    constructor
    · intro e
      by_cases hm : p ∈ q :: L
      · rw [m3 p hm] at e; exact absurd e (by decide)
      · rw [mo p hp hm] at e; exact absurd ((h6 p hp).mp e) hm
    · intro e; cases e
  · have hp := (isC_kp kp).mp hp
    by_cases hm : p ∈ q :: L
    · exact Or.inr (Or.inr (Or.inr (m3 p hm)))
    · rw [mo p hp hm]; exact h7 p hp
  · show Un A' + 0 ≤ 240
    omega
