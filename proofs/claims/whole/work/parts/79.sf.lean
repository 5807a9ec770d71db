-- ===== a const is evaluated: the class =====
def FrE (A A' : Mem) : Prop := KG A A' ∧ (∀ a, a ≠ 141 → gi A' a = gi A a) ∧ (∀ a, a ≠ 143 → gl A' a = gl A a) ∧ ∀ j, j ≠ 4 → gi A' 141 j = gi A 141 j
theorem FrE.rf {A : Mem} : FrE A A := ⟨KG.rf, fun _ _ => rfl, fun _ _ => rfl, fun _ _ => rfl⟩
theorem FrE.trans {A B C : Mem} (h : FrE A B) (g : FrE B C) : FrE A C := ⟨h.1.trans g.1, fun a ha => (g.2.1 a ha).trans (h.2.1 a ha), fun a ha => (g.2.2.1 a ha).trans (h.2.2.1 a ha), fun j hj => (g.2.2.2 j hj).trans (h.2.2.2 j hj)⟩
theorem fre_top {A : Mem} {x : Int32} : FrE A (si A 141 4 x) := ⟨kg_si, fun a ha => gi_ne ha, fun _ _ => rfl, fun j hj => si_ff' hj⟩
theorem FrE.sm {A A' : Mem} (h : FrE A A') {a : Nat} (h1 : a ≠ 141) (h2 : a ≠ 143) : Sm a A A' := h.1.sm (h.2.1 a h1) (h.2.2.1 a h2)
/-- the stack's cells -/
def stkc (A : Mem) : List Int64 → Prop
  | [] => True
  | x :: st => gl A 143 st.length = x ∧ stkc A st
def Stk (A : Mem) (st : List Int64) : Prop := gi A 141 4 = ni st.length ∧ st.length ≤ 4 ∧ stkc A st
theorem stkc_cg {A A' : Mem} : ∀ {st : List Int64} {m : Nat}, st.length ≤ m → (∀ j, j < m → gl A' 143 j = gl A 143 j) → stkc A st → stkc A' st := by
  intro st
  induction st with
  | nil => intro m _ _ _; trivial
  | cons x st ih =>
    intro m hm h g
    have hm : st.length + 1 ≤ m := hm
    exact ⟨(h _ (by omega)).trans g.1, ih (by omega) h g.2⟩
theorem stk_pop {A : Mem} {x : Int64} {st : List Int64} (h : Stk A (x :: st)) : Stk (si A 141 4 (ni st.length)) st ∧ gl (si A 141 4 (ni st.length)) 143 st.length = x := by
  have h2 : st.length + 1 ≤ 4 := h.2.1
  exact ⟨⟨si_eq, by omega, stkc_cg (A := A) (m := st.length) (Nat.le_refl _) (fun _ _ => rfl) h.2.2.2⟩, h.2.2.1⟩
theorem put_y {A : Mem} {st : List Int64} {x : Int64} (h : Stk A st) (hl : st.length < 4) (hx : smallV x) : ∃ A', S_X5_put x A = some (-1, A') ∧ Stk A' (x :: st) ∧ FrE A A' := by
  unfold S_X5_put
  have e : gi (sl A 143 st.length x) 141 4 = ni st.length := h.1
  rw [h.1, if_neg (show ¬ (4 : Int32) ≤ ni st.length from fun e => by have := (ni_le (a := 4) (by omega) (by omega)).mp e; omega), if_neg (Int64.not_lt.mpr hx.1), if_pos hx.2, gdT ((ni_inb (by omega)).mpr hl), ni_tn (by omega), e, show ni st.length + 1 = ni (st.length + 1) from ni_add _ 1]
  refine ⟨_, rfl, ⟨si_eq, hl, ?_, ?_⟩, FrE.trans ⟨kg_sl, fun _ _ => rfl, fun a ha => gl_ne ha, fun _ _ => rfl⟩ fre_top⟩
  · rw [gl_si, sl_eq]
  · refine stkc_cg (Nat.le_refl _) (fun j hj => ?_) h.2.2
    rw [gl_si, gl_sl, if_neg (by omega)]
theorem put_n {A : Mem} {st : List Int64} {x : Int64} (h : Stk A st) (hx : ¬ (st.length < 4 ∧ smallV x)) : S_X5_put x A = some (-2, A) := by
  unfold S_X5_put
  rw [h.1]
  by_cases hl : st.length < 4
  · rw [if_neg (show ¬ (4 : Int32) ≤ ni st.length from fun e => by have := (ni_le (a := 4) (by omega) (by omega)).mp e; omega)]
    by_cases h1 : (1000000000000000 : Int64) < x
    · rw [if_pos h1]
    · rw [if_neg h1]
      by_cases h2 : (-1000000000000000 : Int64) ≤ x
      · exact absurd ⟨hl, Int64.not_lt.mp h1, h2⟩ hx
      · rw [if_neg h2]
  · rw [if_pos (show (4 : Int32) ≤ ni st.length from (ni_le (a := 4) (by omega) (by have := h.2.1; omega)).mpr (by omega))]
theorem putV_y {st : List Int64} {x : Int64} (h : st.length < 4 ∧ smallV x) : putV x st = some (x :: st) := by unfold putV; rw [if_pos h]
theorem putV_n {st : List Int64} {x : Int64} (h : ¬ (st.length < 4 ∧ smallV x)) : putV x st = none := by unfold putV; rw [if_neg h]
theorem abs_eq (v : Int64) : (if 0 < v then v else -v) = (if v < 0 then -v else v) := by
  by_cases h1 : v < 0
  · rw [if_pos h1, if_neg (Int64.not_lt.mpr (Int64.le_of_lt h1))]
  · rw [if_neg h1]
    by_cases h2 : 0 < v
    · rw [if_pos h2]
    · rw [if_neg h2]
      have : v = 0 := Int64.le_antisymm (Int64.not_lt.mp h2) (Int64.not_lt.mp h1)
      rw [this]; decide
theorem abs_n0 {v : Int64} (h : ¬ v = 0) : ¬ (if 0 < v then v else -v) = 0 := by
  split
  · exact h
  · intro e
    have q : -(-v) = -(0 : Int64) := by rw [e]
    rw [Int64.neg_neg] at q
    exact h (q.trans (by decide))
theorem fits_eq {l r : Int64} {M : Mem} : (prodF l r ∧ L_X5_productFits l r M = some (1, M)) ∨ (¬ prodF l r ∧ L_X5_productFits l r M = some (0, M)) := by
  unfold L_X5_productFits
  by_cases h : l = 0
  · rw [if_pos h]; exact Or.inl ⟨Or.inl h, rfl⟩
  · rw [if_neg h, if_neg (abs_n0 h)]
    by_cases h2 : (1000000000000000 : Int64) / (if 0 < l then l else -l) < (if 0 < r then r else -r)
    · rw [if_pos h2]
      refine Or.inr ⟨?_, rfl⟩
      rw [abs_eq, abs_eq] at h2
      rintro (e | e)
      · exact h e
      · exact absurd e (Int64.not_le.mpr h2)
    · rw [if_neg h2]
      refine Or.inl ⟨?_, rfl⟩
      rw [abs_eq, abs_eq] at h2
      exact Or.inr (Int64.not_lt.mp h2)
/-- marks and values are right so far -/
def MkI (A : Mem) : Prop := ∀ y s, y < 30 → gr A (21 + 4 * y) 0 = some s → ∀ k, k < ln A (s + 3) → (gi A (22 + 4 * y) k = 2 → ∃ i, vlC A i y k = some (gl A (23 + 4 * y) k)) ∧ (gi A (22 + 4 * y) k = 3 → ∀ i, vlC A i y k = none)
/-- one piece: it goes on, is lost, or needs a const -/
def StO (A : Mem) (op : Int32) (arg : Int64) (st : List Int64) (x : Option (Int32 × Mem)) : Prop :=
  (∃ A' st', x = some (-1, A') ∧ Stk A' st' ∧ FrE A A' ∧ (∃ i0, ∀ i, i0 ≤ i → ev1 A (vlC A i) op arg st = some st') ∧ ∀ i u, ev1 A (vlC A i) op arg st = some u → u = st') ∨
  (∃ A', x = some (-2, A') ∧ FrE A A' ∧ ∀ i, ev1 A (vlC A i) op arg st = none) ∨
  (∃ y k s, x = some (ni (8 * y + k), A) ∧ y < 30 ∧ gr A (21 + 4 * y) 0 = some s ∧ k < ln A (s + 3) ∧ ¬ gi A (22 + 4 * y) k = 2 ∧ ¬ gi A (22 + 4 * y) k = 3 ∧ ∀ i, ev1 A (vlC A i) op arg st ≠ none → vlC A i y k ≠ none)
theorem sto_put {A A1 : Mem} {op : Int32} {arg v : Int64} {st st1 : List Int64} (h : Stk A1 st1) (f : FrE A A1) (e : ∀ i, ev1 A (vlC A i) op arg st = putV v st1) : StO A op arg st (S_X5_put v A1) := by
  by_cases q : st1.length < 4 ∧ smallV v
  · obtain ⟨A', a1, a2, a3⟩ := put_y h q.1 q.2
    refine Or.inl ⟨A', v :: st1, a1, a2, f.trans a3, ⟨0, fun i _ => by rw [e i, putV_y q]⟩, fun i u hu => ?_⟩
    rw [e i, putV_y q] at hu; cases hu; rfl
  · exact Or.inr (Or.inl ⟨A1, put_n h q, f, fun i => by rw [e i, putV_n q]⟩)
theorem sto_b {A : Mem} {op : Int32} {arg : Int64} {st : List Int64} {x : Option (Int32 × Mem)} (h : StO A op arg st x) : StO A op arg st (x.bind fun w => some (w.1, w.2)) := by
  rcases h with ⟨A', st', h1, h⟩ | ⟨A', h1, h⟩ | ⟨y, k, s, h1, h⟩
  · rw [h1]; exact Or.inl ⟨A', st', rfl, h⟩
  · rw [h1]; exact Or.inr (Or.inl ⟨A', rfl, h⟩)
  · rw [h1]; exact Or.inr (Or.inr ⟨y, k, s, rfl, h⟩)
theorem calc_ok {A : Mem} {st : List Int64} {op : Int32} {arg : Int64} (h : Stk A st) (h3 : ¬ op = 3) : StO A op arg st (S_X5_calculate op arg A) := by
  have l4 := h.2.1
  unfold S_X5_calculate
  by_cases h0 : op = 0
  · rw [if_neg (fun q => q h0)]
    refine sto_b (sto_put h FrE.rf (fun i => ?_))
    unfold ev1; rw [if_neg h3, if_pos h0]
  rw [if_pos h0]
  have lost : (∀ i, ev1 A (vlC A i) op arg st = none) → ∀ A', FrE A A' → StO A op arg st (some (-2, A')) := fun e A' f => Or.inr (Or.inl ⟨A', rfl, f, e⟩)
  have two : (st ≠ [] → ¬ op = 5) → StO A op arg st (SJ_X5_calculate_48 op A) := by
    intro h5
    unfold SJ_X5_calculate_48
    rw [h.1]
    match st, h, l4, lost, h5 with
    | [], h, l4, lost, h5 =>
      rw [if_neg (show ¬ (2 : Int32) ≤ ni ([] : List Int64).length by decide)]
      exact lost (fun i => by unfold ev1; rw [if_neg h3, if_neg h0]) A FrE.rf
    | [x], h, l4, lost, h5 =>
      rw [if_neg (show ¬ (2 : Int32) ≤ ni [x].length from (by decide : ¬ (2 : Int32) ≤ ni 1))]
      exact lost (fun i => by unfold ev1; rw [if_neg h3, if_neg h0]; dsimp only; rw [if_neg (h5 (by simp))]) A FrE.rf
    | x :: l :: st2, h, l4, lost, h5 =>
      have l4 : st2.length + 1 + 1 ≤ 4 := l4
      have el : (x :: l :: st2).length = st2.length + 2 := rfl
      obtain ⟨p1, p2⟩ := stk_pop h
      obtain ⟨q1, q2⟩ := stk_pop p1
      have s1 : Stk (si A 141 4 (ni st2.length)) st2 := ⟨si_eq, by omega, stkc_cg (A := A) (m := st2.length) (Nat.le_refl _) (fun _ _ => rfl) h.2.2.2.2⟩
      have v1 : gl (si A 141 4 (ni st2.length)) 143 st2.length = l := h.2.2.2.1
      have v2 : gl (si A 141 4 (ni st2.length)) 143 (st2.length + 1) = x := h.2.2.1
      have e4 : gi (si A 141 4 (ni st2.length)) 141 4 = ni st2.length := si_eq
      rw [el, if_pos (show (2 : Int32) ≤ ni (st2.length + 2) from (ni_le (a := 2) (by omega) (by omega)).mpr (by omega)), show ni (st2.length + 2) - 2 = ni st2.length from (ni_sub (a := st2.length + 2) (b := 2) (by omega)).trans (by rw [show st2.length + 2 - 2 = st2.length by omega]), e4, show ni st2.length + 1 = ni (st2.length + 1) from ni_add _ 1, gdT ((ni_inb (by omega)).mpr (by omega)), gdT ((ni_inb (by omega)).mpr (by omega)), ni_tn (by omega), ni_tn (by omega), v1, v2]
      have h5' : ¬ op = 5 := h5 (by simp)
      by_cases h6 : op = 6
      · rw [if_pos h6]
        refine sto_b (sto_put s1 fre_top (fun i => ?_))
        unfold ev1; rw [if_neg h3, if_neg h0]; dsimp only; rw [if_neg h5', if_pos h6]
      · rw [if_neg h6]
        by_cases h7 : op = 7
        · rw [if_pos h7]
          refine sto_b (sto_put s1 fre_top (fun i => ?_))
          unfold ev1; rw [if_neg h3, if_neg h0]; dsimp only; rw [if_neg h5', if_neg h6, if_pos h7]
        · rw [if_neg h7]
          by_cases h8 : op = 8
          · rw [if_pos h8]
            rcases fits_eq (l := l) (r := x) (M := si A 141 4 (ni st2.length)) with ⟨f1, f2⟩ | ⟨f1, f2⟩
            · rw [f2, bS, if_neg (show ¬ (1 : Int32) = 0 by decide)]
              refine sto_b (sto_put s1 fre_top (fun i => ?_))
              unfold ev1; rw [if_neg h3, if_neg h0]; dsimp only; rw [if_neg h5', if_neg h6, if_neg h7, if_pos h8, if_pos f1]
            · rw [f2, bS, if_pos rfl]
              refine lost (fun i => ?_) _ fre_top
              unfold ev1; rw [if_neg h3, if_neg h0]; dsimp only; rw [if_neg h5', if_neg h6, if_neg h7, if_pos h8, if_neg f1]
          · rw [if_neg h8]
            refine lost (fun i => ?_) _ fre_top
            unfold ev1; rw [if_neg h3, if_neg h0]; dsimp only; rw [if_neg h5', if_neg h6, if_neg h7, if_neg h8]
  by_cases h5 : op = 5
  · rw [if_neg (fun q => q h5), h.1]
    match st, h, l4, lost, two with
    | [], h, l4, lost, two =>
      rw [if_pos (show ni ([] : List Int64).length < (1 : Int32) by decide)]
      exact two (fun q => absurd rfl q)
    | x :: st1, h, l4, lost, two =>
      have l4 : st1.length + 1 ≤ 4 := l4
      have el : (x :: st1).length = st1.length + 1 := rfl
      obtain ⟨p1, p2⟩ := stk_pop h
      rw [el, if_neg (show ¬ ni (st1.length + 1) < 1 from fun e => by have := (ni_lt (b := 1) (by omega) (by omega)).mp e; omega), show ni (st1.length + 1) - 1 = ni st1.length from (ni_sub (a := st1.length + 1) (b := 1) (by omega)).trans (by rw [show st1.length + 1 - 1 = st1.length by omega]), p1.1, gdT ((ni_inb (by omega)).mpr (by omega)), ni_tn (by omega), p2]
      refine sto_b (sto_put p1 fre_top (fun i => ?_))
      unfold ev1; rw [if_neg h3, if_neg h0]; dsimp only; rw [if_pos h5]
  · rw [if_pos h5]; exact two (fun _ => h5)
theorem refer_ok {A : Mem} {st : List Int64} {Y nm : Nat} (hC : ClO A) (hM : MkI A) (h : Stk A st) (hY : Y < 30) (hn : nm < 1099511627776) : StO A 3 (nl (Y * 1099511627776 + nm)) st (S_X5_refer (nl (Y * 1099511627776 + nm)) A) := by
  unfold S_X5_refer
  have f := find_eq hC (t := 0) (by omega) hY hn
  have f : S_X1_find 0 (nl (Y * 1099511627776 + nm)) A = some (fdI (fdC A 0 (nl nm) 30 Y), A) := f
  rw [f, bS]; dsimp only
  have e1 : ∀ g, ev1 A g 3 (nl (Y * 1099511627776 + nm)) st = (match fdC A 0 (nl nm) 30 Y with
      | none => none
      | some q => match g q.1 q.2 with
        | none => none
        | some x => putV x st) := by
    intro g
    unfold ev1
    rw [if_pos rfl, unp_nm hY hn, unp_s hY hn, show tn (ni Y) = Y from ni_tn (by omega)]
    cases fdC A 0 (nl nm) 30 Y with
    | none => rfl
    | some q => dsimp only; cases g q.1 q.2 <;> rfl
  cases hq : fdC A 0 (nl nm) 30 Y with
  | none =>
    rw [show fdI none = -1 from rfl, if_pos rfl]
    exact Or.inr (Or.inl ⟨A, rfl, FrE.rf, fun i => by rw [e1, hq]⟩)
  | some q =>
    obtain ⟨q1, s, q2, q3⟩ := fdC_lt hq
    have q3 : q.2 < ln A (s + 3) := q3
    have q4 : q.2 < 8 := by have := (hC.2 q.1 q1 s q2).2.2.1.2.1; omega
    obtain ⟨d1, d2⟩ := id_div q1 q4
    rw [show fdI (some q) = ni (8 * q.1 + q.2) from rfl, if_neg (ni_ne1 (by omega))]
    have hmk : S_X5_markOf (ni (8 * q.1 + q.2)) A = some (gi A (22 + 4 * q.1) q.2, A) := by
      unfold S_X5_markOf
      rw [d1, d2, gdT ((ni_inb (by omega)).mpr q1), gdT ((ni_inb (by omega)).mpr q4), ni_tn (by omega), ni_tn (by omega)]
    rw [hmk, bS]; dsimp only
    obtain ⟨m2, m3⟩ := hM q.1 s q1 q2 q.2 q3
    by_cases k3 : gi A (22 + 4 * q.1) q.2 = 3
    · rw [if_neg (fun z => z k3)]
      exact Or.inr (Or.inl ⟨A, rfl, FrE.rf, fun i => by rw [e1, hq]; dsimp only; rw [m3 k3 i]⟩)
    · rw [if_pos k3, hmk, bS]; dsimp only
      by_cases k2 : gi A (22 + 4 * q.1) q.2 = 2
      · rw [if_pos k2, d1, d2, gdT ((ni_inb (by omega)).mpr q1), gdT ((ni_inb (by omega)).mpr q4), ni_tn (by omega), ni_tn (by omega)]
        obtain ⟨i1, hi1⟩ := m2 k2
        have up : ∀ i, i1 ≤ i → ev1 A (vlC A i) 3 (nl (Y * 1099511627776 + nm)) st = putV (gl A (23 + 4 * q.1) q.2) st := fun i hi => by
          rw [e1, hq]; dsimp only; rw [vl_mono hi hi1]
        by_cases z : st.length < 4 ∧ smallV (gl A (23 + 4 * q.1) q.2)
        · obtain ⟨A', a1, a2, a3⟩ := put_y h z.1 z.2
          rw [a1, bS]
          refine Or.inl ⟨A', _, rfl, a2, a3, ⟨i1, fun i hi => by rw [up i hi, putV_y z]⟩, fun i u hu => ?_⟩
          rw [e1, hq] at hu; dsimp only at hu
          cases hv : vlC A i q.1 q.2 with
          | none => rw [hv] at hu; cases hu
          | some x =>
            rw [hv] at hu
            have : x = gl A (23 + 4 * q.1) q.2 := vl_uq hv hi1
            rw [this] at hu
            have hu : putV (gl A (23 + 4 * q.1) q.2) st = some u := hu
            rw [putV_y z] at hu; cases hu; rfl
        · rw [put_n h z, bS]
          refine Or.inr (Or.inl ⟨A, rfl, FrE.rf, fun i => ?_⟩)
          rw [e1, hq]; dsimp only
          cases hv : vlC A i q.1 q.2 with
          | none => rfl
          | some x =>
            have : x = gl A (23 + 4 * q.1) q.2 := vl_uq hv hi1
            rw [this]; exact putV_n z
      · rw [if_neg k2]
        refine Or.inr (Or.inr ⟨q.1, q.2, s, rfl, q1, q2, q3, k2, k3, fun i z => ?_⟩)
        rw [e1, hq] at z; dsimp only at z
        intro hv
        rw [hv] at z; exact z rfl
