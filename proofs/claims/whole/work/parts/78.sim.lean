-- ===== the relation at rest depends on the class's cells of the one and the reference's of the other =====
theorem fsc_cl {A A' : Mem} (h : FSC A) (k : KCl A A') : FSC A' := by
  obtain ⟨h1, h2, h3, h4, h5⟩ := h
  refine ⟨by rw [k.nc]; exact h1, fun a ha hk => ?_, fun q hq => ?_, fun n hn => ?_, fun n hn => ?_⟩
  · rw [(k.2 a (Or.inl ha)).k, (k.2 a (Or.inl ha)).l]; exact h2 a ha hk
  · have := lt_of_kdL (fxL_ok q hq).1
    rw [(k.2 q.1 (Or.inl this)).r]; exact h3 q hq
  · rw [(k.2 20 (by omega)).r, (k.2 (21 + 4 * n) (by omega)).k, (k.2 (21 + 4 * n) (by omega)).r, (k.2 (22 + 4 * n) (by omega)).k, (k.2 (23 + 4 * n) (by omega)).k, (k.2 (24 + 4 * n) (by omega)).k, (k.2 (22 + 4 * n) (by omega)).l, (k.2 (23 + 4 * n) (by omega)).l, (k.2 (24 + 4 * n) (by omega)).l]
    exact h4 n hn
  · rw [(k.2 145 (by omega)).r, (k.2 (146 + n) (by omega)).k]; exact h5 n hn
theorem fsr_rf {B B' : Mem} (h : FSR B) (k : KRf B B') : FSR B' := by
  obtain ⟨h1, h2, h3⟩ := h
  refine ⟨fun a a1 a2 => ?_, fun a a1 a2 => ?_, fun j => ?_⟩
  · rw [(k a a1 a2).k]; exact h1 a a1 a2
  · rw [(k a (by omega) a2).l]; exact h2 a a1 a2
  · rw [(k 181 (by omega) (by omega)).r]; exact h3 j
theorem vyR_cg {A A' B B' : Mem} {q v : Nat} (h : VyR A B q v) (hn : nc A ≤ nc A') (ha : ∀ a, q ≤ a → a < q + 5 → Sm a A A') (hb : ∀ a, 222 ≤ a → a < 231 → Sm a B B') : VyR A' B' q v := by
  unfold VyR at h ⊢
  rw [(ha q (by omega) (by omega)).k, (ha q (by omega) (by omega)).r, (ha q (by omega) (by omega)).i, (ha q (by omega) (by omega)).j, (ha (q + 1) (by omega) (by omega)).k, (ha (q + 1) (by omega) (by omega)).l, (ha (q + 1) (by omega) (by omega)).i, (ha (q + 2) (by omega) (by omega)).k, (ha (q + 2) (by omega) (by omega)).l, (ha (q + 2) (by omega) (by omega)).i, (ha (q + 3) (by omega) (by omega)).k, (ha (q + 3) (by omega) (by omega)).l, (ha (q + 3) (by omega) (by omega)).i, (ha (q + 4) (by omega) (by omega)).k, (ha (q + 4) (by omega) (by omega)).l, (ha (q + 4) (by omega) (by omega)).j,
    (hb 222 (by omega) (by omega)).i, (hb 223 (by omega) (by omega)).i, (hb 224 (by omega) (by omega)).i, (hb 225 (by omega) (by omega)).i, (hb 226 (by omega) (by omega)).i, (hb 227 (by omega) (by omega)).i, (hb 228 (by omega) (by omega)).i, (hb 229 (by omega) (by omega)).j, (hb 230 (by omega) (by omega)).j]
  exact ⟨⟨h.1.1, Nat.le_trans h.1.2.1 hn, h.1.2.2⟩, h.2⟩
/-- sheets of years and of classes stay where they are -/
def KpH (A A' : Mem) : Prop := (∀ y, y < 30 → gr A' 19 y = gr A 19 y) ∧ ∀ y s, y < 30 → gr A 19 y = some s → KpS s A A'
theorem smSh_cg {A A' B B' : Mem} (h : SmSh A B) (k : KpH A A') (hn : nc A ≤ nc A') (hb : KpR B B') : SmSh A' B' := by
  intro y hy
  rw [k.1 y hy]
  exact shr_cg (h y hy) (fun s hs => k.2 y s hy hs) hn hb
theorem smCl_cg {A A' B B' : Mem} (h : SmCl A B) (k : KpT A A') (hn : nc A ≤ nc A') (hb : KpR B B') (hi : ∀ y, y < 30 → gi A' (21 + 4 * y) = gi A (21 + 4 * y)) (hl : ∀ y, y < 30 → gl A' (24 + 4 * y) = gl A (24 + 4 * y))
    (h2 : gi B' 212 = gi B 212) (h3 : gi B' 213 = gi B 213) (h4 : gi B' 214 = gi B 214) (h5 : gi B' 215 = gi B 215) (h6 : gl B' 216 = gl B 216) : SmCl A' B' := by
  intro y hy
  rw [k.1 y hy, hi y hy, hl y hy, h2, h3, h4, h5, h6]
  exact ⟨shr_cg (h y hy).1 (fun s hs => k.2 y s hy hs) hn hb, (h y hy).2⟩
theorem smCh_cg {A A' B B' : Mem} (h : SmCh A B) (k1 : ∀ y, y < 30 → gr A' 19 y = gr A 19 y) (k2 : ∀ y, y < 30 → gr A' (21 + 4 * y) 0 = gr A (21 + 4 * y) 0) (e1 : gi A' 18 2 = gi A 18 2) (e2 : gi B' 211 = gi B 211) : SmCh A' B' := by
  unfold SmCh
  rw [e1, e2]
  refine ⟨fun y hy => ?_, h.2⟩
  rw [k1 y hy, k2 y hy]; exact h.1 y hy
/-- no voyage's cells and no sheet's cells change, nor where they are -/
def KpV (A A' : Mem) : Prop := gi A' 0 6 = gi A 0 6 ∧ gr A' 180 = gr A 180 ∧ ∀ v q, gr A 180 v = some q → 231 ≤ q → q + 5 ≤ nc A → ∀ a, q ≤ a → a < q + 5 → Sm a A A'
theorem smVy_cg {A A' B B' : Mem} (h : SmVy A B) (hn : nc A ≤ nc A') (k : KpV A A') (k1 : ∀ y, y < 30 → gr A' 19 y = gr A 19 y) (k2 : ∀ y, y < 30 → gr A' (21 + 4 * y) 0 = gr A (21 + 4 * y) 0) (e : gi B' 181 73 = gi B 181 73) (hb : ∀ a, 222 ≤ a → a < 231 → Sm a B B') : SmVy A' B' := by
  obtain ⟨n, h0, h1, h2, h3, h4, h5, h6⟩ := h
  refine ⟨n, h0, k.1.trans h1, e.trans h2, fun v hv => ?_, ?_, ?_, ?_⟩
  · obtain ⟨q, hq, hv⟩ := h3 v hv
    exact ⟨q, by rw [k.2.1]; exact hq, vyR_cg hv hn (k.2.2 v q hq hv.1.1 hv.1.2.1) hb⟩
  · rw [k.2.1]; exact h4
  · rw [k.2.1]
    rintro v q s hv hq ⟨y, hy, hs⟩
    rw [k1 y hy, k2 y hy] at hs
    exact h5 v q s hv hq ⟨y, hy, hs⟩
  · rw [(hb 224 (by omega) (by omega)).i]; exact h6
theorem shr_ge {A B : Mem} {r : Option Nat} {y own s : Nat} (h : ShR A B r y own) (hr : r = some s) : 231 ≤ s ∧ s + 10 ≤ nc A := by
  subst hr; exact ⟨h.2.1.1, h.2.1.2.1⟩
theorem sim_cls {N : Nat} {A A' B : Mem} (h : Sim N A B) (k : KCl A A') : Sim N A' B := by
  obtain ⟨h1, h2, h3, h4, h5, h6, h7, h8, h9, h10, h11, h12, h13, h14, h15⟩ := h
  have hn : nc A ≤ nc A' := Nat.le_of_eq k.nc.symm
  have kH : KpH A A' := ⟨fun y hy => by rw [(k.2 19 (by omega)).r], fun y s hy hs a ha hb => k.2 a (Or.inr (by have := shr_ge (h6 y hy) hs; omega))⟩
  have kT : KpT A A' := ⟨fun y hy => by rw [(k.2 (21 + 4 * y) (by omega)).r], fun y s hy hs a ha hb => k.2 a (Or.inr (by have := shr_ge (h7 y hy).1 hs; omega))⟩
  have kR : KpR B B := fun _ _ _ => Sm.rf
  have kM : ∀ y, y < 30 → gi A' (22 + 4 * y) = gi A (22 + 4 * y) ∧ gl A' (23 + 4 * y) = gl A (23 + 4 * y) := fun y hy => ⟨(k.2 _ (by omega)).i, (k.2 _ (by omega)).j⟩
  refine ⟨fsc_cl h1 k, h2, ?_, ?_, ?_, smSh_cg h6 kH hn kR, smCl_cg h7 kT hn kR (fun y hy => (k.2 _ (by omega)).i) (fun y hy => (k.2 _ (by omega)).j) rfl rfl rfl rfl rfl, smCh_cg h8 kH.1 kT.1 (by rw [(k.2 18 (by omega)).i]) rfl, ?_, cnA_cg h10 kT kM, cnB_cg h11 kT kM rfl rfl rfl rfl, ?_, smVy_cg h13 hn ⟨by rw [(k.2 0 (by omega)).i], (k.2 180 (by omega)).r, fun v q _ h1 _ a h2 _ => k.2 a (by omega)⟩ kH.1 kT.1 rfl (fun _ _ _ => Sm.rf), ?_, h15⟩
  · unfold SmTp at h3 ⊢; rw [(k.2 1 (by omega)).i, (k.2 2 (by omega)).i]; exact h3
  · unfold SmWd at h4 ⊢; rw [(k.2 6 (by omega)).j]; exact h4
  · unfold SmFt at h5 ⊢; rw [(k.2 7 (by omega)).i]; exact h5
  · unfold SmEd at h9 ⊢; rw [(k.2 18 (by omega)).i]; exact h9
  · unfold SmSt at h12 ⊢; rw [(k.2 144 (by omega)).i, (k.2 179 (by omega)).i]; exact h12
  · unfold SmBk at h14 ⊢; rw [(k.2 0 (by omega)).i]; exact h14
theorem sim_ref {N : Nat} {A B B' : Mem} (h : Sim N A B) (k : KRf B B') : Sim N A B' := by
  obtain ⟨h1, h2, h3, h4, h5, h6, h7, h8, h9, h10, h11, h12, h13, h14, h15⟩ := h
  have e := (k 181 (by omega) (by omega)).i
  have kH : KpH A A := ⟨fun y hy => rfl, fun y s hy hs a ha hb => Sm.rf⟩
  have kT : KpT A A := ⟨fun y hy => rfl, fun y s hy hs a ha hb => Sm.rf⟩
  have kR : KpR B B' := fun a h1 h2 => k a (by omega) (by omega)
  refine ⟨h1, fsr_rf h2 k, ?_, ?_, ?_, smSh_cg h6 kH (Nat.le_refl _) kR, smCl_cg h7 kT (Nat.le_refl _) kR (fun y hy => rfl) (fun y hy => rfl) (k _ (by omega) (by omega)).i (k _ (by omega) (by omega)).i (k _ (by omega) (by omega)).i (k _ (by omega) (by omega)).i (k _ (by omega) (by omega)).j, smCh_cg h8 kH.1 kT.1 rfl (k _ (by omega) (by omega)).i, ?_, h10, cnB_cg h11 kT (fun _ _ => ⟨rfl, rfl⟩) (by rw [e]) (by rw [e]) (k _ (by omega) (by omega)).i (k _ (by omega) (by omega)).j, ?_, smVy_cg h13 (Nat.le_refl _) ⟨rfl, rfl, fun v q _ h1 _ a h2 _ => Sm.rf⟩ kH.1 kT.1 (by rw [e]) (fun a h1 h2 => k a (by omega) (by omega)), ?_, by rw [e]; exact h15⟩
  · unfold SmTp at h3 ⊢; rw [e, (k 182 (by omega) (by omega)).i]; exact h3
  · unfold SmWd at h4 ⊢; rw [(k 183 (by omega) (by omega)).j]; exact h4
  · unfold SmFt at h5 ⊢; rw [e]; exact h5
  · unfold SmEd at h9 ⊢; rw [e]; exact h9
  · unfold SmSt at h12 ⊢; rw [e, (k 220 (by omega) (by omega)).i]; exact h12
  · unfold SmBk at h14 ⊢; rw [e]; exact h14
/-- a call, in both -/
def Cal {α : Type} (x y : Mem → Option (α × Mem)) : Prop := ∀ N A B, N < 600 → Sim N A B → ∃ v A' B', x A = some (v, A') ∧ y B = some (v, B') ∧ Sim (N + 1) A' B' ∧ KRf A A' ∧ KCl B B' ∧ nc A' ≤ nc A + 10 ∧ ns A' ≤ ns A + 2300
theorem cal_law {α : Type} {x y : Mem → Option (α × Mem)} (h : Cal x y) {N : Nat} {M : Mem} (hN : N < 600) (hM : Sim N M M) : ∃ v M1 M2, x M = some (v, M1) ∧ y M1 = some (v, M2) ∧ Sim (N + 1) M2 M2 ∧ nc M2 ≤ nc M + 10 ∧ ns M2 ≤ ns M + 2300 := by
  obtain ⟨v, A', B', e1, -, -, k1, -, -, -⟩ := h N M M hN hM
  obtain ⟨u, A2, B2, f1, f2, s2, -, k2, n1, n2⟩ := h N M A' hN (sim_ref hM k1)
  rw [e1] at f1
  cases f1
  refine ⟨v, A', B2, e1, f2, sim_cls s2 k2, ?_, ?_⟩
  · rw [k2.nc]; exact n1
  · have : ns B2 = ns A' := congrArg Prod.snd k2.1
    rw [this]; exact n2
theorem sim_mono {N : Nat} {A B : Mem} (h : Sim N A B) : Sim (N + 1) A B := by
  obtain ⟨h1, h2, h3, h4, h5, h6, h7, h8, ⟨e, he, h9⟩, h10, h11, ⟨n, hn, h12⟩, h13⟩ := h
  exact ⟨h1, h2, h3, h4, h5, h6, h7, h8, ⟨e, by omega, h9⟩, h10, h11, ⟨n, by omega, h12⟩, h13⟩
/-- a call that changes nothing -/
theorem cal_same {α : Type} {x y : Mem → Option (α × Mem)} (h : ∀ N A B, N < 600 → Sim N A B → ∃ v, x A = some (v, A) ∧ y B = some (v, B)) : Cal x y := by
  intro N A B hN hs
  obtain ⟨v, h1, h2⟩ := h N A B hN hs
  exact ⟨v, A, B, h1, h2, sim_mono hs, KRf.rf, KCl.rf, by omega, by omega⟩
