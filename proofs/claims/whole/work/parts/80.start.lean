-- ===== the law's start: what the Statement gives becomes G; what is left is a statement about functions =====
/-- the memory at the law's start -/
def M_in : Mem := ((0, 0), (fun _ => (99, 0)), (fun _ _ => 0), (fun _ _ => 0), (fun _ _ => none))
/-- WHAT IS LEFT: the law, as a function of the script, answers 1 within the room -/
def MainPure : Prop := ∀ G : Gt, gSn G ≤ 3072 → ∃ M9 : Mem, L_L_law G (some (gSa G)) M_in = some (1, M9) ∧ nc M9 ≤ 600000 ∧ ns M9 ≤ 7302250
theorem room_less {s : State} {pl : Platform} {R R' : Room} (h : s.hasRoom pl R' = true) (h1 : R.frames ≤ R'.frames) (h2 : R.cells ≤ R'.cells) (h3 : R.slots ≤ R'.slots) (h4 : R.locals ≤ R'.locals) : s.hasRoom pl R = true := by
  simp only [State.hasRoom, Bool.and_eq_true, decide_eq_true_eq] at h ⊢
  obtain ⟨⟨⟨⟨a0, a1, a2, a3, a4, a5⟩, b1⟩, b2⟩, b3⟩ := h
  exact ⟨⟨⟨⟨by omega, by omega, by omega, by omega, by omega, a5⟩, by omega⟩, by omega⟩, b3⟩
theorem wt_tbl {w : Cond} (h : w ∈ WT) : w ∈ lw_tbl := (List.mem_filter.mp h).1
theorem tb_of {w : Cond} (i : Nat) (h : tables_1[i]? = some w) : w ∈ lw_tbl := List.mem_append_right _ (List.mem_of_getElem? h)
set_option maxRecDepth 100000 in
theorem ao_25 : Cond.arrayOver (.object RX6) ∈ lw_tbl := tb_of 244 rfl
set_option maxRecDepth 100000 in
theorem ao_26 : Cond.arrayOver (.object RX8) ∈ lw_tbl := tb_of 246 rfl
set_option maxRecDepth 100000 in
theorem ao_27 : Cond.arrayOver (.object RX2) ∈ lw_tbl := tb_of 339 rfl
set_option maxRecDepth 100000 in
theorem ao_28 : Cond.arrayOver (.object RX9) ∈ lw_tbl := tb_of 395 rfl
set_option maxRecDepth 100000 in
theorem sr_0 : Cond.stringRef (SK.getD 0 ("", 0, "")).1 (SK.getD 0 ("", 0, "")).2.1 (SK.getD 0 ("", 0, "")).2.2 ∈ lw_tbl := tb_of 38 rfl
set_option maxRecDepth 100000 in
theorem sr_1 : Cond.stringRef (SK.getD 1 ("", 0, "")).1 (SK.getD 1 ("", 0, "")).2.1 (SK.getD 1 ("", 0, "")).2.2 ∈ lw_tbl := tb_of 477 rfl
set_option maxRecDepth 100000 in
theorem ls_0 : Cond.laysStatic "java/lang/String" "COMPACT_STRINGS" "Z" ∈ lw_tbl := tb_of 48 rfl
set_option maxRecDepth 100000 in
theorem ls_1 : Cond.laysStatic "jdk/internal/util/Preconditions" "SIOOBE_FORMATTER" "Ljava/util/function/BiFunction;" ∈ lw_tbl := tb_of 64 rfl
set_option maxRecDepth 100000 in
theorem ii_str : Cond.initialized "java/lang/String" ∈ WT := wt_of 3 rfl rfl
set_option maxRecDepth 100000 in
theorem ii_pre : Cond.initialized "jdk/internal/util/Preconditions" ∈ WT := wt_of 5 rfl rfl
set_option maxRecDepth 100000 in
theorem ca_0 : Cond.castable "[I" "java/lang/Cloneable" ∈ lw_tbl := tb_of 709 rfl
set_option maxRecDepth 100000 in
theorem ca_1 : Cond.castable "[J" "java/lang/Cloneable" ∈ lw_tbl := tb_of 721 rfl
set_option maxRecDepth 100000 in
theorem nl_tbl : ∀ q ∈ NL, Cond.methodLinkNest q.1 q.2.1 q.2.2.1 q.2.2.2 ∈ lw_tbl := by
  have h : ∀ (i : Nat) (q : String × Nat × MethodName × String), NL[i]? = some q → Cond.methodLinkNest q.1 q.2.1 q.2.2.1 q.2.2.2 ∈ lw_tbl := by
    intro i q hq
    match i, hq with
    | 0, hq => cases hq; exact tb_of 341 rfl
    | 1, hq => cases hq; exact tb_of 469 rfl
    | 2, hq => cases hq; exact tb_of 569 rfl
    | 3, hq => cases hq; exact tb_of 590 rfl
    | i + 4, hq => exact absurd hq (by simp [NL])
  intro q hq
  obtain ⟨i, hi⟩ := List.getElem?_of_mem hq
  exact h i q hi
section Start
variable {s : State} {b : Nat}
theorem st_known (hts : ∀ w ∈ lw_tbl, w.before #[Value.ref b] s = true) : ∃ (dC : Nat → ClassId) (dI : Nat → Nat → Nat), ∀ (k : Nat) (q : vw_C), vwCl[k]? = some q → u_Kn s q.1 q.2.1 q.2.2 (dC k) (dI k) := by
  have one : ∀ (k : Nat) (C : String) (T : u_T) (N : Nat), Cls k C T N → Cond.instantiable C N ∈ WT → ∃ z : ClassId × (Nat → Nat), ∀ q : vw_C, vwCl[k]? = some q → u_Kn s q.1 q.2.1 q.2.2 z.1 z.2 := by
    intro k C T N hc hi
    obtain ⟨cC, iS, hk⟩ := u_known (C := C) (T := T) (N := N) (n := N) (fun w h => hts w (wt_tbl h)) hc.2.2.2.1 (hts _ (wt_tbl hi))
    refine ⟨(cC, iS), fun q hq => ?_⟩
    rw [hc.1] at hq
    cases hq
    exact hk
  have all : ∀ k : Nat, ∃ z : ClassId × (Nat → Nat), ∀ q : vw_C, vwCl[k]? = some q → u_Kn s q.1 q.2.1 q.2.2 z.1 z.2 := by
    intro k
    match k with
    | 0 => exact one 0 _ _ _ clsX0 inX0
    | 1 => exact one 1 _ _ _ clsX1 inX1
    | 2 => exact one 2 _ _ _ clsX2 inX2
    | 3 => exact one 3 _ _ _ clsX3 inX3
    | 4 => exact one 4 _ _ _ clsX4 inX4
    | 5 => exact one 5 _ _ _ clsX5 inX5
    | 6 => exact one 6 _ _ _ clsX6 inX6
    | 7 => exact one 7 _ _ _ clsX7 inX7
    | 8 => exact one 8 _ _ _ clsX8 inX8
    | 9 => exact one 9 _ _ _ clsX9 inX9
    | 10 => exact one 10 _ _ _ clsX10 inX10
    | 11 => exact one 11 _ _ _ clsX11 inX11
    | k + 12 => exact ⟨(0, fun _ => 0), fun q hq => absurd hq (by simp [vwCl])⟩
  obtain ⟨f, hf⟩ := Classical.axiomOfChoice all
  exact ⟨fun k => (f k).1, fun k => (f k).2, fun k q hq => hf k q hq⟩
theorem st_arr (hts : ∀ w ∈ lw_tbl, w.before #[Value.ref b] s = true) : ∃ dA : Nat → ClassId, ∀ k : Nat, 20 ≤ k → k < 29 → ArrOfT s (dA k) (aty k) ∧ va_RA s (dA k) (aty k) := by
  have num : ∀ k : Nat, k < 25 → 20 ≤ k → Cond.arrayClass (aty k) ∈ WT → ∃ cA : ClassId, ArrOfT s cA (aty k) ∧ va_RA s cA (aty k) := by
    intro k h1 h2 hw
    obtain ⟨c, kA, comp, e1, e2, e3⟩ := Cond.arrayClass_spec (hts _ (wt_tbl hw))
    refine ⟨c, fun n z => ⟨fun k h => (by cases h), kA, e2, comp, e3⟩, ?_⟩
    have : k = 20 ∨ k = 21 ∨ k = 22 ∨ k = 23 ∨ k = 24 := by omega
    rcases this with rfl | rfl | rfl | rfl | rfl <;> exact e1
  have obj : ∀ (k : Nat) (C : String), aty k = .object C → Cond.arrayOver (.object C) ∈ lw_tbl → ∃ cA : ClassId, ArrOfT s cA (aty k) ∧ va_RA s cA (aty k) := by
    intro k C hty hw
    obtain ⟨comp, c, kA, e1, e2, e3, e4, e5⟩ := Cond.arrayOver_spec (hts _ hw)
    rw [hty]
    exact ⟨c, fun n z => ⟨fun k h => (by cases h), kA, e3, comp, e4⟩, kA, comp, e3, e4, e1, e5⟩
  have all : ∀ k : Nat, ∃ cA : ClassId, 20 ≤ k → k < 29 → ArrOfT s cA (aty k) ∧ va_RA s cA (aty k) := by
    intro k
    by_cases hk : 20 ≤ k ∧ k < 29
    · have : k = 20 ∨ k = 21 ∨ k = 22 ∨ k = 23 ∨ k = 24 ∨ k = 25 ∨ k = 26 ∨ k = 27 ∨ k = 28 := by omega
      rcases this with rfl | rfl | rfl | rfl | rfl | rfl | rfl | rfl | rfl
      · obtain ⟨c, h⟩ := num 20 (by decide) (by decide) ac20; exact ⟨c, fun _ _ => h⟩
      · obtain ⟨c, h⟩ := num 21 (by decide) (by decide) ac21; exact ⟨c, fun _ _ => h⟩
      · obtain ⟨c, h⟩ := num 22 (by decide) (by decide) ac22; exact ⟨c, fun _ _ => h⟩
      · obtain ⟨c, h⟩ := num 23 (by decide) (by decide) ac23; exact ⟨c, fun _ _ => h⟩
      · obtain ⟨c, h⟩ := num 24 (by decide) (by decide) ac24; exact ⟨c, fun _ _ => h⟩
      · obtain ⟨c, h⟩ := obj 25 RX6 rfl ao_25; exact ⟨c, fun _ _ => h⟩
      · obtain ⟨c, h⟩ := obj 26 RX8 rfl ao_26; exact ⟨c, fun _ _ => h⟩
      · obtain ⟨c, h⟩ := obj 27 RX2 rfl ao_27; exact ⟨c, fun _ _ => h⟩
      · obtain ⟨c, h⟩ := obj 28 RX9 rfl ao_28; exact ⟨c, fun _ _ => h⟩
    · exact ⟨0, fun h1 h2 => absurd ⟨h1, h2⟩ hk⟩
  obtain ⟨f, hf⟩ := Classical.axiomOfChoice all
  exact ⟨f, fun k h1 h2 => hf k h1 h2⟩
/-- the term of the i-th constant text -/
def skT (i : Nat) : Term := .string (SK.getD i ("", 0, "")).1 (SK.getD i ("", 0, "")).2.1
theorem sk_c1 : ∀ i, i < 2 → Cond.exactly (skT i) "java/lang/String" ∈ flatC (Jvm.Cond.and given_1 narrow_1) := by decide +kernel
theorem sk_c2 : ∀ i, i < 2 → Cond.eq (.field (skT i) "java/lang/String" "coder" "B") (.int 0) ∈ flatC (Jvm.Cond.and given_1 narrow_1) := by decide +kernel
theorem sk_c3 : ∀ i, i < 2 → Cond.arrayOf (.field (skT i) "java/lang/String" "value" "[B") .byte ∈ flatC (Jvm.Cond.and given_1 narrow_1) := by decide +kernel
theorem sk_c4 : ∀ i, i < 2 → Cond.eq (.length (.field (skT i) "java/lang/String" "value" "[B")) (.int (Int32.ofNat (slen.getD i 0))) ∈ flatC (Jvm.Cond.and given_1 narrow_1) := by decide +kernel
theorem sk_c5 : ∀ i, i < 2 → ∀ j, j < slen.getD i 0 → Cond.eq (.elem (.field (skT i) "java/lang/String" "value" "[B") (.int (Int32.ofNat j))) (.int ((sbyt.getD i []).getD j 0)) ∈ flatC (Jvm.Cond.and given_1 narrow_1) := by decide +kernel
theorem sk_c6 : (Cond.not (Cond.eq (skT 0) (skT 1)) ∈ flatC (Jvm.Cond.and given_1 narrow_1)) ∨ (Cond.not (Cond.eq (skT 1) (skT 0)) ∈ flatC (Jvm.Cond.and given_1 narrow_1)) := by decide +kernel
theorem sk_c7 : Cond.eq (.static "java/lang/String" "COMPACT_STRINGS" "Z") (.int 1) ∈ flatC (Jvm.Cond.and given_1 narrow_1) := by decide +kernel
theorem sk_c8 : Cond.isRef (.static "jdk/internal/util/Preconditions" "SIOOBE_FORMATTER" "Ljava/util/function/BiFunction;") ∈ flatC (Jvm.Cond.and given_1 narrow_1) := by decide +kernel
theorem st_str (hts : ∀ w ∈ lw_tbl, w.before #[Value.ref b] s = true) (hgv : (Jvm.Cond.and given_1 narrow_1).before #[Value.ref b] s = true) : ∃ (adK adV : Nat → Nat), (∀ (i : Nat) (q : String × Nat × String), SK[i]? = some q → vk_R q.1 q.2.1 q.2.2 (adK i) s) ∧ vk_S 2 slen sbyt adK adV (fun q => s.heap.size ≤ q) s s.heap := by
  have hs := flat_of_before _ hgv
  obtain ⟨adK, adV, h1, h2⟩ := vk_Sof (args := #[Value.ref b]) (s := s) (N := 2) (tm := skT) (len := slen) (byt := sbyt) (A := fun q => s.heap.size ≤ q) (by decide) (fun i hi => hs _ (sk_c1 i hi)) (fun i hi => hs _ (sk_c2 i hi)) (fun i hi => hs _ (sk_c3 i hi)) (fun i hi => hs _ (sk_c4 i hi)) (fun i hi j hj => hs _ (sk_c5 i hi j hj)) (fun i j hi hj hij => by
      have hc : (i = 0 ∧ j = 1) ∨ (i = 1 ∧ j = 0) := by omega
      rcases hc with ⟨rfl, rfl⟩ | ⟨rfl, rfl⟩
      · exact sk_c6.elim (fun h => Or.inl (hs _ h)) (fun h => Or.inr (hs _ h))
      · exact sk_c6.elim (fun h => Or.inr (hs _ h)) (fun h => Or.inl (hs _ h))) (fun a ha hh => by omega)
  refine ⟨adK, adV, fun i q hq => ?_, h1⟩
  match i, hq with
  | 0, hq =>
    cases hq
    exact vk_R.of (A := #[Value.ref b]) (hts _ sr_0) (h2 0 (by decide))
  | 1, hq =>
    cases hq
    exact vk_R.of (A := #[Value.ref b]) (hts _ sr_1) (h2 1 (by decide))
  | i + 2, hq => exact absurd hq (by simp [SK])
theorem st_KK (l : Launch) {L : Nat} {xs : Nat → Int32} (hts : ∀ w ∈ lw_tbl, w.before #[Value.ref b] s = true) (hX : va_X b L xs s s.heap) (hbl : b < s.heap.size) (hgv : (Jvm.Cond.and given_1 narrow_1).before #[Value.ref b] s = true) : ∃ G : Gt, gL G = l ∧ gH G = s.heap ∧ gSa G = b ∧ gSn G = L ∧ KK G s := by
  obtain ⟨dC, dI, k1⟩ := st_known hts
  obtain ⟨dA, k2⟩ := st_arr hts
  obtain ⟨adK, adV, k3, k4⟩ := st_str hts hgv
  have hs := flat_of_before _ hgv
  have hA : ∀ a : Nat, a < s.heap.size → ¬ (fun q => s.heap.size ≤ q) a := fun a ha hh => Nat.not_le.mpr ha hh
  have z1 : va_Z "java/lang/String" "COMPACT_STRINGS" "Z" (.int 1) (fun q => s.heap.size ≤ q) s s.heap := va_Zof (hts _ ls_0) (hts _ (wt_tbl ii_str)) (va_eqt (hs _ sk_c7)) hA
  have z2 := va_Zqof (hts _ ls_1) (hts _ (wt_tbl ii_pre)) (hs _ sk_c8) hA
  obtain ⟨fo, z3⟩ : ∃ fo : Option Nat, va_Z "jdk/internal/util/Preconditions" "SIOOBE_FORMATTER" "Ljava/util/function/BiFunction;" (xv fo) (fun q => s.heap.size ≤ q) s s.heap := by
    rcases z2 with h | ⟨t, h⟩
    · exact ⟨none, h⟩
    · exact ⟨some t, h⟩
  refine ⟨(l, (dC, dI), dA, s.heap, adK, adV, fo, b, L, xs), rfl, rfl, rfl, rfl, k1, k2, fun k h1 h2 => ?_, fun q hq => ?_, k3, k4, z1, z3, va_Nw.of rfl (hts _ ca_0), va_Nw.of rfl (hts _ ca_1), hX, hbl⟩
  · have : k = 25 ∨ k = 26 ∨ k = 27 ∨ k = 28 := by omega
    rcases this with rfl | rfl | rfl | rfl
    · exact va_AO.of (hts _ ao_25)
    · exact va_AO.of (hts _ ao_26)
    · exact va_AO.of (hts _ ao_27)
    · exact va_AO.of (hts _ ao_28)
  · exact va_Nw.of rfl (hts _ (nl_tbl q hq))
end Start
theorem M_in_Rp (G : Gt) : Rp G M_in (gH G) := ⟨rfl, fun _ _ => rfl, fun a h => absurd (show (99 : Nat) < 29 from h) (by decide)⟩
theorem Framed.of_end {s t : State} {o : Outcome} {L : List Loc} {k n k2 n2 : Nat} (h : FrameEnd s o t L k n) (hL : ∀ q ∈ L, s.heap.size ≤ q.base) (h1 : k ≤ k2) (h2 : n ≤ n2) : Framed s o t [] k2 n2 :=
  ⟨h.1, h.2.1, h.2.2.weaken (fun y hy hlt => absurd hlt (Nat.not_lt.mpr (hL y hy))) h1 h2⟩
