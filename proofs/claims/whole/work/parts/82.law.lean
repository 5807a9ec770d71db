-- ===== the law, as a function of the script =====
theorem law_one {α : Type} [DecidableEq α] {x y : Mem → Option (α × Mem)} (h : Cal0 x y) {N R1 R2 : Nat} {M : Mem} (hN : N < 600) (hM : Sim N M M) (hz : Zr M) {K Z : Mem → Option (Int32 × Mem)}
    (hK : ∀ M2, Sim (N + 1) M2 M2 → Zr M2 → nc M2 ≤ nc M + 10 → ns M2 ≤ ns M + 2300 → ∃ M9, K M2 = some (1, M9) ∧ nc M9 ≤ R1 ∧ ns M9 ≤ R2) :
    ∃ M9, ((ck M 10 (some 0)).bind fun _ => (x M).bind fun w => (ck w.2 11 (some 181)).bind fun _ => (y w.2).bind fun u => if w.1 = u.1 then K u.2 else Z u.2) = some (1, M9) ∧ nc M9 ≤ R1 ∧ ns M9 ≤ R2 := by
  obtain ⟨v', A', B', f1, -, -, -, k1, -⟩ := h N M M hN hM hz
  obtain ⟨v, M1, M2, e1, e2, s, z, n1, n2⟩ := cal_law0 h hN hM hz
  have ea : M1 = A' := by rw [e1] at f1; cases f1; rfl
  subst ea
  obtain ⟨M9, g1, g2, g3⟩ := hK M2 s z n1 n2
  refine ⟨M9, ?_, g2, g3⟩
  have q1 : kd M 0 = 10 := hM.1.hk 0
  have q2 : kd M1 181 = 11 := (k1 181 (by omega) (by omega)).k.trans (hM.2.1.kd 181)
  rw [bi_ck q1, e1, bS]; dsimp only
  rw [bi_ck q2, e2, bS]; dsimp only
  rw [if_pos rfl]; exact g1
theorem le_a {a b N : Nat} (h : a ≤ 231 + 10 * N) (g : b ≤ a + 10) : b ≤ 231 + 10 * (N + 1) := by omega
theorem le_b {a b S N : Nat} (h : a ≤ S + 2300 * N) (g : b ≤ a + 2300) : b ≤ S + 2300 * (N + 1) := by
  rw [Nat.mul_succ, ← Nat.add_assoc]
  exact Nat.le_trans g (Nat.add_le_add_right h 2300)
theorem sN_ok {G : Gt} : sN G (some (gSa G)) = some (ni (gSn G)) := if_pos rfl
theorem sI_ok {G : Gt} {k : Nat} (hk : k < gSn G) (hG : gSn G ≤ 3072) : sI G (some (gSa G)) (ni k) = some (gSx G k) := by
  unfold sI
  rw [if_pos ⟨rfl, (ni_inb (by omega)).mpr hk⟩, ni_tn (by omega)]
theorem stop_iff {T k : Nat} (hT : T ≤ 3072) (hk : k ≤ 10000) : ni T - 6 < ni k ↔ T < k + 6 := by
  by_cases h : 6 ≤ T
  · rw [show ni T - 6 = ni (T - 6) from ni_sub (a := T) (b := 6) h, ni_lt (by omega) (by omega)]; omega
  · have : ni T - 6 < 0 := by
      rcases (show T = 0 ∨ T = 1 ∨ T = 2 ∨ T = 3 ∨ T = 4 ∨ T = 5 by omega) with rfl | rfl | rfl | rfl | rfl | rfl <;> decide
    refine ⟨fun _ => by omega, fun _ => ?_⟩
    rw [Int32.lt_iff_toInt_lt] at this ⊢
    rw [ni_toInt (by omega)]
    have z : (0 : Int32).toInt = 0 := by decide
    omega
set_option maxRecDepth 20000 in
theorem law_lp {G : Gt} (hG : gSn G ≤ 3072) {S : Nat} : ∀ d N M f, gSn G < 6 * N + 6 * d + 6 → d < f → N + d ≤ 520 → Sim N M M → Zr M → nc M ≤ 231 + 10 * N → ns M ≤ S + 2300 * N → ∃ M9, J_L_law_18 G f (some (gSa G)) (some 0) (some 181) (ni (6 * N)) M = some (1, M9) ∧ nc M9 ≤ 231 + 5200 ∧ ns M9 ≤ S + 2300 * 520 := by
  intro d
  induction d with
  | zero =>
    intro N M f hT hf hN hM hz n1 n2
    obtain ⟨f, rfl⟩ : ∃ f', f = f' + 1 := ⟨f - 1, by omega⟩
    refine ⟨M, ?_, by omega, by omega⟩
    rw [J_L_law_18]; dsimp only
    rw [sN_ok, bS, if_pos ((stop_iff hG (by omega)).mpr (by omega))]; rfl
  | succ d ih =>
    intro N M f hT hf hN hM hz n1 n2
    obtain ⟨f, rfl⟩ : ∃ f', f = f' + 1 := ⟨f - 1, by omega⟩
    rw [J_L_law_18]; dsimp only
    rw [sN_ok, bS]
    by_cases hs : gSn G < 6 * N + 6
    · rw [if_pos ((stop_iff hG (by omega)).mpr hs)]
      exact ⟨M, rfl, by omega, by omega⟩
    · rw [if_neg (fun e => hs ((stop_iff hG (by omega)).mp e)), sI_ok (by omega) hG, bS]
      have s1 : sI G (some (gSa G)) (ni (6 * N) + 1) = some (gSx G (6 * N + 1)) := by rw [show ni (6 * N) + 1 = ni (6 * N + 1) from ni_add _ 1]; exact sI_ok (by omega) hG
      have s2 : sI G (some (gSa G)) (ni (6 * N) + 2) = some (gSx G (6 * N + 2)) := by rw [show ni (6 * N) + 2 = ni (6 * N + 2) from ni_add _ 2]; exact sI_ok (by omega) hG
      have s3 : sI G (some (gSa G)) (ni (6 * N) + 3) = some (gSx G (6 * N + 3)) := by rw [show ni (6 * N) + 3 = ni (6 * N + 3) from ni_add _ 3]; exact sI_ok (by omega) hG
      have s4 : sI G (some (gSa G)) (ni (6 * N) + 4) = some (gSx G (6 * N + 4)) := by rw [show ni (6 * N) + 4 = ni (6 * N + 4) from ni_add _ 4]; exact sI_ok (by omega) hG
      have s5 : sI G (some (gSa G)) (ni (6 * N) + 5) = some (gSx G (6 * N + 5)) := by rw [show ni (6 * N) + 5 = ni (6 * N + 5) from ni_add _ 5]; exact sI_ok (by omega) hG
      have go : ∀ M2, Sim (N + 1) M2 M2 → Zr M2 → nc M2 ≤ nc M + 10 → ns M2 ≤ ns M + 2300 → ∃ M9, J_L_law_640 G (J_L_law_18 G f) (some (gSa G)) (some 0) (some 181) (ni (6 * N)) M2 = some (1, M9) ∧ nc M9 ≤ 231 + 5200 ∧ ns M9 ≤ S + 2300 * 520 := by
        intro M2 h1 h2 h3 h4
        unfold J_L_law_640
        rw [show ni (6 * N) + 6 = ni (6 * (N + 1)) from ni_add (6 * N) 6]
        exact ih (N + 1) M2 f (by omega) (by omega) (by omega) h1 h2 (le_a n1 h3) (le_b n2 h4)
      have hN6 : N < 600 := by omega
      simp only [s1, s2, s3, s4, s5, bS]
      by_cases c0 : gSx G (6 * N) &&& 31 = 0
      · rw [if_pos c0]
        exact law_one (K := fun M => J_L_law_640 G (J_L_law_18 G f) (some (gSa G)) (some 0) (some 181) (ni (6 * N)) M) (Z := fun M => (bz 0).bind fun _ => some (0, M)) (Cal.c0 (cal_feed (gSx G (6 * N + 1)) (gSx G (6 * N + 2)) (gSx G (6 * N + 3)) (gSx G (6 * N + 4)) (gSx G (6 * N + 5))) fun B w h => (kx_X11_feed h).to4) hN6 hM hz go
      rw [if_neg c0]
      by_cases c1 : gSx G (6 * N) &&& 31 = 1
      · rw [if_pos c1]
        exact law_one (K := fun M => J_L_law_640 G (J_L_law_18 G f) (some (gSa G)) (some 0) (some 181) (ni (6 * N)) M) (Z := fun M => (bz 0).bind fun _ => some (0, M)) (Cal.c0 (cal_end (gSx G (6 * N + 1))) fun B w h => (kx_X11_end h).to4) hN6 hM hz go
      rw [if_neg c1]
      by_cases c2 : gSx G (6 * N) &&& 31 = 2
      · rw [if_pos c2]
        exact law_one (K := fun M => J_L_law_640 G (J_L_law_18 G f) (some (gSa G)) (some 0) (some 181) (ni (6 * N)) M) (Z := fun M => (bz 0).bind fun _ => some (0, M)) (cal_sheet (gSx G (6 * N + 1))) hN6 hM hz go
      rw [if_neg c2]
      by_cases c3 : gSx G (6 * N) &&& 31 = 3
      · rw [if_pos c3]
        exact law_one (K := fun M => J_L_law_640 G (J_L_law_18 G f) (some (gSa G)) (some 0) (some 181) (ni (6 * N)) M) (Z := fun M => (bz 0).bind fun _ => some (0, M)) (Cal.c0 (cal_fault (gSx G (6 * N + 1))) fun B w h => (kx_X11_fault h).to4) hN6 hM hz go
      rw [if_neg c3]
      by_cases c4 : gSx G (6 * N) &&& 31 = 4
      · rw [if_pos c4]
        exact law_one (K := fun M => J_L_law_640 G (J_L_law_18 G f) (some (gSa G)) (some 0) (some 181) (ni (6 * N)) M) (Z := fun M => (bz 0).bind fun _ => some (0, M)) (Cal.c0 (cal_forget (gSx G (6 * N + 1))) fun B w h => (kx_X11_forget h).to4) hN6 hM hz go
      rw [if_neg c4]
      by_cases c5 : gSx G (6 * N) &&& 31 = 5
      · rw [if_pos c5]
        exact law_one (K := fun M => J_L_law_640 G (J_L_law_18 G f) (some (gSa G)) (some 0) (some 181) (ni (6 * N)) M) (Z := fun M => (bz 0).bind fun _ => some (0, M)) (Cal.c0 (cal_issue) fun B w h => (kx_X11_issue h).to4) hN6 hM hz go
      rw [if_neg c5]
      by_cases c6 : gSx G (6 * N) &&& 31 = 6
      · rw [if_pos c6]
        exact law_one (K := fun M => J_L_law_640 G (J_L_law_18 G f) (some (gSa G)) (some 0) (some 181) (ni (6 * N)) M) (Z := fun M => (bz 0).bind fun _ => some (0, M)) (Cal.c0 (cal_state (gSx G (6 * N + 1)) (gSx G (6 * N + 2))) fun B w h => (kx_X11_state h).to4) hN6 hM hz go
      rw [if_neg c6]
      by_cases c7 : gSx G (6 * N) &&& 31 = 7
      · rw [if_pos c7]
        exact law_one (K := fun M => J_L_law_640 G (J_L_law_18 G f) (some (gSa G)) (some 0) (some 181) (ni (6 * N)) M) (Z := fun M => (bz 0).bind fun _ => some (0, M)) (Cal.c0 (cal_leans (gSx G (6 * N + 1)) (gSx G (6 * N + 2))) fun B w h => (kx_X11_leans h).to4) hN6 hM hz go
      rw [if_neg c7]
      by_cases c8 : gSx G (6 * N) &&& 31 = 8
      · rw [if_pos c8]
        exact law_one (K := fun M => J_L_law_640 G (J_L_law_18 G f) (some (gSa G)) (some 0) (some 181) (ni (6 * N)) M) (Z := fun M => (bz 0).bind fun _ => some (0, M)) (Cal.c0 (cal_constant (gSx G (6 * N + 1)) (gSx G (6 * N + 2))) fun B w h => (kx_X11_constant h).to4) hN6 hM hz go
      rw [if_neg c8]
      by_cases c9 : gSx G (6 * N) &&& 31 = 9
      · rw [if_pos c9]
        exact law_one (K := fun M => J_L_law_640 G (J_L_law_18 G f) (some (gSa G)) (some 0) (some 181) (ni (6 * N)) M) (Z := fun M => (bz 0).bind fun _ => some (0, M)) (Cal.c0 (cal_entry (gSx G (6 * N + 1)) (gSx G (6 * N + 2)) (gSx G (6 * N + 3))) fun B w h => (kx_X11_entry h).to4) hN6 hM hz go
      rw [if_neg c9]
      by_cases c10 : gSx G (6 * N) &&& 31 = 10
      · rw [if_pos c10]
        exact law_one (K := fun M => J_L_law_640 G (J_L_law_18 G f) (some (gSa G)) (some 0) (some 181) (ni (6 * N)) M) (Z := fun M => (bz 0).bind fun _ => some (0, M)) (Cal.c0 (cal_need (gSx G (6 * N + 1))) fun B w h => (kx_X11_need h).to4) hN6 hM hz go
      rw [if_neg c10]
      by_cases c11 : gSx G (6 * N) &&& 31 = 11
      · rw [if_pos c11]
        exact law_one (K := fun M => J_L_law_640 G (J_L_law_18 G f) (some (gSa G)) (some 0) (some 181) (ni (6 * N)) M) (Z := fun M => (bz 0).bind fun _ => some (0, M)) (Cal.c0 (cal_started (gSx G (6 * N + 1))) fun B w h => (kx_X11_started h).to4) hN6 hM hz go
      rw [if_neg c11]
      by_cases c12 : gSx G (6 * N) &&& 31 = 12
      · rw [if_pos c12]
        exact law_one (K := fun M => J_L_law_640 G (J_L_law_18 G f) (some (gSa G)) (some 0) (some 181) (ni (6 * N)) M) (Z := fun M => (bz 0).bind fun _ => some (0, M)) (Cal.c0 (cal_voyage (gSx G (6 * N + 1)) (gSx G (6 * N + 2))) fun B w h => (kx_X11_voyage h).to4) hN6 hM hz go
      rw [if_neg c12]
      by_cases c13 : gSx G (6 * N) &&& 31 = 13
      · rw [if_pos c13]
        exact law_one (K := fun M => J_L_law_640 G (J_L_law_18 G f) (some (gSa G)) (some 0) (some 181) (ni (6 * N)) M) (Z := fun M => (bz 0).bind fun _ => some (0, M)) (Cal.c0 (cal_lock (gSx G (6 * N + 1)) (gSx G (6 * N + 2)) (gSx G (6 * N + 3)) (gSx G (6 * N + 4))) fun B w h => (kx_X11_lock h).to4) hN6 hM hz go
      rw [if_neg c13]
      by_cases c14 : gSx G (6 * N) &&& 31 = 14
      · rw [if_pos c14]
        exact law_one (K := fun M => J_L_law_640 G (J_L_law_18 G f) (some (gSa G)) (some 0) (some 181) (ni (6 * N)) M) (Z := fun M => (bz 0).bind fun _ => some (0, M)) (Cal.c0 (cal_bill (gSx G (6 * N + 1))) fun B w h => (kx_X11_bill h).to4) hN6 hM hz go
      rw [if_neg c14]
      by_cases c15 : gSx G (6 * N) &&& 31 = 15
      · rw [if_pos c15]
        exact law_one (K := fun M => J_L_law_640 G (J_L_law_18 G f) (some (gSa G)) (some 0) (some 181) (ni (6 * N)) M) (Z := fun M => (bz 0).bind fun _ => some (0, M)) (Cal.c0 (cal_line (gSx G (6 * N + 1)) (gSx G (6 * N + 2))) fun B w h => (kx_X11_line h).to4) hN6 hM hz go
      rw [if_neg c15]
      by_cases c16 : gSx G (6 * N) &&& 31 = 16
      · rw [if_pos c16]
        exact law_one (K := fun M => J_L_law_640 G (J_L_law_18 G f) (some (gSa G)) (some 0) (some 181) (ni (6 * N)) M) (Z := fun M => (bz 0).bind fun _ => some (0, M)) (Cal.c0 (cal_count (gSx G (6 * N + 1))) fun B w h => (kx_X11_count h).to4) hN6 hM hz go
      rw [if_neg c16]
      exact go M (sim_mono hM) hz (by omega) (by omega)
