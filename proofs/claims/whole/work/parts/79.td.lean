-- ===== what was thrown is caught, or goes on =====
section Ct
variable {A : Mem} {s ny : Nat} {ts te es : Nat → Int32}
/-- the tries of a sheet -/
def Try (ts te es : Nat → Int32) (ny s : Nat) (A : Mem) : Prop := ShO A s ∧ ln A (s + 7) = ny ∧ ny ≤ 40 ∧ ∀ k, gi A (s + 7) k = ts k ∧ gi A (s + 8) k = te k ∧ gi A (s + 9) k = es k
/-- where a part catches, or none -/
def ctv (es : Nat → Int32) : Option Nat → Int32
  | some k => es k
  | none => -1
theorem ct_1 {F n : Nat} {pc : Int32} (h : Try ts te es ny s A) (hn : n < ny) : J_X6_catchAt_8 (F + 1) (some s) pc (ni n) A = if pc < ts n then J_X6_catchAt_8 F (some s) pc (ni n - 1) A else if te n ≤ pc then J_X6_catchAt_8 F (some s) pc (ni n - 1) A else some (es n, A) := by
  obtain ⟨⟨-, -, k0, ⟨-, -, -, -, -, -, r10, r11, r12⟩, ⟨-, -, -, -, -, -, k7, k8, k9⟩, ⟨-, -, -, l8, l9⟩⟩, h1, h2, h3⟩ := h
  rw [J_X6_catchAt_8]; dsimp only
  rw [if_neg (ni_n0 (by omega)), bi_fR k0 r10, bi_aI k7 h1, gdT ((ni_inb (by omega)).mpr hn), ni_tn (by omega), (h3 n).1, bi_fR k0 r11, bi_aI k8 (l8.trans h1), gdT ((ni_inb (by omega)).mpr hn), ni_tn (by omega), (h3 n).2.1, bi_fR k0 r12, bi_aI k9 (l9.trans h1), gdT ((ni_inb (by omega)).mpr hn), ni_tn (by omega), (h3 n).2.2]
  unfold J_X6_catchAt_39
  rw [Int32.sub_eq_add_neg]
theorem ct_lp {pc : Int32} (h : Try ts te es ny s A) {P : Option Nat} (hP : ∀ k, P = some k → k < ny ∧ ¬ pc < ts k ∧ ¬ te k ≤ pc) : ∀ {n F : Nat}, n ≤ ny → n < F → (∀ k, P = some k → k < n) → (∀ i, i < n → (∀ k, P = some k → k < i) → pc < ts i ∨ te i ≤ pc) → J_X6_catchAt_8 F (some s) pc (ni n - 1) A = some (ctv es P, A) := by
  intro n
  induction n with
  | zero =>
    intro F hn hF hk hc
    obtain ⟨F, rfl⟩ : ∃ g, F = g + 1 := ⟨F - 1, by omega⟩
    rw [J_X6_catchAt_8]; dsimp only
    rw [if_pos (show ni 0 - 1 < 0 by decide)]
    cases P with
    | none => rfl
    | some k => have := hk k rfl; omega
  | succ n ih =>
    intro F hn hF hk hc
    obtain ⟨F, rfl⟩ : ∃ g, F = g + 1 := ⟨F - 1, by omega⟩
    have h40 := h.2.2.1
    rw [show ni (n + 1) - 1 = ni n from (ni_sub (a := n + 1) (b := 1) (by omega)).trans (congrArg ni (by omega)), ct_1 h (by omega)]
    by_cases e : P = some n
    · obtain ⟨-, p1, p2⟩ := hP n e
      rw [if_neg p1, if_neg p2]; subst e; rfl
    · have hk' : ∀ k, P = some k → k < n := fun k q => by
        have := hk k q
        have : k ≠ n := fun z => e (z ▸ q)
        omega
      have g := ih (F := F) (by omega) (by omega) hk' (fun i hi q => hc i (by omega) q)
      rcases hc n (by omega) hk' with c | c
      · rw [if_pos c]; exact g
      · by_cases c2 : pc < ts n
        · rw [if_pos c2]; exact g
        · rw [if_neg c2, if_pos c]; exact g
theorem catch_eq {pc : Int32} (h : Try ts te es ny s A) {P : Option Nat} (hP : ∀ k, P = some k → k < ny ∧ ¬ pc < ts k ∧ ¬ te k ≤ pc) (hc : ∀ i, i < ny → (∀ k, P = some k → k < i) → pc < ts i ∨ te i ≤ pc) : L_X6_catchAt (some s) pc A = some (ctv es P, A) := by
  have h40 := h.2.2.1
  obtain ⟨⟨-, -, k0, ⟨-, -, -, -, -, -, r10, -⟩, ⟨-, -, -, -, -, -, k7, -⟩, -⟩, h1, -⟩ := id h
  unfold L_X6_catchAt
  rw [bi_fR k0 r10, bi_aN k7 (by decide) (by decide) h1]
  exact ct_lp h hP (n := ny) (F := FU) (Nat.le_refl _) (by have : FU = 4000000 := rfl; omega) (fun k q => (hP k q).1) hc
theorem Try.q {A' : Mem} (h : Try ts te es ny s A) (g : WA A A') : Try ts te es ny s A' := by
  have s1 := h.1.1
  have kp : KpS s A A' := fun p p1 p2 => g.sm (by omega)
  refine ⟨kp.so (Nat.le_of_eq (FrV.nc g).symm) h.1, (FrV.ln g _).trans h.2.1, h.2.2.1, fun k => ?_⟩
  rw [(kp (s + 7) (by omega) (by omega)).i, (kp (s + 8) (by omega) (by omega)).i, (kp (s + 9) (by omega) (by omega)).i]; exact h.2.2.2 k
end Ct
section Un
variable {A A' : Mem} {t j d y s pc b q ny k : Nat} {x : Int32} {ts te es : Nat → Int32}
theorem unw_1 (hj : j + d + 1 ≤ 31) (dep : gi A' 144 2 = ni (d + 1)) : SJ_X3_unwind_2 (FU - j) x (ni j) A' = (if gi (si A' 144 4 (gi A' (146 + d) 3)) (146 + d) 5 = 0 then
    SJ_X3_unwind_57 (SJ_X3_unwind_2 (FU - (j + 1))) x (ni j) d (-1) (si A' 144 4 (gi A' (146 + d) 3))
    else ((ck (si A' 144 4 (gi A' (146 + d) 3)) 6 (gr A' (146 + d) 1)).bind fun _ => (L_X6_catchAt (gr A' (146 + d) 1) (gi (si A' 144 4 (gi A' (146 + d) 3)) (146 + d) 2) (si A' 144 4 (gi A' (146 + d) 3))).bind fun w4 => SJ_X3_unwind_57 (SJ_X3_unwind_2 (FU - (j + 1))) x (ni j) d w4.1 w4.2)) := by
  obtain ⟨m, hm⟩ : ∃ m, FU - j = m + 1 := ⟨FU - j - 1, by have : FU = 4000000 := rfl; omega⟩
  rw [hm, show FU - (j + 1) = m by omega, SJ_X3_unwind_2]; dsimp only
  rw [if_neg (show ¬ (31 : Int32) ≤ ni j from fun e => by have := (ni_le (a := 31) (by omega) (by omega)).mp e; omega), dep, if_neg (show ¬ ni (d + 1) ≤ 0 from fun e => by have := (ni_le (b := 0) (by omega) (by omega)).mp e; omega), show ni (d + 1) - 1 = ni d from (ni_sub (a := d + 1) (b := 1) (by omega)).trans (congrArg ni (by omega)), gdT ((ni_inb (by omega)).mpr (by omega))]
  simp only [show (ni d).toNatClampNeg = d from ni_tn (by omega)]
  rfl
/-- a part catches -/
theorem Th.catch (h : Th A t x j A') (hj : j + d + 1 ≤ 31) (dep : gi A' 144 2 = ni (d + 1)) (fr : FrAt A' d y s pc b q 1) (hT : Try ts te es ny s A') (hk : k < ny) {e : Nat} (he : e < 2000) (hes : es k = ni e) (h1 : ¬ ni pc < ts k) (h2 : ¬ te k ≤ ni pc) (hc : ∀ i, k < i → i < ny → ni pc < ts i ∨ te i ≤ ni pc) :
    Go A t (si (si A' 144 4 (ni b)) (146 + d) 2 (ni e)) := by
  intro n u hu
  obtain ⟨f0, f1, f2, f3, f4, f5⟩ := fr
  have wa : WA A' (si A' 144 4 (ni b)) := frv_si (by omega)
  rw [h n u hu, unw_1 hj dep, f3, gi_ne (show 146 + d ≠ 144 by omega), f5, if_neg (by decide), f1, bi_ck (show kd (si A' 144 4 (ni b)) s = 6 from hT.1.2.2.1), f2, catch_eq (P := some k) (hT.q wa) (fun k' e' => by cases e'; exact ⟨hk, h1, h2⟩) (fun i hi q => hc i (q k rfl) hi), bS]
  dsimp only [ctv]
  unfold SJ_X3_unwind_57
  rw [hes, if_neg (ni_ne1 (by omega)), bS]
/-- nothing catches: the class is withdrawn -/
theorem Th.pass (h : Th A t x j A') (hj : j + d + 1 ≤ 31) (dep : gi A' 144 2 = ni (d + 1)) (fr : FrAt A' d y s pc b q 1) (hy : y < 30) (hT : Try ts te es ny s A') (hc : ∀ i, i < ny → ni pc < ts i ∨ te i ≤ ni pc) :
    Th A t x (j + 1) (si (si (si (si A' 144 4 (ni b)) (21 + 4 * y) 1 3) (21 + 4 * y) 3 x) 144 2 (ni d)) := by
  intro n u hu
  obtain ⟨f0, f1, f2, f3, f4, f5⟩ := fr
  have wa : WA A' (si A' 144 4 (ni b)) := frv_si (by omega)
  rw [h n u hu, unw_1 hj dep, f3, gi_ne (show 146 + d ≠ 144 by omega), f5, if_neg (by decide), f1, bi_ck (show kd (si A' 144 4 (ni b)) s = 6 from hT.1.2.2.1), f2, catch_eq (P := none) (hT.q wa) (fun k' e' => by cases e') (fun i hi q => hc i hi), bS]
  dsimp only [ctv]
  unfold SJ_X3_unwind_57 SJ_X3_unwind_112
  rw [if_pos rfl, gi_ne (show 146 + d ≠ 144 by omega), f5, if_neg (by decide), f0, gdT ((ni_inb (by omega)).mpr hy), gi_ne (show 146 + d ≠ 21 + 4 * (ni y).toNatClampNeg by rw [ni_tn (by omega)]; omega), gi_ne (show 146 + d ≠ 144 by omega), f0, gdT ((ni_inb (by omega)).mpr hy), ni_tn (by omega)]
  rw [gi_ne (show 144 ≠ 21 + 4 * y by omega), gi_ne (show 144 ≠ 21 + 4 * y by omega), si_ff' (show (2 : Nat) ≠ 4 by omega), dep, show ni (d + 1) - 1 = ni d from (ni_sub (a := d + 1) (b := 1) (by omega)).trans (congrArg ni (by omega)), show ni j + 1 = ni (j + 1) from ni_add j 1]
/-- a rule's frame catches nothing -/
theorem Th.rule (h : Th A t x j A') (hj : j + d + 1 ≤ 31) (dep : gi A' 144 2 = ni (d + 1)) (fr : FrAt A' d y s pc b q 0) :
    Th A t x (j + 1) (si (si A' 144 4 (ni b)) 144 2 (ni d)) := by
  intro n u hu
  obtain ⟨f0, f1, f2, f3, f4, f5⟩ := fr
  rw [h n u hu, unw_1 hj dep, f3, gi_ne (show 146 + d ≠ 144 by omega), f5, if_pos rfl]
  unfold SJ_X3_unwind_57 SJ_X3_unwind_112
  rw [if_pos rfl, gi_ne (show 146 + d ≠ 144 by omega), f5, if_pos rfl, si_ff' (show (2 : Nat) ≠ 4 by omega), dep, show ni (d + 1) - 1 = ni d from (ni_sub (a := d + 1) (b := 1) (by omega)).trans (congrArg ni (by omega)), show ni j + 1 = ni (j + 1) from ni_add j 1]
end Un
