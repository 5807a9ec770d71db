-- ===== counting =====
def cnt (p : Nat → Bool) : Nat → Nat
  | 0 => 0
  | n + 1 => cnt p n + (if p n then 1 else 0)
theorem cnt_le {p : Nat → Bool} : ∀ {n : Nat}, cnt p n ≤ n := by
  intro n
  induction n with
  | zero => exact Nat.le_refl _
  | succ n ih => unfold cnt; split <;> omega
theorem cnt_mono {p q : Nat → Bool} : ∀ {n : Nat}, (∀ k, k < n → p k = true → q k = true) → cnt p n ≤ cnt q n := by
  intro n
  induction n with
  | zero => intro _; exact Nat.le_refl _
  | succ n ih =>
    intro h
    have i := ih (fun k hk => h k (by omega))
    have hn := h n (by omega)
    unfold cnt
    cases hp : p n
    · rw [if_neg (by simp)]; omega
    · rw [hn hp]; simp; omega
theorem cnt_lt {p q : Nat → Bool} : ∀ {n j : Nat}, (∀ k, k < n → p k = true → q k = true) → j < n → p j = false → q j = true → cnt p n + 1 ≤ cnt q n := by
  intro n
  induction n with
  | zero => intro j _ hj; omega
  | succ n ih =>
    intro j h hj h1 h2
    unfold cnt
    by_cases e : j = n
    · subst e
      have := cnt_mono (p := p) (q := q) (n := j) (fun k hk => h k (by omega))
      rw [h1, h2]; simp; omega
    · have i := ih (j := j) (fun k hk => h k (by omega)) (by omega) h1 h2
      have hn := h n (by omega)
      cases hp : p n
      · rw [if_neg (by simp)]; omega
      · rw [hn hp]; simp; omega
theorem cnt_eq {p q : Nat → Bool} {n : Nat} (h : ∀ k, k < n → p k = q k) : cnt p n = cnt q n := Nat.le_antisymm (cnt_mono fun k hk e => (h k hk) ▸ e) (cnt_mono fun k hk e => (h k hk).symm ▸ e)
-- ===== the years that are touched =====
def fy (B : Mem) (t : Int32) (y : Nat) : Int32 := if gi B 194 y = 0 then t else if (gi B 196 y &&& t) = 0 then t else t ||| ((1 : Int32) <<< (ni y &&& 31))
def fr (B : Mem) : Nat → Nat → Int32 → Int32
  | 0, _, t => t
  | n + 1, y, t => fr B n (y + 1) (fy B t y)
theorem fr_s {B : Mem} {n y : Nat} {t : Int32} : fr B (n + 1) y t = fr B n (y + 1) (fy B t y) := rfl
def fi (B : Mem) : Nat → Int32 → Int32
  | 0, t => t
  | n + 1, t => fi B n (fr B 30 0 t)
def hi0 (t : Int32) : Prop := ∀ k, 30 ≤ k → k < 32 → bt t k = false
section Cl
variable {B : Mem}
theorem fy_mono {t : Int32} {y k : Nat} (h : bt t k = true) : bt (fy B t y) k = true := by
  unfold fy
  split
  · exact h
  · split
    · exact h
    · rw [bt_or, h]; rfl
theorem fr_mono {k : Nat} : ∀ {n y : Nat} {t : Int32}, bt t k = true → bt (fr B n y t) k = true := by
  intro n
  induction n with
  | zero => intro y t h; exact h
  | succ n ih => intro y t h; exact ih (fy_mono h)
theorem fy_hi {t : Int32} {y : Nat} (hy : y < 30) (h : hi0 t) : hi0 (fy B t y) := by
  intro k k1 k2
  unfold fy
  split
  · exact h k k1 k2
  · split
    · exact h k k1 k2
    · rw [bt_or, h k k1 k2, bt_one (by omega) k2, decide_eq_false (by omega)]; rfl
theorem fr_hi : ∀ {n y : Nat} {t : Int32}, y + n ≤ 30 → hi0 t → hi0 (fr B n y t) := by
  intro n
  induction n with
  | zero => intro y t _ h; exact h
  | succ n ih => intro y t hy h; exact ih (by omega) (fy_hi (by omega) h)
theorem fr_0 : ∀ {n y : Nat}, fr B n y 0 = 0 := by
  intro n
  induction n with
  | zero => intro y; rfl
  | succ n ih =>
    intro y
    unfold fr
    have : fy B 0 y = 0 := by
      unfold fy
      split
      · rfl
      · rw [if_pos (by rw [Int32.and_zero])]
    rw [this]; exact ih
theorem fi_fix {t : Int32} (h : fr B 30 0 t = t) : ∀ {n : Nat}, fi B n t = t := by
  intro n
  induction n with
  | zero => rfl
  | succ n ih => unfold fi; rw [h]; exact ih
/-- no sheet leans on a touched year without being touched -/
def Clo (B : Mem) (t : Int32) : Prop := ∀ y, y < 30 → ¬ gi B 194 y = 0 → ¬ (gi B 196 y &&& t) = 0 → bt t y = true
theorem fy_same {t : Int32} {y : Nat} (hy : y < 30) (h : ¬ gi B 194 y = 0 → ¬ (gi B 196 y &&& t) = 0 → bt t y = true) : fy B t y = t := by
  unfold fy
  split
  · rfl
  · rename_i h1
    split
    · rfl
    · rename_i h2
      have hb := h h1 h2
      apply bt_ext
      intro k hk
      rw [bt_or, bt_one (by omega) hk]
      by_cases e : k = y
      · subst e; rw [hb]; rfl
      · rw [decide_eq_false e, Bool.or_false]
theorem fr_clo : ∀ {n y : Nat} {t : Int32}, y + n ≤ 30 → fr B n y t = t → ∀ x, y ≤ x → x < y + n → ¬ gi B 194 x = 0 → ¬ (gi B 196 x &&& t) = 0 → bt t x = true := by
  intro n
  induction n with
  | zero => intro y t _ _ x h1 h2; omega
  | succ n ih =>
    intro y t hy h x h1 h2 g1 g2
    have e : fy B t y = t := by
      apply bt_ext
      intro k hk
      cases hb : bt t k
      · cases hc : bt (fy B t y) k
        · rfl
        · have := fr_mono (B := B) (n := n) (y := y + 1) hc
          have h' : fr B n (y + 1) (fy B t y) = t := h
          rw [h', hb] at this; cases this
      · rw [fy_mono hb]
    by_cases ex : x = y
    · subst ex
      unfold fy at e
      rw [if_neg g1, if_neg g2] at e
      have : bt (t ||| 1 <<< (ni x &&& 31)) x = bt t x := congrArg (fun z => bt z x) e
      rw [bt_or, bt_one (by omega) (by omega)] at this
      simp at this; exact this
    · have h' : fr B n (y + 1) t = t := by
        have h0 : fr B n (y + 1) (fy B t y) = t := h
        rw [e] at h0; exact h0
      exact ih (by omega) h' x (by omega) (by omega) g1 g2
theorem fi_clo {t : Int32} (hh : hi0 t) : Clo B (fi B 30 t) ∧ hi0 (fi B 30 t) ∧ ∀ k, bt t k = true → bt (fi B 30 t) k = true := by
  have key : ∀ n (t : Int32), hi0 t → hi0 (fi B n t) ∧ (∀ k, bt t k = true → bt (fi B n t) k = true) ∧ (fr B 30 0 (fi B n t) = fi B n t ∨ cnt (bt t) 30 + n ≤ cnt (bt (fi B n t)) 30) := by
    intro n
    induction n with
    | zero => intro t h; exact ⟨h, fun _ q => q, Or.inr (Nat.le_refl _)⟩
    | succ n ih =>
      intro t h
      have h1 : hi0 (fr B 30 0 t) := fr_hi (by omega) h
      obtain ⟨g1, g2, g3⟩ := ih _ h1
      refine ⟨g1, fun k q => g2 k (fr_mono q), ?_⟩
      by_cases e : fr B 30 0 t = t
      · left
        show fr B 30 0 (fi B n (fr B 30 0 t)) = fi B n (fr B 30 0 t)
        rw [e, fi_fix e, e]
      · rcases g3 with g3 | g3
        · exact Or.inl g3
        · right
          have lt : cnt (bt t) 30 + 1 ≤ cnt (bt (fr B 30 0 t)) 30 := by
            obtain ⟨j, j1, j2, j3⟩ : ∃ j, j < 30 ∧ bt t j = false ∧ bt (fr B 30 0 t) j = true := by
              refine Classical.byContradiction fun z => e (bt_ext fun k hk => ?_)
              cases hb : bt t k
              · cases hc : bt (fr B 30 0 t) k
                · rfl
                · by_cases k30 : k < 30
                  · exact absurd ⟨k, k30, hb, hc⟩ z
                  · have := h1 k (by omega) hk
                    rw [hc] at this; cases this
              · exact fr_mono hb
            exact cnt_lt (fun k _ q => fr_mono q) j1 j2 j3
          show cnt (bt t) 30 + (n + 1) ≤ cnt (bt (fi B n (fr B 30 0 t))) 30
          omega
  obtain ⟨k1, k2, k3⟩ := key 30 t hh
  refine ⟨?_, k1, k2⟩
  have fx : fr B 30 0 (fi B 30 t) = fi B 30 t := by
    rcases k3 with k3 | k3
    · exact k3
    · by_cases e : t = 0
      · subst e; rw [fi_fix fr_0]; exact fr_0
      · obtain ⟨j, j1, j2⟩ : ∃ j, j < 30 ∧ bt t j = true := by
          refine Classical.byContradiction fun z => e (bt_ext fun k hk => ?_)
          rw [bt_0]
          cases hb : bt t k
          · rfl
          · by_cases k30 : k < 30
            · exact absurd ⟨k, k30, hb⟩ z
            · rw [hh k (by omega) hk] at hb; cases hb
        have c1 : cnt (fun _ => false) 30 + 1 ≤ cnt (bt t) 30 := cnt_lt (p := fun _ => false) (fun k _ q => by cases q) j1 rfl j2
        have c2 := cnt_le (p := bt (fi B 30 t)) (n := 30)
        omega
  exact fun y hy g1 g2 => fr_clo (by omega) fx y (by omega) (by omega) g1 g2
-- the reference's rounds
theorem ri_45 {k : Int32 → Int32 → Mem → Option (Int32 × Mem)} {v : Int32} : ∀ {j y F : Nat} {t : Int32}, y + j = 30 → j < F → SJ_X11_issue_45 k F t v (ni y) B = k (fr B j y t) (v + 1) B := by
  intro j
  induction j with
  | zero =>
    intro y F t hy hF
    obtain ⟨F, rfl⟩ : ∃ u, F = u + 1 := ⟨F - 1, by omega⟩
    rw [SJ_X11_issue_45]; dsimp only
    rw [if_pos (show (30 : Int32) ≤ ni y from (ni_le (a := 30) (by omega) (by omega)).mpr (by omega))]; rfl
  | succ j ih =>
    intro y F t hy hF
    obtain ⟨F, rfl⟩ : ∃ u, F = u + 1 := ⟨F - 1, by omega⟩
    rw [SJ_X11_issue_45]; dsimp only
    unfold SJ_X11_issue_77
    rw [if_neg (show ¬ (30 : Int32) ≤ ni y from fun e => by have := (ni_le (a := 30) (by omega) (by omega)).mp e; omega), gdT ((ni_inb (by omega)).mpr (by omega)), gdT ((ni_inb (by omega)).mpr (by omega)), ni_tn (by omega), show ni y + 1 = ni (y + 1) from ni_add y 1, ih (by omega) (by omega), ih (by omega) (by omega)]
    rw [fr_s]; unfold fy
    split
    · rfl
    · split <;> rfl
theorem ri_37 : ∀ {j i F : Nat} {t : Int32}, i + j = 30 → j < F → SJ_X11_issue_37 F t (ni i) B = SJ_X11_issue_103 FU (fi B j t) 0 0 (si B 181 59 (gi B 181 59 + 1)) := by
  intro j
  induction j with
  | zero =>
    intro i F t hi hF
    obtain ⟨F, rfl⟩ : ∃ u, F = u + 1 := ⟨F - 1, by omega⟩
    rw [SJ_X11_issue_37]; dsimp only
    rw [if_pos (show (30 : Int32) ≤ ni i from (ni_le (a := 30) (by omega) (by omega)).mpr (by omega))]; rfl
  | succ j ih =>
    intro i F t hi hF
    obtain ⟨F, rfl⟩ : ∃ u, F = u + 1 := ⟨F - 1, by omega⟩
    rw [SJ_X11_issue_37]; dsimp only
    rw [if_neg (show ¬ (30 : Int32) ≤ ni i from fun e => by have := (ni_le (a := 30) (by omega) (by omega)).mp e; omega), show (0 : Int32) = ni 0 from rfl, ri_45 (j := 30) (by omega) (by have : FU = 4000000 := rfl; omega), show ni i + 1 = ni (i + 1) from ni_add i 1, ih (by omega) (by omega)]
    rfl
theorem ri_4 : ∀ {j y F : Nat} {t : Int32}, y + j = 30 → j < F → ∃ t', SJ_X11_issue_4 F t (ni y) B = SJ_X11_issue_37 FU t' 0 B ∧ ∀ k, k < 32 → bt t' k = (bt t k || decide (y ≤ k ∧ k < 30 ∧ ¬ gi B 211 k = 0)) := by
  intro j
  induction j with
  | zero =>
    intro y F t hy hF
    obtain ⟨F, rfl⟩ : ∃ u, F = u + 1 := ⟨F - 1, by omega⟩
    rw [SJ_X11_issue_4]; dsimp only
    rw [if_pos (show (30 : Int32) ≤ ni y from (ni_le (a := 30) (by omega) (by omega)).mpr (by omega))]
    exact ⟨t, rfl, fun k hk => by rw [decide_eq_false (by omega), Bool.or_false]⟩
  | succ j ih =>
    intro y F t hy hF
    obtain ⟨F, rfl⟩ : ∃ u, F = u + 1 := ⟨F - 1, by omega⟩
    rw [SJ_X11_issue_4]; dsimp only
    unfold SJ_X11_issue_27
    rw [if_neg (show ¬ (30 : Int32) ≤ ni y from fun e => by have := (ni_le (a := 30) (by omega) (by omega)).mp e; omega), gdT ((ni_inb (by omega)).mpr (by omega)), ni_tn (by omega), show ni y + 1 = ni (y + 1) from ni_add y 1]
    by_cases e : gi B 211 y = 0
    · rw [if_pos e]
      obtain ⟨t', h1, h2⟩ := ih (y := y + 1) (F := F) (t := t ||| 0) (by omega) (by omega)
      refine ⟨t', h1, fun k hk => ?_⟩
      rw [h2 k hk, bt_or, bt_0, Bool.or_false]
      congr 1
      by_cases ek : k = y
      · subst ek; rw [decide_eq_false (by omega), decide_eq_false (fun z => z.2.2 e)]
      · exact decide_eq_decide.mpr ⟨fun z => ⟨Nat.le_of_succ_le z.1, z.2⟩, fun z => ⟨by have := z.1; omega, z.2⟩⟩
    · rw [if_neg e]
      obtain ⟨t', h1, h2⟩ := ih (y := y + 1) (F := F) (t := t ||| (1 <<< (ni y &&& 31))) (by omega) (by omega)
      refine ⟨t', h1, fun k hk => ?_⟩
      rw [h2 k hk, bt_or, bt_one (by omega) hk, Bool.or_assoc]
      congr 1
      by_cases ek : k = y
      · subst ek; rw [decide_eq_true rfl, Bool.true_or]; exact (decide_eq_true ⟨Nat.le_refl _, by omega, e⟩).symm
      · rw [decide_eq_false ek, Bool.false_or]; exact decide_eq_decide.mpr ⟨fun z => ⟨Nat.le_of_succ_le z.1, z.2⟩, fun z => ⟨by have := z.1; omega, z.2⟩⟩
-- the class's rounds
variable {A : Mem}
theorem ci_25 {k : Int32 → Int32 → Int32 → Mem → Option (Int32 × Mem)} {v u : Int32} (hs : SmSh A B) : ∀ {j y F : Nat} {t : Int32}, y + j = 30 → j < F → SJ_X1_touchedYears_25 k F t v u (ni y) A = k (fr B j y t) v (u + 1) A := by
  intro j
  induction j with
  | zero =>
    intro y F t hy hF
    obtain ⟨F, rfl⟩ : ∃ u, F = u + 1 := ⟨F - 1, by omega⟩
    rw [SJ_X1_touchedYears_25]; dsimp only
    rw [if_pos (show (30 : Int32) ≤ ni y from (ni_le (a := 30) (by omega) (by omega)).mpr (by omega))]; rfl
  | succ j ih =>
    intro y F t hy hF
    obtain ⟨F, rfl⟩ : ∃ u, F = u + 1 := ⟨F - 1, by omega⟩
    rw [SJ_X1_touchedYears_25]; dsimp only
    unfold SJ_X1_touchedYears_64
    rw [if_neg (show ¬ (30 : Int32) ≤ ni y from fun e => by have := (ni_le (a := 30) (by omega) (by omega)).mp e; omega), gdT ((ni_inb (by omega)).mpr (by omega)), gdT ((ni_inb (by omega)).mpr (by omega)), ni_tn (by omega), show ni y + 1 = ni (y + 1) from ni_add y 1]
    have g := hs y (by omega)
    rw [fr_s]; unfold fy
    cases hr : gr A 19 y with
    | none =>
      rw [hr] at g
      have g : gi B 194 y = 0 := g
      rw [if_pos rfl, g, if_pos rfl]; exact ih (by omega) (by omega)
    | some s =>
      rw [hr] at g
      obtain ⟨g1, g2, g3, -⟩ := g
      have el : gi A s 1 = gi B 196 y := g3.1.2
      rw [if_neg (by simp), bi_fI g2.2.2.1, el, g1, if_neg (show ¬ (1 : Int32) = 0 by decide)]
      by_cases e : (gi B 196 y &&& t) = 0
      · rw [if_pos e, if_pos e]; exact ih (by omega) (by omega)
      · rw [if_neg e, if_neg e]; exact ih (by omega) (by omega)
theorem ci_9 (hs : SmSh A B) : ∀ {j i F : Nat} {t b : Int32}, i + j = 30 → j < F → (t = b → fr B 30 0 t = t) → SJ_X1_touchedYears_9 F t b (ni i) A = some (fi B j t, A) := by
  intro j
  induction j with
  | zero =>
    intro i F t b hi hF _
    obtain ⟨F, rfl⟩ : ∃ u, F = u + 1 := ⟨F - 1, by omega⟩
    rw [SJ_X1_touchedYears_9]; dsimp only
    rw [if_pos (show (30 : Int32) ≤ ni i from (ni_le (a := 30) (by omega) (by omega)).mpr (by omega))]; rfl
  | succ j ih =>
    intro i F t b hi hF hb
    obtain ⟨F, rfl⟩ : ∃ u, F = u + 1 := ⟨F - 1, by omega⟩
    rw [SJ_X1_touchedYears_9]; dsimp only
    rw [if_neg (show ¬ (30 : Int32) ≤ ni i from fun e => by have := (ni_le (a := 30) (by omega) (by omega)).mp e; omega)]
    by_cases e : t = b
    · rw [if_pos e, fi_fix (hb e)]
    · rw [if_neg e, show (0 : Int32) = ni 0 from rfl, ci_25 hs (j := 30) (by omega) (by have : FU = 4000000 := rfl; omega), show ni i + 1 = ni (i + 1) from ni_add i 1]
      exact ih (by omega) (by omega) (fun q => by rw [q, q])
theorem touched_eq (hs : SmSh A B) : S_X1_touchedYears A = some (fi B 30 (gi A 18 2), A) := ci_9 hs (j := 30) (i := 0) (by omega) (by have : FU = 4000000 := rfl; omega) (fun e => by rw [e]; exact fr_0)
theorem issue_eq (hc : SmCh A B) : S_X11_issue B = SJ_X11_issue_103 FU (fi B 30 (gi A 18 2)) 0 0 (si B 181 59 (gi B 181 59 + 1)) := by
  unfold S_X11_issue
  obtain ⟨t', h1, h2⟩ := ri_4 (B := B) (j := 30) (y := 0) (F := FU) (t := 0) (by omega) (by have : FU = 4000000 := rfl; omega)
  have e : t' = gi A 18 2 := by
    apply bt_ext
    intro k hk
    rw [h2 k hk, bt_0, Bool.false_or]
    by_cases k30 : k < 30
    · have q := (hc.1 k k30).1
      cases hb : bt (gi A 18 2) k
      · rw [hb] at q; exact decide_eq_false (fun z => z.2.2 (by rw [q]; rfl))
      · rw [hb] at q; exact decide_eq_true ⟨by omega, k30, by rw [q]; decide⟩
    · rw [hc.2 k (by omega) hk]; exact decide_eq_false (by omega)
  have h1 : SJ_X11_issue_4 FU 0 0 B = SJ_X11_issue_37 FU t' 0 B := h1
  rw [h1, e]
  exact ri_37 (j := 30) (i := 0) (by omega) (by have : FU = 4000000 := rfl; omega)
end Cl
