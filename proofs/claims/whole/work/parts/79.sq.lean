-- ===== the machine: turns =====
/-- t turns lead from A to B -/
def Go (A : Mem) (t : Nat) (B : Mem) : Prop := ∀ n u, u + t ≤ 1000000 → SJ_X3_run_4 (n + t) 0 (ni u) A = SJ_X3_run_4 n 0 (ni (u + t)) B
/-- t turns lead from A to B, where w is thrown and j frames are gone -/
def Th (A : Mem) (t : Nat) (w : Int32) (j : Nat) (B : Mem) : Prop := ∀ n u, u + t ≤ 1000000 → SJ_X3_run_4 (n + t) 0 (ni u) A = (SJ_X3_unwind_2 (FU - j) w (ni j) B).bind fun w3 => SJ_X3_run_4 n w3.1 (ni (u + t)) w3.2
section Tu
variable {A B C : Mem} {t s j d : Nat} {w x : Int32}
theorem Go.rf : Go A 0 A := fun n u _ => rfl
theorem Go.tr (h : Go A t B) (g : Go B s C) : Go A (t + s) C := fun n u hu => by
  rw [show n + (t + s) = n + s + t by omega, h (n + s) u (by omega), g n (u + t) (by omega), show u + t + s = u + (t + s) by omega]
theorem Go.th (h : Go A t B) (g : Th B s w j C) : Th A (t + s) w j C := fun n u hu => by
  rw [show n + (t + s) = n + s + t by omega, h (n + s) u (by omega), g n (u + t) (by omega), show u + t + s = u + (t + s) by omega]
theorem go1 (hd : gi A 144 2 = ni (d + 1)) (h31 : d < 31) {A1 : Mem} (h : S_X3_advance d A = some (x, A1)) {n u : Nat} (hu : u + 1 ≤ 1000000) : SJ_X3_run_4 (n + 1) 0 (ni u) A = if ¬ x = 0 then (if x = -1 then SJ_X3_run_4 n 0 (ni (u + 1)) A1 else (S_X3_unwind x A1).bind fun w3 => SJ_X3_run_4 n w3.1 (ni (u + 1)) w3.2) else SJ_X3_run_4 n 0 (ni (u + 1)) (si A1 (146 + d) 2 (gi A1 (146 + d) 2 + 1)) := by
  rw [SJ_X3_run_4]; dsimp only
  rw [if_neg (show ¬ (1000000 : Int32) ≤ ni u from fun e => by have := (ni_le (a := 1000000) (by omega) (by omega)).mp e; omega), hd, if_neg (show ¬ ni (d + 1) ≤ 0 from fun e => by have := (ni_le (b := 0) (by omega) (by omega)).mp e; omega), show ni (d + 1) - 1 = ni d from (ni_sub (a := d + 1) (b := 1) (by omega)).trans (congrArg ni (by omega)), gdT ((ni_inb (by omega)).mpr h31), ni_tn (by omega), h, bS, show ni (u + 1) = ni u + 1 from (ni_add u 1).symm]
  rfl
theorem go_0 (hd : gi A 144 2 = ni (d + 1)) (h31 : d < 31) {A1 : Mem} (h : S_X3_advance d A = some (0, A1)) : Go A 1 (si A1 (146 + d) 2 (gi A1 (146 + d) 2 + 1)) := fun n u hu => by
  rw [go1 hd h31 h hu, if_neg (fun q => q rfl)]
theorem go_m (hd : gi A 144 2 = ni (d + 1)) (h31 : d < 31) {A1 : Mem} (h : S_X3_advance d A = some (-1, A1)) : Go A 1 A1 := fun n u hu => by
  rw [go1 hd h31 h hu, if_pos (by decide), if_pos rfl]
theorem go_x (hd : gi A 144 2 = ni (d + 1)) (h31 : d < 31) {A1 : Mem} (h : S_X3_advance d A = some (x, A1)) (h0 : ¬ x = 0) (h1 : ¬ x = -1) : Th A 1 x 0 A1 := fun n u hu => by
  rw [go1 hd h31 h hu, if_pos h0, if_neg h1]; rfl
end Tu
section Pp
variable {A : Mem} {sp : Nat} {x : Int64}
theorem push_eq (h : gi A 144 4 = ni sp) (hs : sp < 1240) : S_X3_push x A = some (0, si (sl A 177 sp x) 144 4 (ni (sp + 1))) := by
  unfold S_X3_push
  rw [h, if_neg (show ¬ (1240 : Int32) ≤ ni sp from fun e => by have := (ni_le (a := 1240) (by omega) (by omega)).mp e; omega), gdT ((ni_inb (by omega)).mpr hs), ni_tn (by omega), show gi (sl A 177 sp x) 144 4 = ni sp from h, show ni sp + 1 = ni (sp + 1) from ni_add sp 1]
theorem pop_eq (h : gi A 144 4 = ni (sp + 1)) (hs : sp < 1240) : S_X3_pop A = some (gl A 177 sp, si A 144 4 (ni sp)) := by
  unfold S_X3_pop
  rw [h, if_pos (show (0 : Int32) < ni (sp + 1) from (ni_lt (a := 0) (by omega) (by omega)).mpr (by omega)), show ni (sp + 1) - 1 = ni sp from (ni_sub (a := sp + 1) (b := 1) (by omega)).trans (congrArg ni (by omega)), si_eq, gdT ((ni_inb (by omega)).mpr hs), ni_tn (by omega)]
  rfl
end Pp
/-- what a turn does with a piece of the code -/
def advO (v1 : Nat) (x7 : Int32) (x9 : Int64) (M : Mem) : Option (Int32 × Mem) :=
  if x7 = 0 then
  ((S_X3_push x9 M).bind fun w10 =>
  some (w10.1, w10.2))
  else
  if x7 = 1 then
  ((S_X3_push ((gi M (146 + v1) 4).toInt64) M).bind fun w11 =>
  some (w11.1, w11.2))
  else
  if x7 = 2 then
  (if x9 < (0 : Int64) then
  (SJ_X3_advance_200  M)
  else
  (if ((4 : Int32).toInt64) ≤ x9 then
  (SJ_X3_advance_200  M)
  else
  (gd (inb x9.toInt32 4) (
  SJ_X3_advance_201 (gl M 178 x9.toInt32.toNatClampNeg) M))))
  else
  if x7 = 3 then
  ((S_X3_readConst x9 M).bind fun w12 =>
  some (w12.1, w12.2))
  else
  if x7 = 4 then
  ((S_X3_readEntry v1 x9 M).bind fun w13 =>
  some (w13.1, w13.2))
  else
  if x7 = 5 then
  ((S_X3_pop M).bind fun w14 =>
  (S_X3_push (-w14.1) w14.2).bind fun w15 =>
  some (w15.1, w15.2))
  else
  if x7 = 14 then
  (some ((-1 : Int32), si M (146 + v1) 2 x9.toInt32))
  else
  if x7 = 15 then
  ((S_X3_pop M).bind fun w16 =>
  if ¬ w16.1 = (0 : Int64) then
  (SJ_X3_advance_257 v1 ((gi w16.2 (146 + v1) 2) + (1 : Int32)) w16.2)
  else
  (SJ_X3_advance_257 v1 x9.toInt32 w16.2))
  else
  if x7 = 16 then
  ((S_X3_demand x9.toInt32 M).bind fun w17 =>
  some (w17.1, w17.2))
  else
  if x7 = 17 then
  (some ((0 : Int32), si M (146 + v1) 4 (0 : Int32)))
  else
  if x7 = 18 then
  ((S_X3_storeEntry v1 x9.toInt32 M).bind fun w18 =>
  some (w18.1, w18.2))
  else
  if x7 = 19 then
  ((S_X3_pop M).bind fun w19 =>
  if ¬ w19.1 = (0 : Int64) then
  (some ((0 : Int32), w19.2))
  else
  (some (x9.toInt32, w19.2)))
  else
  if x7 = 20 then
  ((S_X3_pop M).bind fun w20 =>
  some ((-1 : Int32), si (sl w20.2 144 6 w20.1) 144 2 ((gi (sl w20.2 144 6 w20.1) 144 2) - (1 : Int32))))
  else
  if x7 = 21 then
  ((S_X3_finish v1 M).bind fun w21 =>
  some (w21.1, w21.2))
  else
  (SJ_X3_advance_326 x7 M)
theorem adv_eq {A : Mem} {d s pc : Nat} (hs : ShO A s) (hl : ln A (s + 1) ≤ 1024) (f1 : gr A (146 + d) 1 = some s) (f2 : gi A (146 + d) 2 = ni pc) (hp : pc < ln A (s + 1)) : S_X3_advance d A = advO d (gi A (s + 1) pc) (gl A (s + 2) pc) A := by
  obtain ⟨-, -, k0, ⟨r4, r5, -⟩, ⟨k1, k2, -⟩, ⟨l2, -⟩⟩ := hs
  unfold S_X3_advance
  rw [f1, f2, if_neg (show ¬ ni pc < 0 from fun e => by have := (ni_lt (b := 0) (by omega) (by omega)).mp e; omega), bi_fR k0 r4, bi_aN k1 (by decide) (by decide) rfl, if_pos (show ni pc < Int32.ofNat (ln A (s + 1)) from (ni_lt (by omega) (by omega)).mpr hp), bi_fR k0 r4, bi_aI k1 rfl, gdT ((ni_inb (by omega)).mpr hp), bi_fR k0 r5, bi_aL k2 l2, gdT ((ni_inb (by omega)).mpr hp), ni_tn (by omega)]
  rfl
