-- ===== steps: what they leave =====
def Py (y wi : Nat) (B B' : Mem) : Prop := ∀ u, u < 30 → (u ≠ y → (gi B' 212 u = gi B 212 u ∧ gi B' 214 u = gi B 214 u ∧ ∀ j, j < 3 → gi B' 221 (3 * u + j) = gi B 221 (3 * u + j)) ∨ (gi B 212 u = 1 ∧ (gi B' 212 u = 2 ∨ gi B' 212 u = 3))) ∧ (u = y → gi B' 212 u = gi B 212 u ∧ gi B' 214 u = gi B 214 u ∧ ∀ j, j < wi → gi B' 221 (3 * u + j) = gi B 221 (3 * u + j))
theorem Ph.py {y wi : Nat} {B B' : Mem} (h : Ph B B') (e : gi B 212 y = 4) (hw : wi ≤ 3) : Py y wi B B' := fun u hu => by
  refine ⟨fun _ => h u hu, ?_⟩
  rintro rfl
  rcases h u hu with ⟨h1, h2, h3⟩ | ⟨h1, -⟩
  · exact ⟨h1, h2, fun j hj => h3 j (by omega)⟩
  · rw [e] at h1; exact absurd h1 (by decide)
theorem Py.tr {y wi wi' : Nat} {A B C : Mem} (h : Py y wi A B) (g : Py y wi' B C) (hw : wi ≤ wi') : Py y wi A C := fun u hu => by
  refine ⟨fun ne => ?_, fun e => ?_⟩
  · rcases (h u hu).1 ne with ⟨h1, h2, h3⟩ | ⟨h1, h2⟩ <;> rcases (g u hu).1 ne with ⟨g1, g2, g3⟩ | ⟨g1, g2⟩
    · exact Or.inl ⟨g1.trans h1, g2.trans h2, fun j hj => (g3 j hj).trans (h3 j hj)⟩
    · exact Or.inr ⟨h1.symm.trans g1, g2⟩
    · exact Or.inr ⟨h1, by rw [g1]; exact h2⟩
    · exfalso; rw [g1] at h2; revert h2; decide
  · obtain ⟨h1, h2, h3⟩ := (h u hu).2 e
    obtain ⟨g1, g2, g3⟩ := (g u hu).2 e
    exact ⟨g1.trans h1, g2.trans h2, fun j hj => (g3 j (by omega)).trans (h3 j hj)⟩
theorem Py.rf {y wi : Nat} {B : Mem} : Py y wi B B := fun u hu => ⟨fun _ => Or.inl ⟨rfl, rfl, fun _ _ => rfl⟩, fun _ => ⟨rfl, rfl, fun _ _ => rfl⟩⟩
theorem Py.mono {y wi wi' : Nat} {B B' : Mem} (h : Py y wi B B') (hw : wi' ≤ wi) : Py y wi' B B' := Py.rf.tr h hw
theorem Py.nst {y wi : Nat} {B B' : Mem} (h : Py y wi B B') : nst B' ≤ nst B := cnt_mono fun u hu e => by
  have e := of_decide_eq_true e
  by_cases ne : u = y
  · exact decide_eq_true (((h u hu).2 ne).1.symm.trans e)
  · rcases (h u hu).1 ne with ⟨h1, -⟩ | ⟨h1, h2⟩
    · exact decide_eq_true (h1.symm.trans e)
    · exact decide_eq_true h1
def D24 (rS : Int32 → Mem → Option (Int32 × Mem)) (y N F wi m : Nat) (B : Mem) : Option (Int32 × Mem) := SJ_X11_does_24 rS F (ni y) (ni (120 * (30 + y))) (ni N) (ni wi) (ni m) B
def D196 (rS : Int32 → Mem → Option (Int32 × Mem)) (y N F wi : Nat) (x : Int32) (m : Nat) (B : Mem) : Option (Int32 × Mem) := SJ_X11_does_196 rS (SJ_X11_does_24 rS F) (ni y) (ni (120 * (30 + y))) (ni N) (ni wi) x (ni m) B
section Sd
variable {o : Nat → Int32} {a : Nat → Int64} {w : Nat → Int32} {v : Nat → Int64} {z : Nat → Int32} {nn : Nat} {L f d y s pc b q sp N F wi m : Nat} {rS : Int32 → Mem → Option (Int32 × Mem)} {sk sa sw ts te es : Nat → Int32} {nt ny : Nat} {A B A' B' : Mem}
/-- what stands in the sheet and in the slot for the steps -/
def Sx (sk sa sw ts te es : Nat → Int32) (nt ny y s : Nat) (A B : Mem) : Prop := gr A (21 + 4 * y) 0 = some s ∧ Try ts te es ny s A ∧ (∀ k, gi B 204 (120 * (30 + y) + k) = sk k ∧ gi B 205 (120 * (30 + y) + k) = sa k ∧ gi B 206 (120 * (30 + y) + k) = sw k) ∧ (∀ q, q < nt → q < ln A (s + 5) ∧ ∃ qz, 1 ≤ qz ∧ qz ≤ 12 ∧ gi B 202 (6 * (30 + y) + q) = ni qz) ∧ gi B 212 y = 4 ∧ y < 30
theorem Sx.fr (h : Sx sk sa sw ts te es nt ny y s A B) (g : FA d b A A') (k : FB b B B') (p : Py y wi B B') : Sx sk sa sw ts te es nt ny y s A' B' := by
  obtain ⟨h1, h2, h3, h4, h5, h6⟩ := h
  refine ⟨(g.2.2.1 (21 + 4 * y) 0 (by omega)).trans h1, h2.q g.q, fun i => ?_, fun q hq => ?_, ((p y h6).2 rfl).1.trans h5, h6⟩
  · rw [k.2.2.2.1 204 _ (by omega), k.2.2.2.1 205 _ (by omega), k.2.2.2.1 206 _ (by omega)]; exact h3 i
  · rw [FrV.ln g, k.2.2.2.1 202 _ (by omega)]; exact h4 q hq
theorem d24_pre (hS : Sx sk sa sw ts te es nt ny y s A B) (hm : m < N) (hN : N ≤ 120) : D24 rS y N (F + 1) wi m B =
    (if sk m = 0 then (S_X11_builds rS (ni y) (sw m) (sa m) B).bind fun w1 => D196 rS y N F wi w1.1 (m + 1) w1.2
     else if sk m = 1 then (S_X11_works rS (ni y) (sa m) 0 B).bind fun w2 => if ¬ w2.1 = 0 then D196 rS y N F wi w2.1 (m + 1) w2.2 else if ¬ gl w2.2 181 71 = 0 then D196 rS y N F wi w2.1 (m + 1) w2.2 else D196 rS y N F wi (gi w2.2 206 (120 * (30 + y) + m)) (m + 1) w2.2
     else if sk m = 2 then gd (inb ((3 : Int32) * ni y + ni wi) 90) (SJ_X11_does_196 rS (SJ_X11_does_24 rS F) (ni y) (ni (120 * (30 + y))) (ni N) (ni wi + 1) 0 (ni (m + 1)) (si B 221 ((3 : Int32) * ni y + ni wi).toNatClampNeg (sw m)))
     else if sk m = 3 then SJ_X11_does_196 rS (SJ_X11_does_24 rS F) (ni y) (ni (120 * (30 + y))) (ni N) (ni wi + (-1)) 0 (sw m) B
     else D196 rS y N F wi 0 (m + 1) B) := by
  obtain ⟨-, -, h3, -, -, h6⟩ := hS
  unfold D24 D196
  rw [SJ_X11_does_24]; dsimp only
  simp only [show ni (120 * (30 + y)) + ni m = ni (120 * (30 + y) + m) from ni_add _ _, show (ni (120 * (30 + y) + m)).toNatClampNeg = 120 * (30 + y) + m from ni_tn (by omega)]
  rw [if_neg (show ¬ ni N ≤ ni m from fun e => by have := (ni_le (by omega) (by omega)).mp e; omega), (h3 m).1, (h3 m).2.1, (h3 m).2.2, show ni m + 1 = ni (m + 1) from ni_add m 1]
  have i7 : inb (ni (120 * (30 + y) + m)) 7200 := (ni_inb (by omega)).mpr (by omega)
  simp only [gd, if_pos i7]
theorem d196_0 : D196 rS y N F wi 0 m B = D24 rS y N F wi m B := by
  unfold D196 D24 SJ_X11_does_196 SJ_X11_does_225
  rw [if_pos rfl]
theorem d196_s {x : Int32} (hx : ¬ x = 0) (hy : y < 30) (hw : wi < 3) {e : Nat} (he : gi B 221 (3 * y + wi) = ni e) : D196 rS y N F (wi + 1) x m B = D24 rS y N F wi e B := by
  unfold D196 D24 SJ_X11_does_196 SJ_X11_does_225
  rw [if_neg hx, if_pos (show ¬ ni (wi + 1) = 0 from fun e => by have := (ni_inj (b := 0) (by omega) (by omega)).mp e; omega), show ni (wi + 1) + (-1) = ni wi from (Int32.sub_eq_add_neg _ _).symm.trans ((ni_sub (a := wi + 1) (b := 1) (by omega)).trans (congrArg ni (by omega))), show (3 : Int32) * ni y + ni wi = ni (3 * y + wi) by rw [show (3 : Int32) = ni 3 from rfl, ni_mul, ni_add], gdT ((ni_inb (by omega)).mpr (by omega)), ni_tn (by omega), he]
theorem d196_e {x : Int32} (hx : ¬ x = 0) : D196 rS y N F 0 x m B = some (x, B) := by
  unfold D196 SJ_X11_does_196
  rw [if_neg hx, if_neg (fun q => q rfl)]
theorem d24_2 (hS : Sx sk sa sw ts te es nt ny y s A B) (hm : m < N) (hN : N ≤ 120) (hk : sk m = 2) (hw : wi < 3) : D24 rS y N (F + 1) wi m B = D24 rS y N F (wi + 1) (m + 1) (si B 221 (3 * y + wi) (sw m)) := by
  have h6 := hS.2.2.2.2.2
  rw [d24_pre hS hm hN, hk, if_neg (by decide), if_neg (by decide), if_pos rfl, show (3 : Int32) * ni y + ni wi = ni (3 * y + wi) by rw [show (3 : Int32) = ni 3 from rfl, ni_mul, ni_add], gdT ((ni_inb (by omega)).mpr (by omega)), ni_tn (by omega), show ni wi + 1 = ni (wi + 1) from ni_add wi 1]
  exact d196_0
theorem d24_3 {e : Nat} (hS : Sx sk sa sw ts te es nt ny y s A B) (hm : m < N) (hN : N ≤ 120) (hk : sk m = 3) (hs : sw m = ni e) (hw : wi < 3) : D24 rS y N (F + 1) (wi + 1) m B = D24 rS y N F wi e B := by
  rw [d24_pre hS hm hN, hk, if_neg (by decide), if_neg (by decide), if_neg (by decide), if_pos rfl, hs, show ni (wi + 1) + (-1) = ni wi from (Int32.sub_eq_add_neg _ _).symm.trans ((ni_sub (a := wi + 1) (b := 1) (by omega)).trans (congrArg ni (by omega)))]
  exact d196_0
theorem d24_4 (hS : Sx sk sa sw ts te es nt ny y s A B) (hm : m < N) (hN : N ≤ 120) (hk : sk m = 4) : D24 rS y N (F + 1) wi m B = D24 rS y N F wi (m + 1) B := by
  rw [d24_pre hS hm hN, hk, if_neg (by decide), if_neg (by decide), if_neg (by decide), if_neg (by decide)]
  exact d196_0
end Sd
