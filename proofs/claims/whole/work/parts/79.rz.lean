-- ===== a text is read =====
def FrR (A A' : Mem) : Prop := KC A A' ∧ nc A' = nc A ∧ ns A' = ns A ∧ (∀ a, a = 0 ∨ a = 2 ∨ a = 6 ∨ 17 < a → Sm a A A') ∧ gi A' 1 1 = gi A 1 1
theorem FrR.trans {A B C : Mem} (h : FrR A B) (g : FrR B C) : FrR A C := ⟨h.1.trans g.1, g.2.1.trans h.2.1, g.2.2.1.trans h.2.2.1, fun a ha => (h.2.2.2.1 a ha).trans (g.2.2.2.1 a ha), g.2.2.2.2.trans h.2.2.2.2⟩
theorem KG.nc {A B : Mem} (h : KG A B) : nc B = nc A := congrArg Prod.fst h.1
theorem KG.ns {A B : Mem} (h : KG A B) : ns B = ns A := congrArg Prod.snd h.1
theorem KG.sm {A B : Mem} (h : KG A B) {a : Nat} (h1 : gi B a = gi A a) (h2 : gl B a = gl A a) : Sm a A B := ⟨congrArg (fun f => (f a).1) h.2.1, congrArg (fun f => (f a).2) h.2.1, h1, h2, congrArg (fun f => f a) h.2.2⟩
theorem FrC2.fr {A A' : Mem} (h : FrC2 A A') : FrR A A' := ⟨h.1.kc, h.1.nc, h.1.ns, fun a ha => h.1.sm (h.2.1 a (by omega)) (h.2.2.1 a (by omega)), congrFun (h.2.1 1 (by omega)) 1⟩
theorem cutp_sm {A A' : Mem} {by_ : Nat → Nat} {n T : Nat} (h : CutP A by_ n T) (s1 : Sm 1 A A') (s3 : Sm 3 A A') (s4 : Sm 4 A A') (s5 : Sm 5 A A') (s6 : Sm 6 A A') : CutP A' by_ n T := by
  unfold CutP TkRows at h ⊢
  rw [s1.i, s3.i, s4.i, s5.j, s6.j]; exact h
def clrA (A : Mem) (own : Int32) : Mem := si (si (si (si (si (si (si (si (si (si (si (si (si (si A 8 0 (-1 : Int32)) 8 1 (0 : Int32)) 8 2 (0 : Int32)) 8 3 (-1 : Int32)) 8 6 (0 : Int32)) 8 9 (0 : Int32)) 8 12 (0 : Int32)) 8 16 (0 : Int32)) 7 2 (0 : Int32)) 7 3 own) 7 4 (0 : Int32)) 7 5 (0 : Int32)) 7 6 (0 : Int32)) 7 7 (-1 : Int32)
def clrB (M : Mem) : Mem := si (si (si (si (si (si (si (si (si (si (si (si (si M 181 5 (0 : Int32)) 181 11 (0 : Int32)) 181 2 (0 : Int32)) 181 3 (-1 : Int32)) 181 14 (-1 : Int32)) 181 15 (0 : Int32)) 181 18 (0 : Int32)) 181 21 (0 : Int32)) 181 22 (0 : Int32)) 181 26 (-1 : Int32)) 181 27 (0 : Int32)) 181 32 (0 : Int32)) 181 35 (0 : Int32)
theorem clrA_sm {A : Mem} {own : Int32} {a : Nat} (h7 : a ≠ 7) (h8 : a ≠ 8) : Sm a A (clrA A own) := by
  unfold clrA
  exact ((((((((((((((sm_si h8).trans (sm_si h8)).trans (sm_si h8)).trans (sm_si h8)).trans (sm_si h8)).trans (sm_si h8)).trans (sm_si h8)).trans (sm_si h8)).trans (sm_si h7)).trans (sm_si h7)).trans (sm_si h7)).trans (sm_si h7)).trans (sm_si h7)).trans (sm_si h7))
theorem clrA_kg {A : Mem} {own : Int32} : KG A (clrA A own) := by
  unfold clrA
  exact (((((((((((((kg_si.trans kg_si).trans kg_si).trans kg_si).trans kg_si).trans kg_si).trans kg_si).trans kg_si).trans kg_si).trans kg_si).trans kg_si).trans kg_si).trans kg_si).trans kg_si)
theorem clrB_fr {B : Mem} : FrB2 B (clrB B) := by
  unfold clrB
  exact (((((((((((((frB2_f (by omega)).trans (frB2_f (by omega))).trans (frB2_f (by omega))).trans (frB2_f (by omega))).trans (frB2_f (by omega))).trans (frB2_f (by omega))).trans (frB2_f (by omega))).trans (frB2_f (by omega))).trans (frB2_f (by omega))).trans (frB2_f (by omega))).trans (frB2_f (by omega))).trans (frB2_f (by omega))).trans (frB2_f (by omega)))
theorem clrA_8_0 {A : Mem} {own : Int32} : gi (clrA A own) 8 0 = -1 := by unfold clrA; rw [gi_ne (by omega), gi_ne (by omega), gi_ne (by omega), gi_ne (by omega), gi_ne (by omega), gi_ne (by omega), si_ff' (by omega), si_ff' (by omega), si_ff' (by omega), si_ff' (by omega), si_ff' (by omega), si_ff' (by omega), si_ff' (by omega), si_eq]
theorem clrA_8_1 {A : Mem} {own : Int32} : gi (clrA A own) 8 1 = 0 := by unfold clrA; rw [gi_ne (by omega), gi_ne (by omega), gi_ne (by omega), gi_ne (by omega), gi_ne (by omega), gi_ne (by omega), si_ff' (by omega), si_ff' (by omega), si_ff' (by omega), si_ff' (by omega), si_ff' (by omega), si_ff' (by omega), si_eq]
theorem clrA_8_2 {A : Mem} {own : Int32} : gi (clrA A own) 8 2 = 0 := by unfold clrA; rw [gi_ne (by omega), gi_ne (by omega), gi_ne (by omega), gi_ne (by omega), gi_ne (by omega), gi_ne (by omega), si_ff' (by omega), si_ff' (by omega), si_ff' (by omega), si_ff' (by omega), si_ff' (by omega), si_eq]
theorem clrA_8_3 {A : Mem} {own : Int32} : gi (clrA A own) 8 3 = -1 := by unfold clrA; rw [gi_ne (by omega), gi_ne (by omega), gi_ne (by omega), gi_ne (by omega), gi_ne (by omega), gi_ne (by omega), si_ff' (by omega), si_ff' (by omega), si_ff' (by omega), si_ff' (by omega), si_eq]
theorem clrA_8_6 {A : Mem} {own : Int32} : gi (clrA A own) 8 6 = 0 := by unfold clrA; rw [gi_ne (by omega), gi_ne (by omega), gi_ne (by omega), gi_ne (by omega), gi_ne (by omega), gi_ne (by omega), si_ff' (by omega), si_ff' (by omega), si_ff' (by omega), si_eq]
theorem clrA_8_9 {A : Mem} {own : Int32} : gi (clrA A own) 8 9 = 0 := by unfold clrA; rw [gi_ne (by omega), gi_ne (by omega), gi_ne (by omega), gi_ne (by omega), gi_ne (by omega), gi_ne (by omega), si_ff' (by omega), si_ff' (by omega), si_eq]
theorem clrA_8_12 {A : Mem} {own : Int32} : gi (clrA A own) 8 12 = 0 := by unfold clrA; rw [gi_ne (by omega), gi_ne (by omega), gi_ne (by omega), gi_ne (by omega), gi_ne (by omega), gi_ne (by omega), si_ff' (by omega), si_eq]
theorem clrA_8_16 {A : Mem} {own : Int32} : gi (clrA A own) 8 16 = 0 := by unfold clrA; rw [gi_ne (by omega), gi_ne (by omega), gi_ne (by omega), gi_ne (by omega), gi_ne (by omega), gi_ne (by omega), si_eq]
theorem clrA_7_2 {A : Mem} {own : Int32} : gi (clrA A own) 7 2 = 0 := by unfold clrA; rw [si_ff' (by omega), si_ff' (by omega), si_ff' (by omega), si_ff' (by omega), si_ff' (by omega), si_eq]
theorem clrA_7_3 {A : Mem} {own : Int32} : gi (clrA A own) 7 3 = own := by unfold clrA; rw [si_ff' (by omega), si_ff' (by omega), si_ff' (by omega), si_ff' (by omega), si_eq]
theorem clrA_7_4 {A : Mem} {own : Int32} : gi (clrA A own) 7 4 = 0 := by unfold clrA; rw [si_ff' (by omega), si_ff' (by omega), si_ff' (by omega), si_eq]
theorem clrA_7_5 {A : Mem} {own : Int32} : gi (clrA A own) 7 5 = 0 := by unfold clrA; rw [si_ff' (by omega), si_ff' (by omega), si_eq]
theorem clrA_7_6 {A : Mem} {own : Int32} : gi (clrA A own) 7 6 = 0 := by unfold clrA; rw [si_ff' (by omega), si_eq]
theorem clrA_7_7 {A : Mem} {own : Int32} : gi (clrA A own) 7 7 = -1 := by unfold clrA; rw [si_eq]
theorem clrB_5 {B : Mem} : gi (clrB B) 181 5 = 0 := by unfold clrB; rw [si_ff' (by omega), si_ff' (by omega), si_ff' (by omega), si_ff' (by omega), si_ff' (by omega), si_ff' (by omega), si_ff' (by omega), si_ff' (by omega), si_ff' (by omega), si_ff' (by omega), si_ff' (by omega), si_ff' (by omega), si_eq]
theorem clrB_11 {B : Mem} : gi (clrB B) 181 11 = 0 := by unfold clrB; rw [si_ff' (by omega), si_ff' (by omega), si_ff' (by omega), si_ff' (by omega), si_ff' (by omega), si_ff' (by omega), si_ff' (by omega), si_ff' (by omega), si_ff' (by omega), si_ff' (by omega), si_ff' (by omega), si_eq]
theorem clrB_2 {B : Mem} : gi (clrB B) 181 2 = 0 := by unfold clrB; rw [si_ff' (by omega), si_ff' (by omega), si_ff' (by omega), si_ff' (by omega), si_ff' (by omega), si_ff' (by omega), si_ff' (by omega), si_ff' (by omega), si_ff' (by omega), si_ff' (by omega), si_eq]
theorem clrB_3 {B : Mem} : gi (clrB B) 181 3 = -1 := by unfold clrB; rw [si_ff' (by omega), si_ff' (by omega), si_ff' (by omega), si_ff' (by omega), si_ff' (by omega), si_ff' (by omega), si_ff' (by omega), si_ff' (by omega), si_ff' (by omega), si_eq]
theorem clrB_14 {B : Mem} : gi (clrB B) 181 14 = -1 := by unfold clrB; rw [si_ff' (by omega), si_ff' (by omega), si_ff' (by omega), si_ff' (by omega), si_ff' (by omega), si_ff' (by omega), si_ff' (by omega), si_ff' (by omega), si_eq]
theorem clrB_15 {B : Mem} : gi (clrB B) 181 15 = 0 := by unfold clrB; rw [si_ff' (by omega), si_ff' (by omega), si_ff' (by omega), si_ff' (by omega), si_ff' (by omega), si_ff' (by omega), si_ff' (by omega), si_eq]
theorem clrB_18 {B : Mem} : gi (clrB B) 181 18 = 0 := by unfold clrB; rw [si_ff' (by omega), si_ff' (by omega), si_ff' (by omega), si_ff' (by omega), si_ff' (by omega), si_ff' (by omega), si_eq]
theorem clrB_21 {B : Mem} : gi (clrB B) 181 21 = 0 := by unfold clrB; rw [si_ff' (by omega), si_ff' (by omega), si_ff' (by omega), si_ff' (by omega), si_ff' (by omega), si_eq]
theorem clrB_22 {B : Mem} : gi (clrB B) 181 22 = 0 := by unfold clrB; rw [si_ff' (by omega), si_ff' (by omega), si_ff' (by omega), si_ff' (by omega), si_eq]
theorem clrB_26 {B : Mem} : gi (clrB B) 181 26 = -1 := by unfold clrB; rw [si_ff' (by omega), si_ff' (by omega), si_ff' (by omega), si_eq]
theorem clrB_27 {B : Mem} : gi (clrB B) 181 27 = 0 := by unfold clrB; rw [si_ff' (by omega), si_ff' (by omega), si_eq]
theorem clrB_32 {B : Mem} : gi (clrB B) 181 32 = 0 := by unfold clrB; rw [si_ff' (by omega), si_eq]
theorem clrB_35 {B : Mem} : gi (clrB B) 181 35 = 0 := by unfold clrB; rw [si_eq]
theorem clrB_33 {B : Mem} : gi (clrB B) 181 33 = gi B 181 33 := by unfold clrB; rw [si_ff' (by omega), si_ff' (by omega), si_ff' (by omega), si_ff' (by omega), si_ff' (by omega), si_ff' (by omega), si_ff' (by omega), si_ff' (by omega), si_ff' (by omega), si_ff' (by omega), si_ff' (by omega), si_ff' (by omega), si_ff' (by omega)]
theorem clrB_34 {B : Mem} : gi (clrB B) 181 34 = gi B 181 34 := by unfold clrB; rw [si_ff' (by omega), si_ff' (by omega), si_ff' (by omega), si_ff' (by omega), si_ff' (by omega), si_ff' (by omega), si_ff' (by omega), si_ff' (by omega), si_ff' (by omega), si_ff' (by omega), si_ff' (by omega), si_ff' (by omega), si_ff' (by omega)]
theorem rd_start {A B : Mem} {n own : Nat} {by_ : Nat → Nat} (hF : FSC A) (hR : FSR B) (tA : TBy A n by_) (tB : RBy B n by_) (hw : SmWd A B) (ho : own < 30) (e12 : gi B 181 12 = ni own) (z : gi B 181 33 = 0 ∧ gi B 181 34 = 0) :
    ∃ A3 B2 T, S_X4_read (ni own) A = ((S_X4_readUnder A3).bind fun w11 => SJ_X4_read_50 FU 0 w11.2) ∧ S_X11_reads B = undR B2 ∧ FrR A A3 ∧ FrB2 B B2 ∧ R by_ n T own (gl A 6) 0 0 0 A3 B2 ∧ Cx0 A3 B2 ∧ Ct 0 0 0 0 0 A3 B2 ∧ (gi A3 8 3 = -1 ∧ gi B2 181 26 = -1) ∧ (gi A3 8 0 = -1 ∧ gi B2 181 14 = -1) ∧ gi A3 7 6 = 0 ∧ gi B2 181 32 = 0 := by
  obtain ⟨A1, T, c1, c2, c3⟩ := cut_ok hF tA
  have b1 := @clrB_fr B
  have rb1 : RBy (clrB B) n by_ := ⟨tB.1, (b1.2.2.2.1 4 (by omega)).trans tB.2.1, fun k hk => ⟨(tB.2.2 k hk).1, by rw [b1.2.1 182 (by omega)]; exact (tB.2.2 k hk).2⟩⟩
  have w1 : ∀ i, i < 12 → gl (clrB B) 183 (i + 1) = gl A 6 i := fun i hi => by rw [b1.2.2.1 183 (by omega)]; exact (hw.1 i hi).symm
  have e5 : gi (clrB B) 181 5 = ni 0 := clrB_5
  obtain ⟨B2, r1, r2, r3⟩ := adv_ok (wd := gl A 6) hw.2.1 (g := 1000) (q := 0) (F := FU) rb1 w1 e5 (by omega) (by have := tA.1; omega) (by decide)
  have f2 : FrB2 B B2 := b1.trans r2.fr.to2
  refine ⟨clrA A1 (ni own), B2, T, ?_, ?_, ?_, f2, ⟨⟨?_, hR.kg f2.1, ?_, ?_, ⟨hw.2.1, fun w hw' => ?_⟩, ?_, r2.rby rb1, ?_, ?_, ?_, ho, ?_, ?_⟩, by omega, ?_, ?_, ?_, r3, ⟨?_, ?_, Or.inl ?_⟩, ?_, ?_, ?_⟩, ⟨?_, ?_, ?_⟩, ⟨⟨?_, ?_⟩, ⟨?_, ?_⟩, ⟨?_, ?_⟩, ?_, ?_, by omega⟩, ⟨?_, ?_⟩, ⟨?_, ?_⟩, ?_, ?_⟩
  · unfold S_X4_read
    rw [c1, bS]; dsimp only
    unfold S_X0_clear
    rw [bS]; rfl
  · unfold S_X11_reads undR
    have r1 : S_X11_advance (clrB B) = some ((), B2) := r1
    show (S_X11_advance (clrB B)).bind _ = _
    rw [r1, bS]
  · refine FrR.trans (B := A1) ⟨c2.1, c2.2.1, c2.2.2.1, fun a ha => c2.2.2.2.1 a (by omega) (by omega) (by omega) (by omega), c2.2.2.2.2 1 (by omega)⟩ ⟨clrA_kg.kc, clrA_kg.nc, clrA_kg.ns, fun a ha => clrA_sm (by omega) (by omega), congrFun (clrA_sm (a := 1) (by omega) (by omega)).i 1⟩
  · exact (hF.kc c2.1).kg clrA_kg
  · rw [(clrA_sm (a := 6) (by omega) (by omega)).j, (c2.2.2.2.1 6 (by omega) (by omega) (by omega) (by omega)).j]
  · intro i hi
    rw [(r2.2.1 183 (by omega)).2]; exact w1 i hi
  · exact hw.2.2 w hw'
  · exact cutp_sm c3 (clrA_sm (by omega) (by omega)) (clrA_sm (by omega) (by omega)) (clrA_sm (by omega) (by omega)) (clrA_sm (by omega) (by omega)) (clrA_sm (by omega) (by omega))
  · rw [(clrA_sm (a := 1) (by omega) (by omega)).i, c2.2.2.2.2 1 (by omega)]; exact tA.2.1
  · exact clrA_7_3
  · rw [f2.2.2.2.1 12 (by omega)]; exact e12
  · have q1 : gi (clrA A1 (ni own)) 7 4 = 0 := clrA_7_4
    have q2 : gi B2 181 33 = 0 := by rw [r2.2.2.1 33 (by omega), clrB_33]; exact z.1
    rw [q1, q2]; decide
  · have q1 : gi (clrA A1 (ni own)) 7 4 = 0 := clrA_7_4
    have q2 : gi B2 181 34 = 0 := by rw [r2.2.2.1 34 (by omega), clrB_34]; exact z.2
    rw [q1, q2]; decide
  · exact clrA_7_2
  · exact clrA_7_5
  · exact (r2.2.2.1 11 (by omega)).trans clrB_11
  · rw [r2.2.2.1 2 (by omega), clrA_7_6, clrB_2]
  · rw [r2.2.2.1 3 (by omega), clrA_7_7, clrB_3]
  · exact clrA_7_6
  · exact clrA_8_6
  · exact (r2.2.2.1 27 (by omega)).trans clrB_27
  · rw [r2.2.2.1 35 (by omega), clrA_8_1, clrB_35]
  · exact clrA_7_4
  · rw [r2.2.2.1 33 (by omega), clrB_33]; exact z.1
  · rw [r2.2.2.1 34 (by omega), clrB_34]; exact z.2
  · exact clrA_8_9
  · exact (r2.2.2.1 15 (by omega)).trans clrB_15
  · exact clrA_8_12
  · exact (r2.2.2.1 18 (by omega)).trans clrB_18
  · exact clrA_8_2
  · exact (r2.2.2.1 22 (by omega)).trans clrB_22
  · exact (r2.2.2.1 21 (by omega)).trans clrB_21
  · exact clrA_8_16
  · exact clrA_8_3
  · exact (r2.2.2.1 26 (by omega)).trans clrB_26
  · exact clrA_8_0
  · exact (r2.2.2.1 14 (by omega)).trans clrB_14
  · exact clrA_7_6
  · exact (r2.2.2.1 32 (by omega)).trans clrB_32
/-- what a reading comes to -/
def RdP (own : Nat) (A B : Mem) : Prop := (∃ c, c ≤ 1024 ∧ gi A 8 6 = ni c) ∧ gi A 7 6 = gi B 181 2 ∧ gi A 7 7 = gi B 181 3 ∧ (gi A 7 6 = 0 → RdOk own A B)
theorem lk_read {A B : Mem} {n own : Nat} {by_ : Nat → Nat} (hF : FSC A) (hR : FSR B) (tA : TBy A n by_) (tB : RBy B n by_) (hw : SmWd A B) (ho : own < 30) (e12 : gi B 181 12 = ni own) (z : gi B 181 33 = 0 ∧ gi B 181 34 = 0) :
    ∃ A' B', S_X4_read (ni own) A = SJ_X4_read_116 A' ∧ S_X11_reads B = some ((), B') ∧ FrR A A' ∧ FrB2 B B' ∧ RdP own A' B' := by
  obtain ⟨A3, B2, T, a1, a2, a3, a4, a5, a6, a7, a8, a9, a10, a11⟩ := rd_start hF hR tA tB hw ho e12 z
  obtain ⟨A4, B3, b1, b2, b3, b4, b5⟩ := lk_under a5 a6 a7 a8 a9 a10
  rw [a1, a2, b1, bS, b2]; dsimp only
  have brk : ∀ {A' B' : Mem} {e : Nat}, Br n T e A' B' → RdP own A' B' := fun br => ⟨br.1.2.2.2.2.1, br.2.2.1.trans br.2.2.2.1.symm, br.2.2.2.2, fun q => absurd (br.2.2.1.symm.trans q) (by decide)⟩
  rcases b5 with br | ⟨i, c, o1, o2, o3⟩
  · refine ⟨A4, B3, ?_, ?_, a3.trans b3.fr, a4.trans b4, brk br⟩
    · rw [show FU = 3999999 + 1 from rfl]; exact bk_read50 br.1.2.2.1
    · rw [show FU = 3999999 + 1 from rfl]; exact wr_reads br.2.1.2.1
  · obtain ⟨A5, B5, c1, c2, c3, c4, c5⟩ := lk_parts (g := 1000) (τ := 0) (F := FU) (F' := FU) o1 (o2.trans a11) (by omega) (by have := tA.1; omega) (by decide) (by decide)
    refine ⟨A5, B5, c1, c2, (a3.trans b3.fr).trans c3.fr, (a4.trans b4).trans c4, ?_⟩
    rcases c5 with br | ⟨i', c', r', k', t', s', m', y', p1, p2, p3, p4⟩
    · exact brk br
    · have bd := p1.bd
      have d := p1.1.2
      refine ⟨⟨c', by omega, d.2.2.2.2.2.2.1⟩, d.2.2.2.2.2.1.1, d.2.2.2.2.2.1.2.1, fun e => ?_⟩
      have e4 : gi A4 7 6 = 0 := Classical.byContradiction fun q => p3.2.2.2.1.2.2.2 q e
      refine rd_ok (c0 := c) p1 e (p4 e).1 (by have := (p4 e).2; omega) (by omega) ?_
      rcases o3 e4 with ⟨u1, u2, u3⟩ | ⟨u1, u, u2, u3, u4, u5, u6, u7, u8⟩
      · exact Or.inl ⟨u1, p3.2.2.1.1.trans u2, p3.2.2.1.2.1.trans u3⟩
      · have q := p3.2.2.2.1.1 0 (by omega)
        exact Or.inr ⟨u1, u, u2, u3, p3.2.2.2.1.2.2.1 u u4, p3.2.2.1.1.trans u5, p3.2.2.1.2.1.trans u6, q.1.trans u7, q.2.trans u8⟩
