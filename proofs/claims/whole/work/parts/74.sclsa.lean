def S_X0_clear  (M : Mem) : Option (Unit × Mem) :=
  some ((), si (si (si (si (si (si (si (si M 8 0 (-1 : Int32)) 8 1 (0 : Int32)) 8 2 (0 : Int32)) 8 3 (-1 : Int32)) 8 6 (0 : Int32)) 8 9 (0 : Int32)) 8 12 (0 : Int32)) 8 16 (0 : Int32))
theorem eqS_X0_clear {M : Mem} (hF : FSC M) : L_X0_clear (some 8) M = S_X0_clear  M := by
  unfold L_X0_clear S_X0_clear
  refine (bi_pI (hF.hk 8)).trans ?_
  have hF : FSC (si M 8 0 (-1 : Int32)) := hF.kc kc_si
  refine (bi_pI (hF.hk 8)).trans ?_
  have hF : FSC (si (si M 8 0 (-1 : Int32)) 8 1 (0 : Int32)) := hF.kc kc_si
  refine (bi_pI (hF.hk 8)).trans ?_
  have hF : FSC (si (si (si M 8 0 (-1 : Int32)) 8 1 (0 : Int32)) 8 2 (0 : Int32)) := hF.kc kc_si
  refine (bi_pI (hF.hk 8)).trans ?_
  have hF : FSC (si (si (si (si M 8 0 (-1 : Int32)) 8 1 (0 : Int32)) 8 2 (0 : Int32)) 8 3 (-1 : Int32)) := hF.kc kc_si
  refine (bi_pI (hF.hk 8)).trans ?_
  have hF : FSC (si (si (si (si (si M 8 0 (-1 : Int32)) 8 1 (0 : Int32)) 8 2 (0 : Int32)) 8 3 (-1 : Int32)) 8 6 (0 : Int32)) := hF.kc kc_si
  refine (bi_pI (hF.hk 8)).trans ?_
  have hF : FSC (si (si (si (si (si (si M 8 0 (-1 : Int32)) 8 1 (0 : Int32)) 8 2 (0 : Int32)) 8 3 (-1 : Int32)) 8 6 (0 : Int32)) 8 9 (0 : Int32)) := hF.kc kc_si
  refine (bi_pI (hF.hk 8)).trans ?_
  have hF : FSC (si (si (si (si (si (si (si M 8 0 (-1 : Int32)) 8 1 (0 : Int32)) 8 2 (0 : Int32)) 8 3 (-1 : Int32)) 8 6 (0 : Int32)) 8 9 (0 : Int32)) 8 12 (0 : Int32)) := hF.kc kc_si
  refine (bi_pI (hF.hk 8)).trans ?_
  have hF : FSC (si (si (si (si (si (si (si (si M 8 0 (-1 : Int32)) 8 1 (0 : Int32)) 8 2 (0 : Int32)) 8 3 (-1 : Int32)) 8 6 (0 : Int32)) 8 9 (0 : Int32)) 8 12 (0 : Int32)) 8 16 (0 : Int32)) := hF.kc kc_si
  rfl
def S_X0_emit (v1 : Int32) (v2 : Int64) (M : Mem) : Option (Int32 × Mem) :=
  if (gi M 8 6) < (1024 : Int32) then
  (gd (inb (gi M 8 6) 1024) (
  gd (inb (gi (si M 9 (gi M 8 6).toNatClampNeg v1) 8 6) 1024) (
  some ((gi (si (sl (si M 9 (gi M 8 6).toNatClampNeg v1) 10 (gi (si M 9 (gi M 8 6).toNatClampNeg v1) 8 6).toNatClampNeg v2) 8 6 ((gi (sl (si M 9 (gi M 8 6).toNatClampNeg v1) 10 (gi (si M 9 (gi M 8 6).toNatClampNeg v1) 8 6).toNatClampNeg v2) 8 6) + (1 : Int32))) 8 6) - (1 : Int32), si (sl (si M 9 (gi M 8 6).toNatClampNeg v1) 10 (gi (si M 9 (gi M 8 6).toNatClampNeg v1) 8 6).toNatClampNeg v2) 8 6 ((gi (sl (si M 9 (gi M 8 6).toNatClampNeg v1) 10 (gi (si M 9 (gi M 8 6).toNatClampNeg v1) 8 6).toNatClampNeg v2) 8 6) + (1 : Int32))))))
  else
  (some ((-1 : Int32), M))
theorem eqS_X0_emit {M : Mem} {v1 : Int32} {v2 : Int64} (hF : FSC M) : L_X0_emit (some 8) v1 v2 M = S_X0_emit v1 v2 M := by
  unfold L_X0_emit S_X0_emit
  refine (bi_fI (hF.hk 8)).trans ?_
  refine (bi_fR (hF.hk 8) (hF.hg 8 4 9)).trans ?_
  refine (bi_aN (n := 1024) (hF.hk 9) (by decide) (by decide) (hF.hl 9)).trans ?_
  refine itc (fun _ => ?_) (fun _ => ?_)
  · refine (bi_fR (hF.hk 8) (hF.hg 8 4 9)).trans ?_
    refine (bi_fI (hF.hk 8)).trans ?_
    refine (bi_uI (hF.hk 9) (hF.hl 9)).trans ?_
    refine gd_congr (fun _ => ?_)
    have hF : FSC (si M 9 (gi M 8 6).toNatClampNeg v1) := hF.kc kc_si
    refine (bi_fR (hF.hk 8) (hF.hg 8 5 10)).trans ?_
    refine (bi_fI (hF.hk 8)).trans ?_
    refine (bi_uL (hF.hk 10) (hF.hl 10)).trans ?_
    refine gd_congr (fun _ => ?_)
    have hF : FSC (sl (si M 9 (gi M 8 6).toNatClampNeg v1) 10 (gi (si M 9 (gi M 8 6).toNatClampNeg v1) 8 6).toNatClampNeg v2) := hF.kc kc_sl
    refine (bi_fI (hF.hk 8)).trans ?_
    refine (bi_pI (hF.hk 8)).trans ?_
    have hF : FSC (si (sl (si M 9 (gi M 8 6).toNatClampNeg v1) 10 (gi (si M 9 (gi M 8 6).toNatClampNeg v1) 8 6).toNatClampNeg v2) 8 6 ((gi (sl (si M 9 (gi M 8 6).toNatClampNeg v1) 10 (gi (si M 9 (gi M 8 6).toNatClampNeg v1) 8 6).toNatClampNeg v2) 8 6) + (1 : Int32))) := hF.kc kc_si
    refine (bi_fI (hF.hk 8)).trans ?_
    rfl
  · rfl
def S_X0_emitReference (v1 : Int32) (v2 : Int32) (v3 : Int64) (M : Mem) : Option (Unit × Mem) :=
  (S_X0_emit v1 ((v2.toInt64 <<< ((40 : Int32).toInt64 &&& 63)) ||| v3) M).bind fun w1 =>
  some ((), w1.2)
theorem eqS_X0_emitReference {M : Mem} {v1 : Int32} {v2 : Int32} {v3 : Int64} (hF : FSC M) : L_X0_emitReference (some 8) v1 v2 v3 M = S_X0_emitReference v1 v2 v3 M := by
  unfold L_X0_emitReference S_X0_emitReference
  refine (bi_ck (hF.hk 8)).trans ?_
  refine bdc (eqS_X0_emit hF) (fun w1 hw => ?_)
  have hF := hF.kc (keep_X0_emit hw)
  rfl
def S_X0_landHere (v1 : Int32) (M : Mem) : Option (Unit × Mem) :=
  if v1 < 0 then
  (some ((), M))
  else
  (if (gi M 8 6) ≤ v1 then
  (some ((), M))
  else
  (gd (inb v1 1024) (
  some ((), sl M 10 v1.toNatClampNeg ((gi M 8 6).toInt64)))))
theorem eqS_X0_landHere {M : Mem} {v1 : Int32} (hF : FSC M) : L_X0_landHere (some 8) v1 M = S_X0_landHere v1 M := by
  unfold L_X0_landHere S_X0_landHere
  refine itc (fun _ => ?_) (fun _ => ?_)
  · rfl
  · refine (bi_fI (hF.hk 8)).trans ?_
    refine itc (fun _ => ?_) (fun _ => ?_)
    · rfl
    · refine (bi_fR (hF.hk 8) (hF.hg 8 5 10)).trans ?_
      refine (bi_fI (hF.hk 8)).trans ?_
      refine (bi_uL (hF.hk 10) (hF.hl 10)).trans ?_
      refine gd_congr (fun _ => ?_)
      have hF : FSC (sl M 10 v1.toNatClampNeg ((gi M 8 6).toInt64)) := hF.kc kc_sl
      rfl
def S_X0_hasName (v1 : Int64) (M : Mem) : Option (Int32 × Mem) :=
  (L_X10_positionOf (some 11) (gi M 8 9) v1 M).bind fun w1 =>
  if ¬ w1.1 = (-1 : Int32) then
  (some ((1 : Int32), w1.2))
  else
  ((L_X10_positionOf (some 13) (gi w1.2 8 12) v1 w1.2).bind fun w2 =>
  if w2.1 = (-1 : Int32) then
  (some ((0 : Int32), w2.2))
  else
  (some ((1 : Int32), w2.2)))
theorem eqS_X0_hasName {M : Mem} {v1 : Int64} (hF : FSC M) : L_X0_hasName (some 8) v1 M = S_X0_hasName v1 M := by
  unfold L_X0_hasName S_X0_hasName
  refine (bi_fR (hF.hk 8) (hF.hg 8 7 11)).trans ?_
  refine (bi_fI (hF.hk 8)).trans ?_
  refine bdc rfl (fun w1 hw => ?_)
  have hF := hF.kc (keep_X10_positionOf hw)
  refine itc (fun _ => ?_) (fun _ => ?_)
  · rfl
  · refine (bi_fR (hF.hk 8) (hF.hg 8 10 13)).trans ?_
    refine (bi_fI (hF.hk 8)).trans ?_
    refine bdc rfl (fun w2 hw => ?_)
    have hF := hF.kc (keep_X10_positionOf hw)
    refine itc (fun _ => ?_) (fun _ => ?_)
    · rfl
    · rfl
def S_X0_addConst (v1 : Int64) (M : Mem) : Option (Unit × Mem) :=
  if (8 : Int32) ≤ (gi M 8 9) then
  (some ((), M))
  else
  (gd (inb (gi M 8 9) 8) (
  gd (inb (gi (sl M 11 (gi M 8 9).toNatClampNeg v1) 8 9) 8) (
  some ((), si (si (sl M 11 (gi M 8 9).toNatClampNeg v1) 12 (gi (sl M 11 (gi M 8 9).toNatClampNeg v1) 8 9).toNatClampNeg (gi (sl M 11 (gi M 8 9).toNatClampNeg v1) 8 6)) 8 9 ((gi (si (sl M 11 (gi M 8 9).toNatClampNeg v1) 12 (gi (sl M 11 (gi M 8 9).toNatClampNeg v1) 8 9).toNatClampNeg (gi (sl M 11 (gi M 8 9).toNatClampNeg v1) 8 6)) 8 9) + (1 : Int32))))))
theorem eqS_X0_addConst {M : Mem} {v1 : Int64} (hF : FSC M) : L_X0_addConst (some 8) v1 M = S_X0_addConst v1 M := by
  unfold L_X0_addConst S_X0_addConst
  refine (bi_fI (hF.hk 8)).trans ?_
  refine itc (fun _ => ?_) (fun _ => ?_)
  · rfl
  · refine (bi_fR (hF.hk 8) (hF.hg 8 7 11)).trans ?_
    refine (bi_fI (hF.hk 8)).trans ?_
    refine (bi_uL (hF.hk 11) (hF.hl 11)).trans ?_
    refine gd_congr (fun _ => ?_)
    have hF : FSC (sl M 11 (gi M 8 9).toNatClampNeg v1) := hF.kc kc_sl
    refine (bi_fR (hF.hk 8) (hF.hg 8 8 12)).trans ?_
    refine (bi_fI (hF.hk 8)).trans ?_
    refine (bi_fI (hF.hk 8)).trans ?_
    refine (bi_uI (hF.hk 12) (hF.hl 12)).trans ?_
    refine gd_congr (fun _ => ?_)
    have hF : FSC (si (sl M 11 (gi M 8 9).toNatClampNeg v1) 12 (gi (sl M 11 (gi M 8 9).toNatClampNeg v1) 8 9).toNatClampNeg (gi (sl M 11 (gi M 8 9).toNatClampNeg v1) 8 6)) := hF.kc kc_si
    refine (bi_fI (hF.hk 8)).trans ?_
    refine (bi_pI (hF.hk 8)).trans ?_
    have hF : FSC (si (si (sl M 11 (gi M 8 9).toNatClampNeg v1) 12 (gi (sl M 11 (gi M 8 9).toNatClampNeg v1) 8 9).toNatClampNeg (gi (sl M 11 (gi M 8 9).toNatClampNeg v1) 8 6)) 8 9 ((gi (si (sl M 11 (gi M 8 9).toNatClampNeg v1) 12 (gi (sl M 11 (gi M 8 9).toNatClampNeg v1) 8 9).toNatClampNeg (gi (sl M 11 (gi M 8 9).toNatClampNeg v1) 8 6)) 8 9) + (1 : Int32))) := hF.kc kc_si
    rfl
def S_X0_addTable (v1 : Int64) (v3 : Int64) (M : Mem) : Option (Unit × Mem) :=
  if (6 : Int32) ≤ (gi M 8 12) then
  (some ((), M))
  else
  (gd (inb (gi M 8 12) 6) (
  gd (inb (gi (sl M 13 (gi M 8 12).toNatClampNeg v1) 8 12) 6) (
  some ((), si (si (sl M 13 (gi M 8 12).toNatClampNeg v1) 14 (gi (sl M 13 (gi M 8 12).toNatClampNeg v1) 8 12).toNatClampNeg v3.toInt32) 8 12 ((gi (si (sl M 13 (gi M 8 12).toNatClampNeg v1) 14 (gi (sl M 13 (gi M 8 12).toNatClampNeg v1) 8 12).toNatClampNeg v3.toInt32) 8 12) + (1 : Int32))))))
theorem eqS_X0_addTable {M : Mem} {v1 : Int64} {v3 : Int64} (hF : FSC M) : L_X0_addTable (some 8) v1 v3 M = S_X0_addTable v1 v3 M := by
  unfold L_X0_addTable S_X0_addTable
  refine (bi_fI (hF.hk 8)).trans ?_
  refine itc (fun _ => ?_) (fun _ => ?_)
  · rfl
  · refine (bi_fR (hF.hk 8) (hF.hg 8 10 13)).trans ?_
    refine (bi_fI (hF.hk 8)).trans ?_
    refine (bi_uL (hF.hk 13) (hF.hl 13)).trans ?_
    refine gd_congr (fun _ => ?_)
    have hF : FSC (sl M 13 (gi M 8 12).toNatClampNeg v1) := hF.kc kc_sl
    refine (bi_fR (hF.hk 8) (hF.hg 8 11 14)).trans ?_
    refine (bi_fI (hF.hk 8)).trans ?_
    refine (bi_uI (hF.hk 14) (hF.hl 14)).trans ?_
    refine gd_congr (fun _ => ?_)
    have hF : FSC (si (sl M 13 (gi M 8 12).toNatClampNeg v1) 14 (gi (sl M 13 (gi M 8 12).toNatClampNeg v1) 8 12).toNatClampNeg v3.toInt32) := hF.kc kc_si
    refine (bi_fI (hF.hk 8)).trans ?_
    refine (bi_pI (hF.hk 8)).trans ?_
    have hF : FSC (si (si (sl M 13 (gi M 8 12).toNatClampNeg v1) 14 (gi (sl M 13 (gi M 8 12).toNatClampNeg v1) 8 12).toNatClampNeg v3.toInt32) 8 12 ((gi (si (sl M 13 (gi M 8 12).toNatClampNeg v1) 14 (gi (sl M 13 (gi M 8 12).toNatClampNeg v1) 8 12).toNatClampNeg v3.toInt32) 8 12) + (1 : Int32))) := hF.kc kc_si
    rfl
def S_X0_openTry  (M : Mem) : Option (Int32 × Mem) :=
  if (gi M 8 16) < (40 : Int32) then
  (gd (inb (gi M 8 16) 40) (
  some ((gi (si (si M 15 (gi M 8 16).toNatClampNeg (gi M 8 6)) 8 16 ((gi (si M 15 (gi M 8 16).toNatClampNeg (gi M 8 6)) 8 16) + (1 : Int32))) 8 16) - (1 : Int32), si (si M 15 (gi M 8 16).toNatClampNeg (gi M 8 6)) 8 16 ((gi (si M 15 (gi M 8 16).toNatClampNeg (gi M 8 6)) 8 16) + (1 : Int32)))))
  else
  (some ((-1 : Int32), M))
theorem eqS_X0_openTry {M : Mem} (hF : FSC M) : L_X0_openTry (some 8) M = S_X0_openTry  M := by
  unfold L_X0_openTry S_X0_openTry
  refine (bi_fI (hF.hk 8)).trans ?_
  refine itc (fun _ => ?_) (fun _ => ?_)
  · refine (bi_fR (hF.hk 8) (hF.hg 8 13 15)).trans ?_
    refine (bi_fI (hF.hk 8)).trans ?_
    refine (bi_fI (hF.hk 8)).trans ?_
    refine (bi_uI (hF.hk 15) (hF.hl 15)).trans ?_
    refine gd_congr (fun _ => ?_)
    have hF : FSC (si M 15 (gi M 8 16).toNatClampNeg (gi M 8 6)) := hF.kc kc_si
    refine (bi_fI (hF.hk 8)).trans ?_
    refine (bi_pI (hF.hk 8)).trans ?_
    have hF : FSC (si (si M 15 (gi M 8 16).toNatClampNeg (gi M 8 6)) 8 16 ((gi (si M 15 (gi M 8 16).toNatClampNeg (gi M 8 6)) 8 16) + (1 : Int32))) := hF.kc kc_si
    refine (bi_fI (hF.hk 8)).trans ?_
    rfl
  · rfl
def S_X0_closeTry (v1 : Int32) (M : Mem) : Option (Unit × Mem) :=
  if v1 < 0 then
  (some ((), M))
  else
  (if (gi M 8 16) ≤ v1 then
  (some ((), M))
  else
  (gd (inb v1 40) (
  gd (inb v1 40) (
  some ((), si (si M 16 v1.toNatClampNeg (gi M 8 6)) 17 v1.toNatClampNeg (gi (si M 16 v1.toNatClampNeg (gi M 8 6)) 8 6))))))
theorem eqS_X0_closeTry {M : Mem} {v1 : Int32} (hF : FSC M) : L_X0_closeTry (some 8) v1 M = S_X0_closeTry v1 M := by
  unfold L_X0_closeTry S_X0_closeTry
  refine itc (fun _ => ?_) (fun _ => ?_)
  · rfl
  · refine (bi_fI (hF.hk 8)).trans ?_
    refine itc (fun _ => ?_) (fun _ => ?_)
    · rfl
    · refine (bi_fR (hF.hk 8) (hF.hg 8 14 16)).trans ?_
      refine (bi_fI (hF.hk 8)).trans ?_
      refine (bi_uI (hF.hk 16) (hF.hl 16)).trans ?_
      refine gd_congr (fun _ => ?_)
      have hF : FSC (si M 16 v1.toNatClampNeg (gi M 8 6)) := hF.kc kc_si
      refine (bi_fR (hF.hk 8) (hF.hg 8 15 17)).trans ?_
      refine (bi_fI (hF.hk 8)).trans ?_
      refine (bi_uI (hF.hk 17) (hF.hl 17)).trans ?_
      refine gd_congr (fun _ => ?_)
      have hF : FSC (si (si M 16 v1.toNatClampNeg (gi M 8 6)) 17 v1.toNatClampNeg (gi (si M 16 v1.toNatClampNeg (gi M 8 6)) 8 6)) := hF.kc kc_si
      rfl
def S_X1_change (v1 : Int32) (v2 : Option Nat) (M : Mem) : Option (Unit × Mem) :=
  gd (inb v1 30 ∧ okRd M (acm 25) v2 = true) (
  some ((), si (sr M 19 v1.toNatClampNeg v2) 18 2 ((gi (sr M 19 v1.toNatClampNeg v2) 18 2) ||| ((1 : Int32) <<< (v1 &&& 31)))))
theorem eqS_X1_change {M : Mem} {v1 : Int32} {v2 : Option Nat} (hF : FSC M) : L_X1_change (some 18) v1 v2 M = S_X1_change v1 v2 M := by
  unfold L_X1_change S_X1_change
  refine (bi_fR (hF.hk 18) (hF.hg 18 0 19)).trans ?_
  refine (bi_uR (hF.hk 19) (hF.hl 19)).trans ?_
  refine gd_congr (fun _ => ?_)
  have hF : FSC (sr M 19 v1.toNatClampNeg v2) := hF.kc (kc_srk (hF.hk 19) (fx25 _))
  refine (bi_fI (hF.hk 18)).trans ?_
  refine (bi_pI (hF.hk 18)).trans ?_
  have hF : FSC (si (sr M 19 v1.toNatClampNeg v2) 18 2 ((gi (sr M 19 v1.toNatClampNeg v2) 18 2) ||| ((1 : Int32) <<< (v1 &&& 31)))) := hF.kc kc_si
  rfl
def SJ_X1_touchedYears_64 (k_9 : Int32 → Int32 → Int32 → Mem → Option (Int32 × Mem)) (k_25 : Int32 → Int32 → Int32 → Int32 → Mem → Option (Int32 × Mem)) (v1 : Int32) (v2 : Int32) (v3 : Int32) (v4 : Int32) (M : Mem) : Option (Int32 × Mem) :=
  k_25 v1 v2 v3 (v4 + 1) M
theorem eqJ_X1_touchedYears_64 {M : Mem} {k_9 : Option Nat → Int32 → Int32 → Int32 → Mem → Option (Int32 × Mem)} {q_9 : Int32 → Int32 → Int32 → Mem → Option (Int32 × Mem)} (hk_9 : ∀ (v1 : Int32) (v2 : Int32) (v3 : Int32) (Ma : Mem), FSC Ma → k_9 (some 18) v1 v2 v3 Ma = q_9 v1 v2 v3 Ma) {k_25 : Option Nat → Int32 → Int32 → Int32 → Int32 → Mem → Option (Int32 × Mem)} {q_25 : Int32 → Int32 → Int32 → Int32 → Mem → Option (Int32 × Mem)} (hk_25 : ∀ (v1 : Int32) (v2 : Int32) (v3 : Int32) (v4 : Int32) (Ma : Mem), FSC Ma → k_25 (some 18) v1 v2 v3 v4 Ma = q_25 v1 v2 v3 v4 Ma) {v1 : Int32} {v2 : Int32} {v3 : Int32} {v4 : Int32} (hF : FSC M) : J_X1_touchedYears_64 k_9 k_25 (some 18) v1 v2 v3 v4 M = SJ_X1_touchedYears_64 q_9 q_25 v1 v2 v3 v4 M := by
  unfold J_X1_touchedYears_64 SJ_X1_touchedYears_64
  exact hk_25 _ _ _ _ _ hF
def SJ_X1_touchedYears_25 (k_9 : Int32 → Int32 → Int32 → Mem → Option (Int32 × Mem)) : Nat → Int32 → Int32 → Int32 → Int32 → Mem → Option (Int32 × Mem)
  | 0 => fun _ _ _ _ _ => none
  | n + 1 => fun v1 v2 v3 v4 M =>
  if (30 : Int32) ≤ v4 then
  (k_9 v1 v2 (v3 + 1) M)
  else
  (gd (inb v4 30) (
  if (gr M 19 v4.toNatClampNeg) = none then
  (SJ_X1_touchedYears_64 k_9 (SJ_X1_touchedYears_25 k_9 n) v1 v2 v3 v4 M)
  else
  (gd (inb v4 30) (
  (fI M 6 1 (gr M 19 v4.toNatClampNeg)).bind fun x1 =>
  if (x1 &&& v1) = 0 then
  (SJ_X1_touchedYears_64 k_9 (SJ_X1_touchedYears_25 k_9 n) v1 v2 v3 v4 M)
  else
  (SJ_X1_touchedYears_64 k_9 (SJ_X1_touchedYears_25 k_9 n) (v1 ||| ((1 : Int32) <<< (v4 &&& 31))) v2 v3 v4 M)))))
theorem eqJ_X1_touchedYears_25 {k_9 : Option Nat → Int32 → Int32 → Int32 → Mem → Option (Int32 × Mem)} {q_9 : Int32 → Int32 → Int32 → Mem → Option (Int32 × Mem)} (hk_9 : ∀ (v1 : Int32) (v2 : Int32) (v3 : Int32) (Ma : Mem), FSC Ma → k_9 (some 18) v1 v2 v3 Ma = q_9 v1 v2 v3 Ma) : ∀ (n : Nat) (v1 : Int32) (v2 : Int32) (v3 : Int32) (v4 : Int32) (M : Mem), FSC M → J_X1_touchedYears_25 k_9 n (some 18) v1 v2 v3 v4 M = SJ_X1_touchedYears_25 q_9 n v1 v2 v3 v4 M := by
  intro n
  induction n with
  | zero => intro v1 v2 v3 v4 M  hF; rfl
  | succ n ih =>
    intro v1 v2 v3 v4 M  hF
    unfold J_X1_touchedYears_25 SJ_X1_touchedYears_25
    refine itc (fun _ => ?_) (fun _ => ?_)
    · exact hk_9 _ _ _ _ hF
    · refine (bi_fR (hF.hk 18) (hF.hg 18 0 19)).trans ?_
      refine (bi_aR (hF.hk 19) (hF.hl 19)).trans ?_
      refine gd_congr (fun _ => ?_)
      refine itc (fun _ => ?_) (fun _ => ?_)
      · exact eqJ_X1_touchedYears_64 hk_9 ih hF
      · refine (bi_fR (hF.hk 18) (hF.hg 18 0 19)).trans ?_
        refine (bi_aR (hF.hk 19) (hF.hl 19)).trans ?_
        refine gd_congr (fun _ => ?_)
        refine bdc rfl (fun x1 _ => ?_)
        refine itc (fun _ => ?_) (fun _ => ?_)
        · exact eqJ_X1_touchedYears_64 hk_9 ih hF
        · exact eqJ_X1_touchedYears_64 hk_9 ih hF
def SJ_X1_touchedYears_9 : Nat → Int32 → Int32 → Int32 → Mem → Option (Int32 × Mem)
  | 0 => fun _ _ _ _ => none
  | n + 1 => fun v1 v2 v3 M =>
  if (30 : Int32) ≤ v3 then
  (some (v1, M))
  else
  (if v1 = v2 then
  (some (v1, M))
  else
  (SJ_X1_touchedYears_25 (SJ_X1_touchedYears_9 n) FU v1 v1 v3 (0 : Int32) M))
theorem eqJ_X1_touchedYears_9 : ∀ (n : Nat) (v1 : Int32) (v2 : Int32) (v3 : Int32) (M : Mem), FSC M → J_X1_touchedYears_9 n (some 18) v1 v2 v3 M = SJ_X1_touchedYears_9 n v1 v2 v3 M := by
  intro n
  induction n with
  | zero => intro v1 v2 v3 M  hF; rfl
  | succ n ih =>
    intro v1 v2 v3 M  hF
    unfold J_X1_touchedYears_9 SJ_X1_touchedYears_9
    refine itc (fun _ => ?_) (fun _ => ?_)
    · rfl
    · refine itc (fun _ => ?_) (fun _ => ?_)
      · rfl
      · exact eqJ_X1_touchedYears_25 ih FU _ _ _ _ _ hF
def S_X1_touchedYears  (M : Mem) : Option (Int32 × Mem) :=
  SJ_X1_touchedYears_9 FU (gi M 18 2) (0 : Int32) (0 : Int32) M
theorem eqS_X1_touchedYears {M : Mem} (hF : FSC M) : L_X1_touchedYears (some 18) M = S_X1_touchedYears  M := by
  unfold L_X1_touchedYears S_X1_touchedYears
  refine (bi_fI (hF.hk 18)).trans ?_
  exact eqJ_X1_touchedYears_9 FU _ _ _ _ hF
def SJ_X8_make_28 (v0 : Nat) (s0 : Nat) (s1 : Int32) (M : Mem) : Option (Unit × Mem) :=
  (L_J7_fill_53178 (some (22 + 4 * v0)) (0 : Int32) (si (si (si M (21 + 4 * s0) 2 s1) (21 + 4 * v0) 3 (0 : Int32)) (21 + 4 * v0) 4 (0 : Int32))).bind fun w1 =>
  (L_J7_fill_d0a16 (some (24 + 4 * v0)) (0 : Int64) w1.2).bind fun w2 =>
  some ((), w2.2)
theorem eqJ_X8_make_28 {M : Mem} {v0 : Nat} {s0 : Nat} {s1 : Int32} (hv0 : v0 < 30) (hs0 : s0 < 30) (hF : FSC M) : J_X8_make_28 (some (21 + 4 * v0)) (some (21 + 4 * s0)) s1 M = SJ_X8_make_28 v0 s0 s1 M := by
  unfold J_X8_make_28 SJ_X8_make_28
  refine (bi_pI (hF.kdT21 hs0)).trans ?_
  have hF : FSC (si M (21 + 4 * s0) 2 s1) := hF.kc kc_si
  refine (bi_pI (hF.kdT21 hv0)).trans ?_
  have hF : FSC (si (si M (21 + 4 * s0) 2 s1) (21 + 4 * v0) 3 (0 : Int32)) := hF.kc kc_si
  refine (bi_pI (hF.kdT21 hv0)).trans ?_
  have hF : FSC (si (si (si M (21 + 4 * s0) 2 s1) (21 + 4 * v0) 3 (0 : Int32)) (21 + 4 * v0) 4 (0 : Int32)) := hF.kc kc_si
  refine (bi_fR (hF.kdT21 hv0) (hF.grT5 hv0)).trans ?_
  refine bdc rfl (fun w1 hw => ?_)
  have hF := hF.kc (keep_J7_fill_53178 hw)
  refine (bi_fR (hF.kdT21 hv0) (hF.grT7 hv0)).trans ?_
  refine bdc rfl (fun w2 hw => ?_)
  have hF := hF.kc (keep_J7_fill_d0a16 hw)
  rfl
def SJ_X8_make_15 (v0 : Nat) (v1 : Option Nat) (v2 : Int32) (s0 : Nat) (s1 : Int32) (M : Mem) : Option (Unit × Mem) :=
  if ¬ v1 = none then
  (SJ_X8_make_28 v0 v0 v2 (si M (21 + 4 * s0) 1 s1))
  else
  (SJ_X8_make_28 v0 v0 (0 : Int32) (si M (21 + 4 * s0) 1 s1))
theorem eqJ_X8_make_15 {M : Mem} {v0 : Nat} {v1 : Option Nat} {v2 : Int32} {s0 : Nat} {s1 : Int32} (hv0 : v0 < 30) (hs0 : s0 < 30) (hF : FSC M) : J_X8_make_15 (some (21 + 4 * v0)) v1 v2 (some (21 + 4 * s0)) s1 M = SJ_X8_make_15 v0 v1 v2 s0 s1 M := by
  unfold J_X8_make_15 SJ_X8_make_15
  refine (bi_pI (hF.kdT21 hs0)).trans ?_
  have hF : FSC (si M (21 + 4 * s0) 1 s1) := hF.kc kc_si
  refine itc (fun _ => ?_) (fun _ => ?_)
  · exact eqJ_X8_make_28 hv0 hv0 hF
  · exact eqJ_X8_make_28 hv0 hv0 hF
def S_X8_make (v0 : Nat) (v1 : Option Nat) (v2 : Int32) (M : Mem) : Option (Unit × Mem) :=
  if ¬ v1 = none then
  (SJ_X8_make_15 v0 v1 v2 v0 (1 : Int32) (sr M (21 + 4 * v0) 0 v1))
  else
  (SJ_X8_make_15 v0 v1 v2 v0 (0 : Int32) (sr M (21 + 4 * v0) 0 v1))
theorem eqS_X8_make {M : Mem} {v0 : Nat} {v1 : Option Nat} {v2 : Int32} (hv0 : v0 < 30) (hF : FSC M) : L_X8_make (some (21 + 4 * v0)) v1 v2 M = S_X8_make v0 v1 v2 M := by
  unfold L_X8_make S_X8_make
  refine (bi_pR (hF.kdT21 hv0)).trans ?_
  have hF : FSC (sr M (21 + 4 * v0) 0 v1) := hF.kc (kc_srk (hF.kdT21 hv0) (by decide))
  refine itc (fun _ => ?_) (fun _ => ?_)
  · exact eqJ_X8_make_15 hv0 hv0 hF
  · exact eqJ_X8_make_15 hv0 hv0 hF
def SJ_X1_renew_70 (k_19 : Int32 → Int32 → Int32 → Mem → Option (Int32 × Mem)) (v1 : Int32) (v2 : Int32) (v3 : Int32) (M : Mem) : Option (Int32 × Mem) :=
  k_19 v1 v2 (v3 + 1) M
theorem eqJ_X1_renew_70 {M : Mem} {k_19 : Option Nat → Int32 → Int32 → Int32 → Mem → Option (Int32 × Mem)} {q_19 : Int32 → Int32 → Int32 → Mem → Option (Int32 × Mem)} (hk_19 : ∀ (v1 : Int32) (v2 : Int32) (v3 : Int32) (Ma : Mem), FSC Ma → k_19 (some 18) v1 v2 v3 Ma = q_19 v1 v2 v3 Ma) {v1 : Int32} {v2 : Int32} {v3 : Int32} (hF : FSC M) : J_X1_renew_70 k_19 (some 18) v1 v2 v3 M = SJ_X1_renew_70 q_19 v1 v2 v3 M := by
  unfold J_X1_renew_70 SJ_X1_renew_70
  exact hk_19 _ _ _ _ hF
def SJ_X1_renew_68 (k_19 : Int32 → Int32 → Int32 → Mem → Option (Int32 × Mem)) (v1 : Int32) (v3 : Int32) (s0 : Int32) (s1 : Int32) (M : Mem) : Option (Int32 × Mem) :=
  SJ_X1_renew_70 k_19 v1 (s0 + s1) v3 M
theorem eqJ_X1_renew_68 {M : Mem} {k_19 : Option Nat → Int32 → Int32 → Int32 → Mem → Option (Int32 × Mem)} {q_19 : Int32 → Int32 → Int32 → Mem → Option (Int32 × Mem)} (hk_19 : ∀ (v1 : Int32) (v2 : Int32) (v3 : Int32) (Ma : Mem), FSC Ma → k_19 (some 18) v1 v2 v3 Ma = q_19 v1 v2 v3 Ma) {v1 : Int32} {v3 : Int32} {s0 : Int32} {s1 : Int32} (hF : FSC M) : J_X1_renew_68 k_19 (some 18) v1 v3 s0 s1 M = SJ_X1_renew_68 q_19 v1 v3 s0 s1 M := by
  unfold J_X1_renew_68 SJ_X1_renew_68
  exact eqJ_X1_renew_70 hk_19 hF
def SJ_X1_renew_19 : Nat → Int32 → Int32 → Int32 → Mem → Option (Int32 × Mem)
  | 0 => fun _ _ _ _ => none
  | n + 1 => fun v1 v2 v3 M =>
  if (30 : Int32) ≤ v3 then
  (some (v2, si M 18 2 (0 : Int32)))
  else
  (if ¬ (((v1.toUInt32 >>> (v3.toUInt32 &&& Int32.toUInt32 31)).toInt32) &&& (1 : Int32)) = (1 : Int32) then
  (SJ_X1_renew_70 (SJ_X1_renew_19 n) v1 v2 v3 M)
  else
  (gd (inb v3 30) (
  gd (inb v3 30) (
  (S_X8_make v3.toNatClampNeg (gr M 19 v3.toNatClampNeg) (gi M 18 3) M).bind fun w2 =>
  gd (inb v3 30) (
  if ¬ (gr w2.2 19 v3.toNatClampNeg) = none then
  (SJ_X1_renew_68 (SJ_X1_renew_19 n) v1 v3 v2 (1 : Int32) w2.2)
  else
  (SJ_X1_renew_68 (SJ_X1_renew_19 n) v1 v3 v2 (0 : Int32) w2.2))))))
theorem eqJ_X1_renew_19 : ∀ (n : Nat) (v1 : Int32) (v2 : Int32) (v3 : Int32) (M : Mem), FSC M → J_X1_renew_19 n (some 18) v1 v2 v3 M = SJ_X1_renew_19 n v1 v2 v3 M := by
  intro n
  induction n with
  | zero => intro v1 v2 v3 M  hF; rfl
  | succ n ih =>
    intro v1 v2 v3 M  hF
    unfold J_X1_renew_19 SJ_X1_renew_19
    refine itc (fun _ => ?_) (fun _ => ?_)
    · refine (bi_pI (hF.hk 18)).trans ?_
      have hF : FSC (si M 18 2 (0 : Int32)) := hF.kc kc_si
      rfl
    · refine itc (fun _ => ?_) (fun _ => ?_)
      · exact eqJ_X1_renew_70 ih hF
      · refine (bi_fR (hF.hk 18) (hF.hg 18 1 20)).trans ?_
        refine (hF.aT).trans ?_
        refine gd_congr (fun g1 => ?_)
        have h1 := inb_lt g1
        refine (bi_fR (hF.hk 18) (hF.hg 18 0 19)).trans ?_
        refine (bi_aR (hF.hk 19) (hF.hl 19)).trans ?_
        refine gd_congr (fun _ => ?_)
        refine (bi_fI (hF.hk 18)).trans ?_
        refine (bi_ck (hF.kdT21 h1)).trans ?_
        refine bdc (eqS_X8_make h1 hF) (fun w2 hw => ?_)
        have hF := hF.kc (keep_X8_make hw)
        refine (bi_fR (hF.hk 18) (hF.hg 18 0 19)).trans ?_
        refine (bi_aR (hF.hk 19) (hF.hl 19)).trans ?_
        refine gd_congr (fun _ => ?_)
        refine itc (fun _ => ?_) (fun _ => ?_)
        · exact eqJ_X1_renew_68 ih hF
        · exact eqJ_X1_renew_68 ih hF
def S_X1_renew  (M : Mem) : Option (Int32 × Mem) :=
  (S_X1_touchedYears M).bind fun w3 =>
  SJ_X1_renew_19 FU w3.1 (0 : Int32) (0 : Int32) (si w3.2 18 3 ((gi w3.2 18 3) + (1 : Int32)))
theorem eqS_X1_renew {M : Mem} (hF : FSC M) : L_X1_renew (some 18) M = S_X1_renew  M := by
  unfold L_X1_renew S_X1_renew
  refine (bi_ck (hF.hk 18)).trans ?_
  refine bdc (eqS_X1_touchedYears hF) (fun w3 hw => ?_)
  have hF := hF.kc (keep_X1_touchedYears hw)
  refine (bi_fI (hF.hk 18)).trans ?_
  refine (bi_pI (hF.hk 18)).trans ?_
  have hF : FSC (si w3.2 18 3 ((gi w3.2 18 3) + (1 : Int32))) := hF.kc kc_si
  exact eqJ_X1_renew_19 FU _ _ _ _ hF
def SJ_X1_find_17 : Nat → Int32 → Int64 → Int32 → Int32 → Mem → Option (Int32 × Mem)
  | 0 => fun _ _ _ _ _ => none
  | n + 1 => fun v1 v4 v6 v7 M =>
  if (30 : Int32) ≤ v7 then
  (some ((-1 : Int32), M))
  else
  (if v6 < 0 then
  (some ((-1 : Int32), M))
  else
  (if (30 : Int32) ≤ v6 then
  (some ((-1 : Int32), M))
  else
  (gd (inb v6 30) (
  if ¬ (gr M (21 + 4 * v6.toNatClampNeg) 0) = none then
  ((ck M 6 (gr M (21 + 4 * v6.toNatClampNeg) 0)).bind fun _ => (L_X6_indexOf (gr M (21 + 4 * v6.toNatClampNeg) 0) v1 v4 M).bind fun w2 =>
  if w2.1 = (-1 : Int32) then
  ((fI w2.2 6 0 (gr M (21 + 4 * v6.toNatClampNeg) 0)).bind fun x3 =>
  SJ_X1_find_17 n v1 v4 x3 (v7 + 1) w2.2)
  else
  (some ((v6 * (8 : Int32)) + w2.1, w2.2)))
  else
  (some ((-1 : Int32), M))))))
theorem eqJ_X1_find_17 : ∀ (n : Nat) (v1 : Int32) (v4 : Int64) (v6 : Int32) (v7 : Int32) (M : Mem), FSC M → J_X1_find_17 n (some 18) v1 v4 v6 v7 M = SJ_X1_find_17 n v1 v4 v6 v7 M := by
  intro n
  induction n with
  | zero => intro v1 v4 v6 v7 M  hF; rfl
  | succ n ih =>
    intro v1 v4 v6 v7 M  hF
    unfold J_X1_find_17 SJ_X1_find_17
    refine itc (fun _ => ?_) (fun _ => ?_)
    · rfl
    · refine itc (fun _ => ?_) (fun _ => ?_)
      · rfl
      · refine itc (fun _ => ?_) (fun _ => ?_)
        · rfl
        · refine (bi_fR (hF.hk 18) (hF.hg 18 1 20)).trans ?_
          refine (hF.aT).trans ?_
          refine gd_congr (fun g1 => ?_)
          have h1 := inb_lt g1
          refine (bi_fR (hF.kdT21 h1) rfl).trans ?_
          refine itc (fun _ => ?_) (fun _ => ?_)
          · refine bdc rfl (fun _ _ => ?_)
            refine bdc rfl (fun w2 hw => ?_)
            have hF := hF.kc (keep_X6_indexOf hw)
            refine itc (fun _ => ?_) (fun _ => ?_)
            · refine bdc rfl (fun x3 _ => ?_)
              exact ih _ _ _ _ _ hF
            · rfl
          · rfl
def S_X1_find (v1 : Int32) (v2 : Int64) (M : Mem) : Option (Int32 × Mem) :=
  SJ_X1_find_17 FU v1 (v2 &&& (1099511627775 : Int64)) (((v2.toUInt64 >>> ((40 : Int32).toInt64.toUInt64 &&& Int64.toUInt64 63)).toInt64).toInt32) (0 : Int32) M
theorem eqS_X1_find {M : Mem} {v1 : Int32} {v2 : Int64} (hF : FSC M) : L_X1_find (some 18) v1 v2 M = S_X1_find v1 v2 M := by
  unfold L_X1_find S_X1_find
  exact eqJ_X1_find_17 FU _ _ _ _ _ hF
def S_X3_open (v1 : Int32) (v2 : Option Nat) (v3 : Int32) (v4 : Int32) (M : Mem) : Option (Unit × Mem) :=
  if (gi M 144 2) < (31 : Int32) then
  (gd (inb (gi M 144 2) 31) (
  gd (v4 = 0 ∨ v4 = 1) (
  some ((), si (si (si (si (si (sr (si M (146 + (gi M 144 2).toNatClampNeg) 0 v1) (146 + (gi M 144 2).toNatClampNeg) 1 v2) (146 + (gi M 144 2).toNatClampNeg) 2 v3) (146 + (gi M 144 2).toNatClampNeg) 3 (gi (si (sr (si M (146 + (gi M 144 2).toNatClampNeg) 0 v1) (146 + (gi M 144 2).toNatClampNeg) 1 v2) (146 + (gi M 144 2).toNatClampNeg) 2 v3) 144 4)) (146 + (gi M 144 2).toNatClampNeg) 4 (0 : Int32)) (146 + (gi M 144 2).toNatClampNeg) 5 v4) 144 2 ((gi (si (si (si (si (sr (si M (146 + (gi M 144 2).toNatClampNeg) 0 v1) (146 + (gi M 144 2).toNatClampNeg) 1 v2) (146 + (gi M 144 2).toNatClampNeg) 2 v3) (146 + (gi M 144 2).toNatClampNeg) 3 (gi (si (sr (si M (146 + (gi M 144 2).toNatClampNeg) 0 v1) (146 + (gi M 144 2).toNatClampNeg) 1 v2) (146 + (gi M 144 2).toNatClampNeg) 2 v3) 144 4)) (146 + (gi M 144 2).toNatClampNeg) 4 (0 : Int32)) (146 + (gi M 144 2).toNatClampNeg) 5 v4) 144 2) + (1 : Int32))))))
  else
  (some ((), M))
theorem eqS_X3_open {M : Mem} {v1 : Int32} {v2 : Option Nat} {v3 : Int32} {v4 : Int32} (hF : FSC M) : L_X3_open (some 144) v1 v2 v3 v4 M = S_X3_open v1 v2 v3 v4 M := by
  unfold L_X3_open S_X3_open
  refine (bi_fI (hF.hk 144)).trans ?_
  refine itc (fun _ => ?_) (fun _ => ?_)
  · refine (bi_fR (hF.hk 144) (hF.hg 144 1 145)).trans ?_
    refine (bi_fI (hF.hk 144)).trans ?_
    refine (hF.aF).trans ?_
    refine gd_congr (fun g1 => ?_)
    have h1 := inb_lt g1
    refine (bi_pI (hF.kdF h1)).trans ?_
    have hF : FSC (si M (146 + (gi M 144 2).toNatClampNeg) 0 v1) := hF.kc kc_si
    refine (bi_pR (hF.kdF h1)).trans ?_
    have hF : FSC (sr (si M (146 + (gi M 144 2).toNatClampNeg) 0 v1) (146 + (gi M 144 2).toNatClampNeg) 1 v2) := hF.kc (kc_srk (hF.kdF h1) (by decide))
    refine (bi_pI (hF.kdF h1)).trans ?_
    have hF : FSC (si (sr (si M (146 + (gi M 144 2).toNatClampNeg) 0 v1) (146 + (gi M 144 2).toNatClampNeg) 1 v2) (146 + (gi M 144 2).toNatClampNeg) 2 v3) := hF.kc kc_si
    refine (bi_fI (hF.hk 144)).trans ?_
    refine (bi_pI (hF.kdF h1)).trans ?_
    have hF : FSC (si (si (sr (si M (146 + (gi M 144 2).toNatClampNeg) 0 v1) (146 + (gi M 144 2).toNatClampNeg) 1 v2) (146 + (gi M 144 2).toNatClampNeg) 2 v3) (146 + (gi M 144 2).toNatClampNeg) 3 (gi (si (sr (si M (146 + (gi M 144 2).toNatClampNeg) 0 v1) (146 + (gi M 144 2).toNatClampNeg) 1 v2) (146 + (gi M 144 2).toNatClampNeg) 2 v3) 144 4)) := hF.kc kc_si
    refine (bi_pI (hF.kdF h1)).trans ?_
    have hF : FSC (si (si (si (sr (si M (146 + (gi M 144 2).toNatClampNeg) 0 v1) (146 + (gi M 144 2).toNatClampNeg) 1 v2) (146 + (gi M 144 2).toNatClampNeg) 2 v3) (146 + (gi M 144 2).toNatClampNeg) 3 (gi (si (sr (si M (146 + (gi M 144 2).toNatClampNeg) 0 v1) (146 + (gi M 144 2).toNatClampNeg) 1 v2) (146 + (gi M 144 2).toNatClampNeg) 2 v3) 144 4)) (146 + (gi M 144 2).toNatClampNeg) 4 (0 : Int32)) := hF.kc kc_si
    refine (bi_pZ (hF.kdF h1)).trans ?_
    refine gd_congr (fun _ => ?_)
    have hF : FSC (si (si (si (si (sr (si M (146 + (gi M 144 2).toNatClampNeg) 0 v1) (146 + (gi M 144 2).toNatClampNeg) 1 v2) (146 + (gi M 144 2).toNatClampNeg) 2 v3) (146 + (gi M 144 2).toNatClampNeg) 3 (gi (si (sr (si M (146 + (gi M 144 2).toNatClampNeg) 0 v1) (146 + (gi M 144 2).toNatClampNeg) 1 v2) (146 + (gi M 144 2).toNatClampNeg) 2 v3) 144 4)) (146 + (gi M 144 2).toNatClampNeg) 4 (0 : Int32)) (146 + (gi M 144 2).toNatClampNeg) 5 v4) := hF.kc kc_si
    refine (bi_fI (hF.hk 144)).trans ?_
    refine (bi_pI (hF.hk 144)).trans ?_
    have hF : FSC (si (si (si (si (si (sr (si M (146 + (gi M 144 2).toNatClampNeg) 0 v1) (146 + (gi M 144 2).toNatClampNeg) 1 v2) (146 + (gi M 144 2).toNatClampNeg) 2 v3) (146 + (gi M 144 2).toNatClampNeg) 3 (gi (si (sr (si M (146 + (gi M 144 2).toNatClampNeg) 0 v1) (146 + (gi M 144 2).toNatClampNeg) 1 v2) (146 + (gi M 144 2).toNatClampNeg) 2 v3) 144 4)) (146 + (gi M 144 2).toNatClampNeg) 4 (0 : Int32)) (146 + (gi M 144 2).toNatClampNeg) 5 v4) 144 2 ((gi (si (si (si (si (sr (si M (146 + (gi M 144 2).toNatClampNeg) 0 v1) (146 + (gi M 144 2).toNatClampNeg) 1 v2) (146 + (gi M 144 2).toNatClampNeg) 2 v3) (146 + (gi M 144 2).toNatClampNeg) 3 (gi (si (sr (si M (146 + (gi M 144 2).toNatClampNeg) 0 v1) (146 + (gi M 144 2).toNatClampNeg) 1 v2) (146 + (gi M 144 2).toNatClampNeg) 2 v3) 144 4)) (146 + (gi M 144 2).toNatClampNeg) 4 (0 : Int32)) (146 + (gi M 144 2).toNatClampNeg) 5 v4) 144 2) + (1 : Int32))) := hF.kc kc_si
    rfl
  · rfl
def SJ_X3_demand_86 (v1 : Int32) (v2 : Nat) (M : Mem) : Option (Int32 × Mem) :=
  (S_X3_open v1 (gr (si M 144 8 ((gi M 144 8) + (1 : Int32))) (21 + 4 * v2) 0) (0 : Int32) (1 : Int32) (si M 144 8 ((gi M 144 8) + (1 : Int32)))).bind fun w1 =>
  some ((-1 : Int32), w1.2)
theorem eqJ_X3_demand_86 {M : Mem} {v1 : Int32} {v2 : Nat} (hv2 : v2 < 30) (hF : FSC M) : J_X3_demand_86 (some 144) v1 (some (21 + 4 * v2)) M = SJ_X3_demand_86 v1 v2 M := by
  unfold J_X3_demand_86 SJ_X3_demand_86
  refine (bi_fI (hF.hk 144)).trans ?_
  refine (bi_pI (hF.hk 144)).trans ?_
  have hF : FSC (si M 144 8 ((gi M 144 8) + (1 : Int32))) := hF.kc kc_si
  refine (bi_fR (hF.kdT21 hv2) rfl).trans ?_
  refine (bi_ck (hF.hk 144)).trans ?_
  refine bdc (eqS_X3_open hF) (fun w1 hw => ?_)
  have hF := hF.kc (keep_X3_open hw)
  rfl
def S_X3_demand (v1 : Int32) (M : Mem) : Option (Int32 × Mem) :=
  if v1 < 0 then
  (some ((803 : Int32), M))
  else
  (if (30 : Int32) ≤ v1 then
  (some ((803 : Int32), M))
  else
  (gd (inb v1 30) (
  if ¬ (gr M (21 + 4 * v1.toNatClampNeg) 0) = none then
  (gd (inb v1 30) (
  if ¬ (gi M (21 + 4 * v1.toNatClampNeg) 1) = (3 : Int32) then
  (if (gi M (21 + 4 * v1.toNatClampNeg) 1) = (1 : Int32) then
  (if (300 : Int32) ≤ (gi (si M (21 + 4 * v1.toNatClampNeg) 1 (4 : Int32)) 144 8) then
  (SJ_X3_demand_86 v1 v1.toNatClampNeg (si M (21 + 4 * v1.toNatClampNeg) 1 (4 : Int32)))
  else
  (gd (inb (gi (si M (21 + 4 * v1.toNatClampNeg) 1 (4 : Int32)) 144 8) 300) (
  SJ_X3_demand_86 v1 v1.toNatClampNeg (si (si M (21 + 4 * v1.toNatClampNeg) 1 (4 : Int32)) 179 (gi (si M (21 + 4 * v1.toNatClampNeg) 1 (4 : Int32)) 144 8).toNatClampNeg v1))))
  else
  (some ((0 : Int32), M)))
  else
  (some ((804 : Int32), M))))
  else
  (some ((803 : Int32), M)))))
theorem eqS_X3_demand {M : Mem} {v1 : Int32} (hF : FSC M) : L_X3_demand (some 144) v1 M = S_X3_demand v1 M := by
  unfold L_X3_demand S_X3_demand
  refine itc (fun _ => ?_) (fun _ => ?_)
  · rfl
  · refine itc (fun _ => ?_) (fun _ => ?_)
    · rfl
    · refine (bi_fR (hF.hk 144) (hF.hg 144 0 18)).trans ?_
      refine (bi_fR (hF.hk 18) (hF.hg 18 1 20)).trans ?_
      refine (hF.aT).trans ?_
      refine gd_congr (fun g2 => ?_)
      have h2 := inb_lt g2
      refine (bi_fR (hF.kdT21 h2) rfl).trans ?_
      refine itc (fun _ => ?_) (fun _ => ?_)
      · refine (bi_fR (hF.hk 144) (hF.hg 144 0 18)).trans ?_
        refine (bi_fR (hF.hk 18) (hF.hg 18 1 20)).trans ?_
        refine (hF.aT).trans ?_
        refine gd_congr (fun g3 => ?_)
        have h3 := inb_lt g3
        refine (bi_fI (hF.kdT21 h3)).trans ?_
        refine itc (fun _ => ?_) (fun _ => ?_)
        · refine (bi_fI (hF.kdT21 h3)).trans ?_
          refine itc (fun _ => ?_) (fun _ => ?_)
          · refine (bi_pI (hF.kdT21 h3)).trans ?_
            have hF : FSC (si M (21 + 4 * v1.toNatClampNeg) 1 (4 : Int32)) := hF.kc kc_si
            refine (bi_fI (hF.hk 144)).trans ?_
            refine itc (fun _ => ?_) (fun _ => ?_)
            · exact eqJ_X3_demand_86 h3 hF
            · refine (bi_fR (hF.hk 144) (hF.hg 144 7 179)).trans ?_
              refine (bi_fI (hF.hk 144)).trans ?_
              refine (bi_uI (hF.hk 179) (hF.hl 179)).trans ?_
              refine gd_congr (fun _ => ?_)
              have hF : FSC (si (si M (21 + 4 * v1.toNatClampNeg) 1 (4 : Int32)) 179 (gi (si M (21 + 4 * v1.toNatClampNeg) 1 (4 : Int32)) 144 8).toNatClampNeg v1) := hF.kc kc_si
              exact eqJ_X3_demand_86 h3 hF
          · rfl
        · rfl
      · rfl
def SJ_X3_finish_23  (M : Mem) : Option (Int32 × Mem) :=
  some ((-1 : Int32), si M 144 2 ((gi M 144 2) - (1 : Int32)))
theorem eqJ_X3_finish_23 {M : Mem} (hF : FSC M) : J_X3_finish_23 (some 144) M = SJ_X3_finish_23  M := by
  unfold J_X3_finish_23 SJ_X3_finish_23
  refine (bi_fI (hF.hk 144)).trans ?_
  refine (bi_pI (hF.hk 144)).trans ?_
  have hF : FSC (si M 144 2 ((gi M 144 2) - (1 : Int32))) := hF.kc kc_si
  rfl
def S_X3_finish (v1 : Nat) (M : Mem) : Option (Int32 × Mem) :=
  if (gi M (146 + v1) 5) = 0 then
  (SJ_X3_finish_23  M)
  else
  (gd (inb (gi M (146 + v1) 0) 30) (
  SJ_X3_finish_23  (si M (21 + 4 * (gi M (146 + v1) 0).toNatClampNeg) 1 (2 : Int32))))
theorem eqS_X3_finish {M : Mem} {v1 : Nat} (hv1 : v1 < 31) (hF : FSC M) : L_X3_finish (some 144) (some (146 + v1)) M = S_X3_finish v1 M := by
  unfold L_X3_finish S_X3_finish
  refine (bi_fI (hF.kdF hv1)).trans ?_
  refine itc (fun _ => ?_) (fun _ => ?_)
  · exact eqJ_X3_finish_23 hF
  · refine (bi_fR (hF.hk 144) (hF.hg 144 0 18)).trans ?_
    refine (bi_fR (hF.hk 18) (hF.hg 18 1 20)).trans ?_
    refine (bi_fI (hF.kdF hv1)).trans ?_
    refine (hF.aT).trans ?_
    refine gd_congr (fun g1 => ?_)
    have h1 := inb_lt g1
    refine (bi_pI (hF.kdT21 h1)).trans ?_
    have hF : FSC (si M (21 + 4 * (gi M (146 + v1) 0).toNatClampNeg) 1 (2 : Int32)) := hF.kc kc_si
    exact eqJ_X3_finish_23 hF
def S_X3_push (v1 : Int64) (M : Mem) : Option (Int32 × Mem) :=
  if (1240 : Int32) ≤ (gi M 144 4) then
  (some ((0 : Int32), M))
  else
  (gd (inb (gi M 144 4) 1240) (
  some ((0 : Int32), si (sl M 177 (gi M 144 4).toNatClampNeg v1) 144 4 ((gi (sl M 177 (gi M 144 4).toNatClampNeg v1) 144 4) + (1 : Int32)))))
theorem eqS_X3_push {M : Mem} {v1 : Int64} (hF : FSC M) : L_X3_push (some 144) v1 M = S_X3_push v1 M := by
  unfold L_X3_push S_X3_push
  refine (bi_fI (hF.hk 144)).trans ?_
  refine (bi_fR (hF.hk 144) (hF.hg 144 3 177)).trans ?_
  refine (bi_aN (n := 1240) (hF.hk 177) (by decide) (by decide) (hF.hl 177)).trans ?_
  refine itc (fun _ => ?_) (fun _ => ?_)
  · rfl
  · refine (bi_fR (hF.hk 144) (hF.hg 144 3 177)).trans ?_
    refine (bi_fI (hF.hk 144)).trans ?_
    refine (bi_uL (hF.hk 177) (hF.hl 177)).trans ?_
    refine gd_congr (fun _ => ?_)
    have hF : FSC (sl M 177 (gi M 144 4).toNatClampNeg v1) := hF.kc kc_sl
    refine (bi_fI (hF.hk 144)).trans ?_
    refine (bi_pI (hF.hk 144)).trans ?_
    have hF : FSC (si (sl M 177 (gi M 144 4).toNatClampNeg v1) 144 4 ((gi (sl M 177 (gi M 144 4).toNatClampNeg v1) 144 4) + (1 : Int32))) := hF.kc kc_si
    rfl
def S_X8_valueOf (v0 : Nat) (v1 : Int32) (M : Mem) : Option (Int64 × Mem) :=
  if (gr M (21 + 4 * v0) 0) = none then
  (some ((-2000000000000000 : Int64), M))
  else
  (if v1 < 0 then
  (some ((-2000000000000000 : Int64), M))
  else
  ((fR M 6 6 (gr M (21 + 4 * v0) 0)).bind fun x1 =>
  (aN M x1).bind fun x2 =>
  if x2 ≤ v1 then
  (some ((-2000000000000000 : Int64), M))
  else
  (gd (inb v1 8) (
  if (gi M (22 + 4 * v0) v1.toNatClampNeg) = (2 : Int32) then
  (gd (inb v1 8) (
  some (gl M (23 + 4 * v0) v1.toNatClampNeg, M)))
  else
  (some ((-2000000000000000 : Int64), M))))))
theorem eqS_X8_valueOf {M : Mem} {v0 : Nat} {v1 : Int32} (hv0 : v0 < 30) (hF : FSC M) : L_X8_valueOf (some (21 + 4 * v0)) v1 M = S_X8_valueOf v0 v1 M := by
  unfold L_X8_valueOf S_X8_valueOf
  refine (bi_fR (hF.kdT21 hv0) rfl).trans ?_
  refine itc (fun _ => ?_) (fun _ => ?_)
  · rfl
  · refine itc (fun _ => ?_) (fun _ => ?_)
    · rfl
    · refine (bi_fR (hF.kdT21 hv0) rfl).trans ?_
      refine bdc rfl (fun x1 _ => ?_)
      refine bdc rfl (fun x2 _ => ?_)
      refine itc (fun _ => ?_) (fun _ => ?_)
      · rfl
      · refine (bi_fR (hF.kdT21 hv0) (hF.grT5 hv0)).trans ?_
        refine (bi_aI (hF.kdT22 hv0) (hF.lnT22 hv0)).trans ?_
        refine gd_congr (fun _ => ?_)
        refine itc (fun _ => ?_) (fun _ => ?_)
        · refine (bi_fR (hF.kdT21 hv0) (hF.grT6 hv0)).trans ?_
          refine (bi_aL (hF.kdT23 hv0) (hF.lnT23 hv0)).trans ?_
          refine gd_congr (fun _ => ?_)
          rfl
        · rfl
def S_X3_readConst (v1 : Int64) (M : Mem) : Option (Int32 × Mem) :=
  (S_X1_find (0 : Int32) v1 M).bind fun w1 =>
  if ¬ w1.1 = (-1 : Int32) then
  (gd (inb (w1.1 / (8 : Int32)) 30) (
  (S_X8_valueOf ((w1.1 / (8 : Int32)).toNatClampNeg) (w1.1 - w1.1 / (8 : Int32) * (8 : Int32)) w1.2).bind fun w3 =>
  if ¬ w3.1 = (-2000000000000000 : Int64) then
  ((S_X3_push w3.1 w3.2).bind fun w4 =>
  some (w4.1, w4.2))
  else
  (some ((802 : Int32), w3.2))))
  else
  (some ((802 : Int32), w1.2))
theorem eqS_X3_readConst {M : Mem} {v1 : Int64} (hF : FSC M) : L_X3_readConst (some 144) v1 M = S_X3_readConst v1 M := by
  unfold L_X3_readConst S_X3_readConst
  refine (bi_fR (hF.hk 144) (hF.hg 144 0 18)).trans ?_
  refine (bi_ck (hF.hk 18)).trans ?_
  refine bdc (eqS_X1_find hF) (fun w1 hw => ?_)
  have hF := hF.kc (keep_X1_find hw)
  refine itc (fun _ => ?_) (fun _ => ?_)
  · refine (bi_fR (hF.hk 144) (hF.hg 144 0 18)).trans ?_
    refine (bi_fR (hF.hk 18) (hF.hg 18 1 20)).trans ?_
    refine (if_neg (by decide)).trans ?_
    refine (hF.aT).trans ?_
    refine gd_congr (fun g2 => ?_)
    have h2 := inb_lt g2
    refine (if_neg (by decide)).trans ?_
    refine (bi_ck (hF.kdT21 h2)).trans ?_
    refine bdc (eqS_X8_valueOf h2 hF) (fun w3 hw => ?_)
    have hF := hF.kc (keep_X8_valueOf hw)
    refine itc (fun _ => ?_) (fun _ => ?_)
    · refine (bi_ck (hF.hk 144)).trans ?_
      refine bdc (eqS_X3_push hF) (fun w4 hw => ?_)
      have hF := hF.kc (keep_X3_push hw)
      rfl
    · rfl
  · rfl
def S_X3_pop  (M : Mem) : Option (Int64 × Mem) :=
  if 0 < (gi M 144 4) then
  (gd (inb (gi (si M 144 4 ((gi M 144 4) - (1 : Int32))) 144 4) 1240) (
  some (gl (si M 144 4 ((gi M 144 4) - (1 : Int32))) 177 (gi (si M 144 4 ((gi M 144 4) - (1 : Int32))) 144 4).toNatClampNeg, si M 144 4 ((gi M 144 4) - (1 : Int32)))))
  else
  (some ((0 : Int64), M))
theorem eqS_X3_pop {M : Mem} (hF : FSC M) : L_X3_pop (some 144) M = S_X3_pop  M := by
  unfold L_X3_pop S_X3_pop
  refine (bi_fI (hF.hk 144)).trans ?_
  refine itc (fun _ => ?_) (fun _ => ?_)
  · refine (bi_fI (hF.hk 144)).trans ?_
    refine (bi_pI (hF.hk 144)).trans ?_
    have hF : FSC (si M 144 4 ((gi M 144 4) - (1 : Int32))) := hF.kc kc_si
    refine (bi_fR (hF.hk 144) (hF.hg 144 3 177)).trans ?_
    refine (bi_fI (hF.hk 144)).trans ?_
    refine (bi_aL (hF.hk 177) (hF.hl 177)).trans ?_
    refine gd_congr (fun _ => ?_)
    rfl
  · rfl
def S_X8_hasEntry (v0 : Nat) (v1 : Int32) (v2 : Int64) (M : Mem) : Option (Int32 × Mem) :=
  if (gr M (21 + 4 * v0) 0) = none then
  (some ((0 : Int32), M))
  else
  (if v1 < 0 then
  (some ((0 : Int32), M))
  else
  ((fR M 6 9 (gr M (21 + 4 * v0) 0)).bind fun x1 =>
  (aN M x1).bind fun x2 =>
  if x2 ≤ v1 then
  (some ((0 : Int32), M))
  else
  (if v2 < (0 : Int64) then
  (some ((0 : Int32), M))
  else
  ((fR M 6 9 (gr M (21 + 4 * v0) 0)).bind fun x3 =>
  (aI M 20 x3 v1).bind fun x4 =>
  if x4.toInt64 ≤ v2 then
  (some ((0 : Int32), M))
  else
  (some ((1 : Int32), M))))))
theorem eqS_X8_hasEntry {M : Mem} {v0 : Nat} {v1 : Int32} {v2 : Int64} (hv0 : v0 < 30) (hF : FSC M) : L_X8_hasEntry (some (21 + 4 * v0)) v1 v2 M = S_X8_hasEntry v0 v1 v2 M := by
  unfold L_X8_hasEntry S_X8_hasEntry
  refine (bi_fR (hF.kdT21 hv0) rfl).trans ?_
  refine itc (fun _ => ?_) (fun _ => ?_)
  · rfl
  · refine itc (fun _ => ?_) (fun _ => ?_)
    · rfl
    · refine (bi_fR (hF.kdT21 hv0) rfl).trans ?_
      refine bdc rfl (fun x1 _ => ?_)
      refine bdc rfl (fun x2 _ => ?_)
      refine itc (fun _ => ?_) (fun _ => ?_)
      · rfl
      · refine itc (fun _ => ?_) (fun _ => ?_)
        · rfl
        · refine (bi_fR (hF.kdT21 hv0) rfl).trans ?_
          refine bdc rfl (fun x3 _ => ?_)
          refine bdc rfl (fun x4 _ => ?_)
          refine itc (fun _ => ?_) (fun _ => ?_)
          · rfl
          · rfl
def SJ_X3_pushEntry_42 (v1 : Nat) (v2 : Int32) (v4 : Int64) (M : Mem) : Option (Int32 × Mem) :=
  gd (inb ((v2 * (12 : Int32)) + v4.toInt32) 72) (
  (S_X3_push (gl M (24 + 4 * v1) ((v2 * (12 : Int32)) + v4.toInt32).toNatClampNeg) M).bind fun w1 =>
  some (w1.1, w1.2))
theorem eqJ_X3_pushEntry_42 {M : Mem} {v1 : Nat} {v2 : Int32} {v4 : Int64} (hv1 : v1 < 30) (hF : FSC M) : J_X3_pushEntry_42 (some 144) (some (21 + 4 * v1)) v2 v4 M = SJ_X3_pushEntry_42 v1 v2 v4 M := by
  unfold J_X3_pushEntry_42 SJ_X3_pushEntry_42
  refine (bi_fR (hF.kdT21 hv1) (hF.grT7 hv1)).trans ?_
  refine (bi_aL (hF.kdT24 hv1) (hF.lnT24 hv1)).trans ?_
  refine gd_congr (fun _ => ?_)
  refine (bi_ck (hF.hk 144)).trans ?_
  refine bdc (eqS_X3_push hF) (fun w1 hw => ?_)
  have hF := hF.kc (keep_X3_push hw)
  rfl
def S_X3_pushEntry (v1 : Nat) (v2 : Int32) (v3 : Int32) (M : Mem) : Option (Int32 × Mem) :=
  (S_X3_pop M).bind fun w2 =>
  (S_X8_hasEntry v1 v2 w2.1 w2.2).bind fun w3 =>
  if ¬ w3.1 = 0 then
  (if v3 = 0 then
  (SJ_X3_pushEntry_42 v1 v2 w2.1 w3.2)
  else
  (if ¬ (gi w3.2 (21 + 4 * v1) 1) = (4 : Int32) then
  (SJ_X3_pushEntry_42 v1 v2 w2.1 w3.2)
  else
  (SJ_X3_pushEntry_42 v1 v2 w2.1 (si w3.2 (21 + 4 * v1) 4 ((gi w3.2 (21 + 4 * v1) 4) + (1 : Int32))))))
  else
  (some ((805 : Int32), w3.2))
theorem eqS_X3_pushEntry {M : Mem} {v1 : Nat} {v2 : Int32} {v3 : Int32} (hv1 : v1 < 30) (hF : FSC M) : L_X3_pushEntry (some 144) (some (21 + 4 * v1)) v2 v3 M = S_X3_pushEntry v1 v2 v3 M := by
  unfold L_X3_pushEntry S_X3_pushEntry
  refine (bi_ck (hF.hk 144)).trans ?_
  refine bdc (eqS_X3_pop hF) (fun w2 hw => ?_)
  have hF := hF.kc (keep_X3_pop hw)
  refine (bi_ck (hF.kdT21 hv1)).trans ?_
  refine bdc (eqS_X8_hasEntry hv1 hF) (fun w3 hw => ?_)
  have hF := hF.kc (keep_X8_hasEntry hw)
  refine itc (fun _ => ?_) (fun _ => ?_)
  · refine itc (fun _ => ?_) (fun _ => ?_)
    · exact eqJ_X3_pushEntry_42 hv1 hF
    · refine (bi_fI (hF.kdT21 hv1)).trans ?_
      refine itc (fun _ => ?_) (fun _ => ?_)
      · exact eqJ_X3_pushEntry_42 hv1 hF
      · refine (bi_fI (hF.kdT21 hv1)).trans ?_
        refine (bi_pI (hF.kdT21 hv1)).trans ?_
        have hF : FSC (si w3.2 (21 + 4 * v1) 4 ((gi w3.2 (21 + 4 * v1) 4) + (1 : Int32))) := hF.kc kc_si
        exact eqJ_X3_pushEntry_42 hv1 hF
  · rfl
def SJ_X3_readEntry_123 (s1 : Nat) (s2 : Int32) (s3 : Int32) (M : Mem) : Option (Int32 × Mem) :=
  (S_X3_pushEntry s1 s2 s3 M).bind fun w1 =>
  some (w1.1, w1.2)
theorem eqJ_X3_readEntry_123 {M : Mem} {s1 : Nat} {s2 : Int32} {s3 : Int32} (hs1 : s1 < 30) (hF : FSC M) : J_X3_readEntry_123 (some 144) (some (21 + 4 * s1)) s2 s3 M = SJ_X3_readEntry_123 s1 s2 s3 M := by
  unfold J_X3_readEntry_123 SJ_X3_readEntry_123
  refine (bi_ck (hF.hk 144)).trans ?_
  refine bdc (eqS_X3_pushEntry hs1 hF) (fun w1 hw => ?_)
  have hF := hF.kc (keep_X3_pushEntry hw)
  rfl
def SJ_X3_readEntry_83 (v1 : Nat) (v6 : Int32) (v7 : Int32) (s0 : Int32) (M : Mem) : Option (Int32 × Mem) :=
  if s0 = 0 then
  (gd (inb v7 30) (
  if v7 = (gi M (146 + v1) 0) then
  (SJ_X3_readEntry_123 v7.toNatClampNeg (v6 - v6 / (8 : Int32) * (8 : Int32)) (0 : Int32) M)
  else
  (SJ_X3_readEntry_123 v7.toNatClampNeg (v6 - v6 / (8 : Int32) * (8 : Int32)) (1 : Int32) M)))
  else
  (some (s0, M))
theorem eqJ_X3_readEntry_83 {M : Mem} {v1 : Nat} {v6 : Int32} {v7 : Int32} {s0 : Int32} (hv1 : v1 < 31) (hF : FSC M) : J_X3_readEntry_83 (some 144) (some (146 + v1)) v6 v7 s0 M = SJ_X3_readEntry_83 v1 v6 v7 s0 M := by
  unfold J_X3_readEntry_83 SJ_X3_readEntry_83
  refine itc (fun _ => ?_) (fun _ => ?_)
  · refine (bi_fR (hF.hk 144) (hF.hg 144 0 18)).trans ?_
    refine (bi_fR (hF.hk 18) (hF.hg 18 1 20)).trans ?_
    refine (hF.aT).trans ?_
    refine gd_congr (fun g2 => ?_)
    have h2 := inb_lt g2
    refine (if_neg (by decide)).trans ?_
    refine (bi_fI (hF.kdF hv1)).trans ?_
    refine itc (fun _ => ?_) (fun _ => ?_)
    · exact eqJ_X3_readEntry_123 h2 hF
    · exact eqJ_X3_readEntry_123 h2 hF
  · rfl
def SJ_X3_readEntry_26 (v1 : Nat) (v2 : Int64) (s0 : Int32) (M : Mem) : Option (Int32 × Mem) :=
  if s0 = 0 then
  ((S_X1_find (1 : Int32) v2 M).bind fun w3 =>
  if ¬ w3.1 = (-1 : Int32) then
  (if ¬ (w3.1 / (8 : Int32)) = (gi w3.2 (146 + v1) 0) then
  ((S_X3_demand (w3.1 / (8 : Int32)) w3.2).bind fun w4 =>
  SJ_X3_readEntry_83 v1 w3.1 (w3.1 / (8 : Int32)) w4.1 w4.2)
  else
  (SJ_X3_readEntry_83 v1 w3.1 (w3.1 / (8 : Int32)) (0 : Int32) w3.2))
  else
  (some ((802 : Int32), w3.2)))
  else
  (some (s0, M))
theorem eqJ_X3_readEntry_26 {M : Mem} {v1 : Nat} {v2 : Int64} {s0 : Int32} (hv1 : v1 < 31) (hF : FSC M) : J_X3_readEntry_26 (some 144) (some (146 + v1)) v2 s0 M = SJ_X3_readEntry_26 v1 v2 s0 M := by
  unfold J_X3_readEntry_26 SJ_X3_readEntry_26
  refine itc (fun _ => ?_) (fun _ => ?_)
  · refine (bi_fR (hF.hk 144) (hF.hg 144 0 18)).trans ?_
    refine (bi_ck (hF.hk 18)).trans ?_
    refine bdc (eqS_X1_find hF) (fun w3 hw => ?_)
    have hF := hF.kc (keep_X1_find hw)
    refine itc (fun _ => ?_) (fun _ => ?_)
    · refine (if_neg (by decide)).trans ?_
      refine (bi_fI (hF.kdF hv1)).trans ?_
      refine itc (fun _ => ?_) (fun _ => ?_)
      · refine (bi_ck (hF.hk 144)).trans ?_
        refine bdc (eqS_X3_demand hF) (fun w4 hw => ?_)
        have hF := hF.kc (keep_X3_demand hw)
        exact eqJ_X3_readEntry_83 hv1 hF
      · exact eqJ_X3_readEntry_83 hv1 hF
    · rfl
  · rfl
def S_X3_readEntry (v1 : Nat) (v2 : Int64) (M : Mem) : Option (Int32 × Mem) :=
  if ¬ (((v2.toUInt64 >>> ((40 : Int32).toInt64.toUInt64 &&& Int64.toUInt64 63)).toInt64).toInt32) = (gi M (146 + v1) 0) then
  ((S_X3_demand (((v2.toUInt64 >>> ((40 : Int32).toInt64.toUInt64 &&& Int64.toUInt64 63)).toInt64).toInt32) M).bind fun w5 =>
  SJ_X3_readEntry_26 v1 v2 w5.1 w5.2)
  else
  (SJ_X3_readEntry_26 v1 v2 (0 : Int32) M)
theorem eqS_X3_readEntry {M : Mem} {v1 : Nat} {v2 : Int64} (hv1 : v1 < 31) (hF : FSC M) : L_X3_readEntry (some 144) (some (146 + v1)) v2 M = S_X3_readEntry v1 v2 M := by
  unfold L_X3_readEntry S_X3_readEntry
  refine (bi_fI (hF.kdF hv1)).trans ?_
  refine itc (fun _ => ?_) (fun _ => ?_)
  · refine (bi_ck (hF.hk 144)).trans ?_
    refine bdc (eqS_X3_demand hF) (fun w5 hw => ?_)
    have hF := hF.kc (keep_X3_demand hw)
    exact eqJ_X3_readEntry_26 hv1 hF
  · exact eqJ_X3_readEntry_26 hv1 hF
def SJ_X3_storeEntry_56 (v1 : Nat) (v2 : Int32) (v3 : Nat) (v4 : Int32) (M : Mem) : Option (Int32 × Mem) :=
  (S_X8_hasEntry v3 v4 ((gi (si M (146 + v1) 4 ((gi M (146 + v1) 4) + (1 : Int32))) (146 + v1) 4).toInt64) (si M (146 + v1) 4 ((gi M (146 + v1) 4) + (1 : Int32)))).bind fun w1 =>
  if ¬ w1.1 = 0 then
  (some ((-1 : Int32), si w1.2 (146 + v1) 2 (v2 / (8 : Int32))))
  else
  (some ((0 : Int32), w1.2))
theorem eqJ_X3_storeEntry_56 {M : Mem} {v1 : Nat} {v2 : Int32} {v3 : Nat} {v4 : Int32} (hv1 : v1 < 31) (hv3 : v3 < 30) (hF : FSC M) : J_X3_storeEntry_56 (some (146 + v1)) v2 (some (21 + 4 * v3)) v4 M = SJ_X3_storeEntry_56 v1 v2 v3 v4 M := by
  unfold J_X3_storeEntry_56 SJ_X3_storeEntry_56
  refine (bi_fI (hF.kdF hv1)).trans ?_
  refine (bi_pI (hF.kdF hv1)).trans ?_
  have hF : FSC (si M (146 + v1) 4 ((gi M (146 + v1) 4) + (1 : Int32))) := hF.kc kc_si
  refine (bi_fI (hF.kdF hv1)).trans ?_
  refine (bi_ck (hF.kdT21 hv3)).trans ?_
  refine bdc (eqS_X8_hasEntry hv3 hF) (fun w1 hw => ?_)
  have hF := hF.kc (keep_X8_hasEntry hw)
  refine itc (fun _ => ?_) (fun _ => ?_)
  · refine (if_neg (by decide)).trans ?_
    refine (bi_pI (hF.kdF hv1)).trans ?_
    have hF : FSC (si w1.2 (146 + v1) 2 (v2 / (8 : Int32))) := hF.kc kc_si
    rfl
  · rfl
def S_X3_storeEntry (v1 : Nat) (v2 : Int32) (M : Mem) : Option (Int32 × Mem) :=
  gd (inb (gi M (146 + v1) 0) 30) (
  (S_X3_pop M).bind fun w3 =>
  (S_X8_hasEntry ((gi M (146 + v1) 0).toNatClampNeg) (v2 - v2 / (8 : Int32) * (8 : Int32)) ((gi w3.2 (146 + v1) 4).toInt64) w3.2).bind fun w4 =>
  if w4.1 = 0 then
  (SJ_X3_storeEntry_56 v1 v2 ((gi M (146 + v1) 0).toNatClampNeg) (v2 - v2 / (8 : Int32) * (8 : Int32)) w4.2)
  else
  (gd (inb (((v2 - v2 / (8 : Int32) * (8 : Int32)) * (12 : Int32)) + (gi w4.2 (146 + v1) 4)) 72) (
  SJ_X3_storeEntry_56 v1 v2 ((gi M (146 + v1) 0).toNatClampNeg) (v2 - v2 / (8 : Int32) * (8 : Int32)) (sl w4.2 (24 + 4 * (gi M (146 + v1) 0).toNatClampNeg) (((v2 - v2 / (8 : Int32) * (8 : Int32)) * (12 : Int32)) + (gi w4.2 (146 + v1) 4)).toNatClampNeg w3.1))))
theorem eqS_X3_storeEntry {M : Mem} {v1 : Nat} {v2 : Int32} (hv1 : v1 < 31) (hF : FSC M) : L_X3_storeEntry (some 144) (some (146 + v1)) v2 M = S_X3_storeEntry v1 v2 M := by
  unfold L_X3_storeEntry S_X3_storeEntry
  refine (bi_fR (hF.hk 144) (hF.hg 144 0 18)).trans ?_
  refine (bi_fR (hF.hk 18) (hF.hg 18 1 20)).trans ?_
  refine (bi_fI (hF.kdF hv1)).trans ?_
  refine (hF.aT).trans ?_
  refine gd_congr (fun g2 => ?_)
  have h2 := inb_lt g2
  refine (if_neg (by decide)).trans ?_
  refine (bi_ck (hF.hk 144)).trans ?_
  refine bdc (eqS_X3_pop hF) (fun w3 hw => ?_)
  have hF := hF.kc (keep_X3_pop hw)
  refine (bi_fI (hF.kdF hv1)).trans ?_
  refine (bi_ck (hF.kdT21 h2)).trans ?_
  refine bdc (eqS_X8_hasEntry h2 hF) (fun w4 hw => ?_)
  have hF := hF.kc (keep_X8_hasEntry hw)
  refine itc (fun _ => ?_) (fun _ => ?_)
  · exact eqJ_X3_storeEntry_56 hv1 h2 hF
  · refine (bi_fR (hF.kdT21 h2) (hF.grT7 h2)).trans ?_
    refine (bi_fI (hF.kdF hv1)).trans ?_
    refine (bi_uL (hF.kdT24 h2) (hF.lnT24 h2)).trans ?_
    refine gd_congr (fun _ => ?_)
    have hF : FSC (sl w4.2 (24 + 4 * (gi M (146 + v1) 0).toNatClampNeg) (((v2 - v2 / (8 : Int32) * (8 : Int32)) * (12 : Int32)) + (gi w4.2 (146 + v1) 4)).toNatClampNeg w3.1) := hF.kc kc_sl
    exact eqJ_X3_storeEntry_56 hv1 h2 hF
def SJ_X3_calculate_138 (s1 : Int64) (M : Mem) : Option (Int32 × Mem) :=
  (S_X3_push s1 M).bind fun w1 =>
  some (w1.1, w1.2)
theorem eqJ_X3_calculate_138 {M : Mem} {s1 : Int64} (hF : FSC M) : J_X3_calculate_138 (some 144) s1 M = SJ_X3_calculate_138 s1 M := by
  unfold J_X3_calculate_138 SJ_X3_calculate_138
  refine (bi_ck (hF.hk 144)).trans ?_
  refine bdc (eqS_X3_push hF) (fun w1 hw => ?_)
  have hF := hF.kc (keep_X3_push hw)
  rfl
def SJ_X3_calculate_155 (s1 : Int64) (M : Mem) : Option (Int32 × Mem) :=
  (S_X3_push s1 M).bind fun w2 =>
  some (w2.1, w2.2)
theorem eqJ_X3_calculate_155 {M : Mem} {s1 : Int64} (hF : FSC M) : J_X3_calculate_155 (some 144) s1 M = SJ_X3_calculate_155 s1 M := by
  unfold J_X3_calculate_155 SJ_X3_calculate_155
  refine (bi_ck (hF.hk 144)).trans ?_
  refine bdc (eqS_X3_push hF) (fun w2 hw => ?_)
  have hF := hF.kc (keep_X3_push hw)
  rfl
def SJ_X3_calculate_172 (s1 : Int64) (M : Mem) : Option (Int32 × Mem) :=
  (S_X3_push s1 M).bind fun w3 =>
  some (w3.1, w3.2)
theorem eqJ_X3_calculate_172 {M : Mem} {s1 : Int64} (hF : FSC M) : J_X3_calculate_172 (some 144) s1 M = SJ_X3_calculate_172 s1 M := by
  unfold J_X3_calculate_172 SJ_X3_calculate_172
  refine (bi_ck (hF.hk 144)).trans ?_
  refine bdc (eqS_X3_push hF) (fun w3 hw => ?_)
  have hF := hF.kc (keep_X3_push hw)
  rfl
def S_X3_calculate (v1 : Int32) (M : Mem) : Option (Int32 × Mem) :=
  (S_X3_pop M).bind fun w4 =>
  (S_X3_pop w4.2).bind fun w5 =>
  if v1 = 6 then
  ((S_X3_push (w5.1 + w4.1) w5.2).bind fun w6 =>
  some (w6.1, w6.2))
  else
  if v1 = 7 then
  ((S_X3_push (w5.1 - w4.1) w5.2).bind fun w7 =>
  some (w7.1, w7.2))
  else
  if v1 = 8 then
  ((S_X3_push (w5.1 * w4.1) w5.2).bind fun w8 =>
  some (w8.1, w8.2))
  else
  if v1 = 9 then
  (if ¬ w4.1 = (0 : Int64) then
  (if w4.1 = 0 then none else
  (S_X3_push (w5.1 / w4.1) w5.2).bind fun w9 =>
  some (w9.1, w9.2))
  else
  (some ((801 : Int32), w5.2)))
  else
  if v1 = 10 then
  (if ¬ w4.1 = (0 : Int64) then
  (if w4.1 = 0 then none else
  (S_X3_push (w5.1 - w5.1 / w4.1 * w4.1) w5.2).bind fun w10 =>
  some (w10.1, w10.2))
  else
  (some ((801 : Int32), w5.2)))
  else
  if v1 = 11 then
  (if ¬ w5.1 = w4.1 then
  (SJ_X3_calculate_138 (0 : Int64) w5.2)
  else
  (SJ_X3_calculate_138 (1 : Int64) w5.2))
  else
  if v1 = 12 then
  (if w4.1 ≤ w5.1 then
  (SJ_X3_calculate_155 (0 : Int64) w5.2)
  else
  (SJ_X3_calculate_155 (1 : Int64) w5.2))
  else
  (if w5.1 ≤ w4.1 then
  (SJ_X3_calculate_172 (0 : Int64) w5.2)
  else
  (SJ_X3_calculate_172 (1 : Int64) w5.2))
theorem eqS_X3_calculate {M : Mem} {v1 : Int32} (hF : FSC M) : L_X3_calculate (some 144) v1 M = S_X3_calculate v1 M := by
  unfold L_X3_calculate S_X3_calculate
  refine (bi_ck (hF.hk 144)).trans ?_
  refine bdc (eqS_X3_pop hF) (fun w4 hw => ?_)
  have hF := hF.kc (keep_X3_pop hw)
  refine (bi_ck (hF.hk 144)).trans ?_
  refine bdc (eqS_X3_pop hF) (fun w5 hw => ?_)
  have hF := hF.kc (keep_X3_pop hw)
  refine itc (fun _ => ?_) (fun _ => ?_)
  · refine (bi_ck (hF.hk 144)).trans ?_
    refine bdc (eqS_X3_push hF) (fun w6 hw => ?_)
    have hF := hF.kc (keep_X3_push hw)
    rfl
  refine itc (fun _ => ?_) (fun _ => ?_)
  · refine (bi_ck (hF.hk 144)).trans ?_
    refine bdc (eqS_X3_push hF) (fun w7 hw => ?_)
    have hF := hF.kc (keep_X3_push hw)
    rfl
  refine itc (fun _ => ?_) (fun _ => ?_)
  · refine (bi_ck (hF.hk 144)).trans ?_
    refine bdc (eqS_X3_push hF) (fun w8 hw => ?_)
    have hF := hF.kc (keep_X3_push hw)
    rfl
  refine itc (fun _ => ?_) (fun _ => ?_)
  · refine itc (fun _ => ?_) (fun _ => ?_)
    · refine itc (fun _ => rfl) (fun _ => ?_)
      refine (bi_ck (hF.hk 144)).trans ?_
      refine bdc (eqS_X3_push hF) (fun w9 hw => ?_)
      have hF := hF.kc (keep_X3_push hw)
      rfl
    · rfl
  refine itc (fun _ => ?_) (fun _ => ?_)
  · refine itc (fun _ => ?_) (fun _ => ?_)
    · refine itc (fun _ => rfl) (fun _ => ?_)
      refine (bi_ck (hF.hk 144)).trans ?_
      refine bdc (eqS_X3_push hF) (fun w10 hw => ?_)
      have hF := hF.kc (keep_X3_push hw)
      rfl
    · rfl
  refine itc (fun _ => ?_) (fun _ => ?_)
  · refine itc (fun _ => ?_) (fun _ => ?_)
    · exact eqJ_X3_calculate_138 hF
    · exact eqJ_X3_calculate_138 hF
  refine itc (fun _ => ?_) (fun _ => ?_)
  · refine itc (fun _ => ?_) (fun _ => ?_)
    · exact eqJ_X3_calculate_155 hF
    · exact eqJ_X3_calculate_155 hF
  refine itc (fun _ => ?_) (fun _ => ?_)
  · exact eqJ_X3_calculate_172 hF
  · exact eqJ_X3_calculate_172 hF
def SJ_X3_advance_22 (v1 : Nat) (M : Mem) : Option (Int32 × Mem) :=
  (S_X3_finish v1 M).bind fun w1 =>
  some (w1.1, w1.2)
theorem eqJ_X3_advance_22 {M : Mem} {v1 : Nat} (hv1 : v1 < 31) (hF : FSC M) : J_X3_advance_22 (some 144) (some (146 + v1)) M = SJ_X3_advance_22 v1 M := by
  unfold J_X3_advance_22 SJ_X3_advance_22
  refine (bi_ck (hF.hk 144)).trans ?_
  refine bdc (eqS_X3_finish hv1 hF) (fun w1 hw => ?_)
  have hF := hF.kc (keep_X3_finish hw)
  rfl
def SJ_X3_advance_201 (s1 : Int64) (M : Mem) : Option (Int32 × Mem) :=
  (S_X3_push s1 M).bind fun w2 =>
  some (w2.1, w2.2)
theorem eqJ_X3_advance_201 {M : Mem} {s1 : Int64} (hF : FSC M) : J_X3_advance_201 (some 144) s1 M = SJ_X3_advance_201 s1 M := by
  unfold J_X3_advance_201 SJ_X3_advance_201
  refine (bi_ck (hF.hk 144)).trans ?_
  refine bdc (eqS_X3_push hF) (fun w2 hw => ?_)
  have hF := hF.kc (keep_X3_push hw)
  rfl
def SJ_X3_advance_200  (M : Mem) : Option (Int32 × Mem) :=
  SJ_X3_advance_201 (0 : Int64) M
theorem eqJ_X3_advance_200 {M : Mem} (hF : FSC M) : J_X3_advance_200 (some 144) M = SJ_X3_advance_200  M := by
  unfold J_X3_advance_200 SJ_X3_advance_200
  exact eqJ_X3_advance_201 hF
def SJ_X3_advance_257 (s0 : Nat) (s1 : Int32) (M : Mem) : Option (Int32 × Mem) :=
  some ((-1 : Int32), si M (146 + s0) 2 s1)
theorem eqJ_X3_advance_257 {M : Mem} {s0 : Nat} {s1 : Int32} (hs0 : s0 < 31) (hF : FSC M) : J_X3_advance_257 (some (146 + s0)) s1 M = SJ_X3_advance_257 s0 s1 M := by
  unfold J_X3_advance_257 SJ_X3_advance_257
  refine (bi_pI (hF.kdF hs0)).trans ?_
  have hF : FSC (si M (146 + s0) 2 s1) := hF.kc kc_si
  rfl
def SJ_X3_advance_326 (v2 : Int32) (M : Mem) : Option (Int32 × Mem) :=
  (S_X3_calculate v2 M).bind fun w3 =>
  some (w3.1, w3.2)
theorem eqJ_X3_advance_326 {M : Mem} {v2 : Int32} (hF : FSC M) : J_X3_advance_326 (some 144) v2 M = SJ_X3_advance_326 v2 M := by
  unfold J_X3_advance_326 SJ_X3_advance_326
  refine (bi_ck (hF.hk 144)).trans ?_
  refine bdc (eqS_X3_calculate hF) (fun w3 hw => ?_)
  have hF := hF.kc (keep_X3_calculate hw)
  rfl
def S_X3_advance (v1 : Nat) (M : Mem) : Option (Int32 × Mem) :=
  if (gi M (146 + v1) 2) < 0 then
  (SJ_X3_advance_22 v1 M)
  else
  ((fR M 6 4 (gr M (146 + v1) 1)).bind fun x4 =>
  (aN M x4).bind fun x5 =>
  if (gi M (146 + v1) 2) < x5 then
  ((fR M 6 4 (gr M (146 + v1) 1)).bind fun x6 =>
  (aI M 20 x6 (gi M (146 + v1) 2)).bind fun x7 =>
  (fR M 6 5 (gr M (146 + v1) 1)).bind fun x8 =>
  (aL M 21 x8 (gi M (146 + v1) 2)).bind fun x9 =>
  if x7 = 0 then
  ((S_X3_push x9 M).bind fun w10 =>
  some (w10.1, w10.2))
  else
  if x7 = 1 then
  ((S_X3_push ((gi M (146 + v1) 4).toInt64) M).bind fun w11 =>
  some (w11.1, w11.2))
  else
  if x7 = 2 then
  (if x9 < (0 : Int64) then
  (SJ_X3_advance_200  M)
  else
  (if ((4 : Int32).toInt64) ≤ x9 then
  (SJ_X3_advance_200  M)
  else
  (gd (inb x9.toInt32 4) (
  SJ_X3_advance_201 (gl M 178 x9.toInt32.toNatClampNeg) M))))
  else
  if x7 = 3 then
  ((S_X3_readConst x9 M).bind fun w12 =>
  some (w12.1, w12.2))
  else
  if x7 = 4 then
  ((S_X3_readEntry v1 x9 M).bind fun w13 =>
  some (w13.1, w13.2))
  else
  if x7 = 5 then
  ((S_X3_pop M).bind fun w14 =>
  (S_X3_push (-w14.1) w14.2).bind fun w15 =>
  some (w15.1, w15.2))
  else
  if x7 = 14 then
  (some ((-1 : Int32), si M (146 + v1) 2 x9.toInt32))
  else
  if x7 = 15 then
  ((S_X3_pop M).bind fun w16 =>
  if ¬ w16.1 = (0 : Int64) then
  (SJ_X3_advance_257 v1 ((gi w16.2 (146 + v1) 2) + (1 : Int32)) w16.2)
  else
  (SJ_X3_advance_257 v1 x9.toInt32 w16.2))
  else
  if x7 = 16 then
  ((S_X3_demand x9.toInt32 M).bind fun w17 =>
  some (w17.1, w17.2))
  else
  if x7 = 17 then
  (some ((0 : Int32), si M (146 + v1) 4 (0 : Int32)))
  else
  if x7 = 18 then
  ((S_X3_storeEntry v1 x9.toInt32 M).bind fun w18 =>
  some (w18.1, w18.2))
  else
  if x7 = 19 then
  ((S_X3_pop M).bind fun w19 =>
  if ¬ w19.1 = (0 : Int64) then
  (some ((0 : Int32), w19.2))
  else
  (some (x9.toInt32, w19.2)))
  else
  if x7 = 20 then
  ((S_X3_pop M).bind fun w20 =>
  some ((-1 : Int32), si (sl w20.2 144 6 w20.1) 144 2 ((gi (sl w20.2 144 6 w20.1) 144 2) - (1 : Int32))))
  else
  if x7 = 21 then
  ((S_X3_finish v1 M).bind fun w21 =>
  some (w21.1, w21.2))
  else
  (SJ_X3_advance_326 x7 M))
  else
  (SJ_X3_advance_22 v1 M))
theorem eqS_X3_advance {M : Mem} {v1 : Nat} (hv1 : v1 < 31) (hF : FSC M) : L_X3_advance (some 144) (some (146 + v1)) M = S_X3_advance v1 M := by
  unfold L_X3_advance S_X3_advance
  refine (bi_fI (hF.kdF hv1)).trans ?_
  refine itc (fun _ => ?_) (fun _ => ?_)
  · exact eqJ_X3_advance_22 hv1 hF
  · refine (bi_fI (hF.kdF hv1)).trans ?_
    refine (bi_fR (hF.kdF hv1) rfl).trans ?_
    refine bdc rfl (fun x4 _ => ?_)
    refine bdc rfl (fun x5 _ => ?_)
    refine itc (fun _ => ?_) (fun _ => ?_)
    · refine (bi_fR (hF.kdF hv1) rfl).trans ?_
      refine bdc rfl (fun x6 _ => ?_)
      refine (bi_fI (hF.kdF hv1)).trans ?_
      refine bdc rfl (fun x7 _ => ?_)
      refine (bi_fR (hF.kdF hv1) rfl).trans ?_
      refine bdc rfl (fun x8 _ => ?_)
      refine (bi_fI (hF.kdF hv1)).trans ?_
      refine bdc rfl (fun x9 _ => ?_)
      refine itc (fun _ => ?_) (fun _ => ?_)
      · refine (bi_ck (hF.hk 144)).trans ?_
        refine bdc (eqS_X3_push hF) (fun w10 hw => ?_)
        have hF := hF.kc (keep_X3_push hw)
        rfl
      refine itc (fun _ => ?_) (fun _ => ?_)
      · refine (bi_fI (hF.kdF hv1)).trans ?_
        refine (bi_ck (hF.hk 144)).trans ?_
        refine bdc (eqS_X3_push hF) (fun w11 hw => ?_)
        have hF := hF.kc (keep_X3_push hw)
        rfl
      refine itc (fun _ => ?_) (fun _ => ?_)
      · refine itc (fun _ => ?_) (fun _ => ?_)
        · exact eqJ_X3_advance_200 hF
        · refine (bi_fR (hF.hk 144) (hF.hg 144 5 178)).trans ?_
          refine (bi_aN (n := 4) (hF.hk 178) (by decide) (by decide) (hF.hl 178)).trans ?_
          refine itc (fun _ => ?_) (fun _ => ?_)
          · exact eqJ_X3_advance_200 hF
          · refine (bi_fR (hF.hk 144) (hF.hg 144 5 178)).trans ?_
            refine (bi_aL (hF.hk 178) (hF.hl 178)).trans ?_
            refine gd_congr (fun _ => ?_)
            exact eqJ_X3_advance_201 hF
      refine itc (fun _ => ?_) (fun _ => ?_)
      · refine (bi_ck (hF.hk 144)).trans ?_
        refine bdc (eqS_X3_readConst hF) (fun w12 hw => ?_)
        have hF := hF.kc (keep_X3_readConst hw)
        rfl
      refine itc (fun _ => ?_) (fun _ => ?_)
      · refine (bi_ck (hF.hk 144)).trans ?_
        refine bdc (eqS_X3_readEntry hv1 hF) (fun w13 hw => ?_)
        have hF := hF.kc (keep_X3_readEntry hw)
        rfl
      refine itc (fun _ => ?_) (fun _ => ?_)
      · refine (bi_ck (hF.hk 144)).trans ?_
        refine bdc (eqS_X3_pop hF) (fun w14 hw => ?_)
        have hF := hF.kc (keep_X3_pop hw)
        refine (bi_ck (hF.hk 144)).trans ?_
        refine bdc (eqS_X3_push hF) (fun w15 hw => ?_)
        have hF := hF.kc (keep_X3_push hw)
        rfl
      refine itc (fun _ => ?_) (fun _ => ?_)
      · refine (bi_pI (hF.kdF hv1)).trans ?_
        have hF : FSC (si M (146 + v1) 2 x9.toInt32) := hF.kc kc_si
        rfl
      refine itc (fun _ => ?_) (fun _ => ?_)
      · refine (bi_ck (hF.hk 144)).trans ?_
        refine bdc (eqS_X3_pop hF) (fun w16 hw => ?_)
        have hF := hF.kc (keep_X3_pop hw)
        refine itc (fun _ => ?_) (fun _ => ?_)
        · refine (bi_fI (hF.kdF hv1)).trans ?_
          exact eqJ_X3_advance_257 hv1 hF
        · exact eqJ_X3_advance_257 hv1 hF
      refine itc (fun _ => ?_) (fun _ => ?_)
      · refine (bi_ck (hF.hk 144)).trans ?_
        refine bdc (eqS_X3_demand hF) (fun w17 hw => ?_)
        have hF := hF.kc (keep_X3_demand hw)
        rfl
      refine itc (fun _ => ?_) (fun _ => ?_)
      · refine (bi_pI (hF.kdF hv1)).trans ?_
        have hF : FSC (si M (146 + v1) 4 (0 : Int32)) := hF.kc kc_si
        rfl
      refine itc (fun _ => ?_) (fun _ => ?_)
      · refine (bi_ck (hF.hk 144)).trans ?_
        refine bdc (eqS_X3_storeEntry hv1 hF) (fun w18 hw => ?_)
        have hF := hF.kc (keep_X3_storeEntry hw)
        rfl
      refine itc (fun _ => ?_) (fun _ => ?_)
      · refine (bi_ck (hF.hk 144)).trans ?_
        refine bdc (eqS_X3_pop hF) (fun w19 hw => ?_)
        have hF := hF.kc (keep_X3_pop hw)
        refine itc (fun _ => ?_) (fun _ => ?_)
        · rfl
        · rfl
      refine itc (fun _ => ?_) (fun _ => ?_)
      · refine (bi_ck (hF.hk 144)).trans ?_
        refine bdc (eqS_X3_pop hF) (fun w20 hw => ?_)
        have hF := hF.kc (keep_X3_pop hw)
        refine (bi_pL (hF.hk 144)).trans ?_
        have hF : FSC (sl w20.2 144 6 w20.1) := hF.kc kc_sl
        refine (bi_fI (hF.hk 144)).trans ?_
        refine (bi_pI (hF.hk 144)).trans ?_
        have hF : FSC (si (sl w20.2 144 6 w20.1) 144 2 ((gi (sl w20.2 144 6 w20.1) 144 2) - (1 : Int32))) := hF.kc kc_si
        rfl
      refine itc (fun _ => ?_) (fun _ => ?_)
      · refine (bi_ck (hF.hk 144)).trans ?_
        refine bdc (eqS_X3_finish hv1 hF) (fun w21 hw => ?_)
        have hF := hF.kc (keep_X3_finish hw)
        rfl
      exact eqJ_X3_advance_326 hF
    · exact eqJ_X3_advance_22 hv1 hF
def SJ_X3_unwind_112 (k_2 : Int32 → Int32 → Mem → Option (Int32 × Mem)) (v1 : Int32) (v2 : Int32) (M : Mem) : Option (Int32 × Mem) :=
  k_2 v1 (v2 + 1) (si M 144 2 ((gi M 144 2) - (1 : Int32)))
theorem eqJ_X3_unwind_112 {M : Mem} {k_2 : Option Nat → Int32 → Int32 → Mem → Option (Int32 × Mem)} {q_2 : Int32 → Int32 → Mem → Option (Int32 × Mem)} (hk_2 : ∀ (v1 : Int32) (v2 : Int32) (Ma : Mem), FSC Ma → k_2 (some 144) v1 v2 Ma = q_2 v1 v2 Ma) {v1 : Int32} {v2 : Int32} (hF : FSC M) : J_X3_unwind_112 k_2 (some 144) v1 v2 M = SJ_X3_unwind_112 q_2 v1 v2 M := by
  unfold J_X3_unwind_112 SJ_X3_unwind_112
  refine (bi_fI (hF.hk 144)).trans ?_
  refine (bi_pI (hF.hk 144)).trans ?_
  have hF : FSC (si M 144 2 ((gi M 144 2) - (1 : Int32))) := hF.kc kc_si
  exact hk_2 _ _ _ hF
def SJ_X3_unwind_57 (k_2 : Int32 → Int32 → Mem → Option (Int32 × Mem)) (v1 : Int32) (v2 : Int32) (v3 : Nat) (s0 : Int32) (M : Mem) : Option (Int32 × Mem) :=
  if s0 = (-1 : Int32) then
  (if (gi M (146 + v3) 5) = 0 then
  (SJ_X3_unwind_112 k_2 v1 v2 M)
  else
  (gd (inb (gi M (146 + v3) 0) 30) (
  gd (inb (gi (si M (21 + 4 * (gi M (146 + v3) 0).toNatClampNeg) 1 (3 : Int32)) (146 + v3) 0) 30) (
  SJ_X3_unwind_112 k_2 v1 v2 (si (si M (21 + 4 * (gi M (146 + v3) 0).toNatClampNeg) 1 (3 : Int32)) (21 + 4 * (gi (si M (21 + 4 * (gi M (146 + v3) 0).toNatClampNeg) 1 (3 : Int32)) (146 + v3) 0).toNatClampNeg) 3 v1)))))
  else
  (some ((0 : Int32), si M (146 + v3) 2 s0))
theorem eqJ_X3_unwind_57 {M : Mem} {k_2 : Option Nat → Int32 → Int32 → Mem → Option (Int32 × Mem)} {q_2 : Int32 → Int32 → Mem → Option (Int32 × Mem)} (hk_2 : ∀ (v1 : Int32) (v2 : Int32) (Ma : Mem), FSC Ma → k_2 (some 144) v1 v2 Ma = q_2 v1 v2 Ma) {v1 : Int32} {v2 : Int32} {v3 : Nat} {s0 : Int32} (hv3 : v3 < 31) (hF : FSC M) : J_X3_unwind_57 k_2 (some 144) v1 v2 (some (146 + v3)) s0 M = SJ_X3_unwind_57 q_2 v1 v2 v3 s0 M := by
  unfold J_X3_unwind_57 SJ_X3_unwind_57
  refine itc (fun _ => ?_) (fun _ => ?_)
  · refine (bi_fI (hF.kdF hv3)).trans ?_
    refine itc (fun _ => ?_) (fun _ => ?_)
    · exact eqJ_X3_unwind_112 hk_2 hF
    · refine (bi_fR (hF.hk 144) (hF.hg 144 0 18)).trans ?_
      refine (bi_fR (hF.hk 18) (hF.hg 18 1 20)).trans ?_
      refine (bi_fI (hF.kdF hv3)).trans ?_
      refine (hF.aT).trans ?_
      refine gd_congr (fun g1 => ?_)
      have h1 := inb_lt g1
      refine (bi_pI (hF.kdT21 h1)).trans ?_
      have hF : FSC (si M (21 + 4 * (gi M (146 + v3) 0).toNatClampNeg) 1 (3 : Int32)) := hF.kc kc_si
      refine (bi_fR (hF.hk 144) (hF.hg 144 0 18)).trans ?_
      refine (bi_fR (hF.hk 18) (hF.hg 18 1 20)).trans ?_
      refine (bi_fI (hF.kdF hv3)).trans ?_
      refine (hF.aT).trans ?_
      refine gd_congr (fun g2 => ?_)
      have h2 := inb_lt g2
      refine (bi_pI (hF.kdT21 h2)).trans ?_
      have hF : FSC (si (si M (21 + 4 * (gi M (146 + v3) 0).toNatClampNeg) 1 (3 : Int32)) (21 + 4 * (gi (si M (21 + 4 * (gi M (146 + v3) 0).toNatClampNeg) 1 (3 : Int32)) (146 + v3) 0).toNatClampNeg) 3 v1) := hF.kc kc_si
      exact eqJ_X3_unwind_112 hk_2 hF
  · refine (bi_pI (hF.kdF hv3)).trans ?_
    have hF : FSC (si M (146 + v3) 2 s0) := hF.kc kc_si
    rfl
def SJ_X3_unwind_2 : Nat → Int32 → Int32 → Mem → Option (Int32 × Mem)
  | 0 => fun _ _ _ => none
  | n + 1 => fun v1 v2 M =>
  if (31 : Int32) ≤ v2 then
  (some (v1, M))
  else
  (if (gi M 144 2) ≤ 0 then
  (some (v1, M))
  else
  (gd (inb ((gi M 144 2) - (1 : Int32)) 31) (
  if (gi (si M 144 4 (gi M (146 + ((gi M 144 2) - (1 : Int32)).toNatClampNeg) 3)) (146 + ((gi M 144 2) - (1 : Int32)).toNatClampNeg) 5) = 0 then
  (SJ_X3_unwind_57 (SJ_X3_unwind_2 n) v1 v2 (((gi M 144 2) - (1 : Int32)).toNatClampNeg) (-1 : Int32) (si M 144 4 (gi M (146 + ((gi M 144 2) - (1 : Int32)).toNatClampNeg) 3)))
  else
  ((ck (si M 144 4 (gi M (146 + ((gi M 144 2) - (1 : Int32)).toNatClampNeg) 3)) 6 (gr (si M 144 4 (gi M (146 + ((gi M 144 2) - (1 : Int32)).toNatClampNeg) 3)) (146 + ((gi M 144 2) - (1 : Int32)).toNatClampNeg) 1)).bind fun _ => (L_X6_catchAt (gr (si M 144 4 (gi M (146 + ((gi M 144 2) - (1 : Int32)).toNatClampNeg) 3)) (146 + ((gi M 144 2) - (1 : Int32)).toNatClampNeg) 1) (gi (si M 144 4 (gi M (146 + ((gi M 144 2) - (1 : Int32)).toNatClampNeg) 3)) (146 + ((gi M 144 2) - (1 : Int32)).toNatClampNeg) 2) (si M 144 4 (gi M (146 + ((gi M 144 2) - (1 : Int32)).toNatClampNeg) 3))).bind fun w4 =>
  SJ_X3_unwind_57 (SJ_X3_unwind_2 n) v1 v2 (((gi M 144 2) - (1 : Int32)).toNatClampNeg) w4.1 w4.2))))
theorem eqJ_X3_unwind_2 : ∀ (n : Nat) (v1 : Int32) (v2 : Int32) (M : Mem), FSC M → J_X3_unwind_2 n (some 144) v1 v2 M = SJ_X3_unwind_2 n v1 v2 M := by
  intro n
  induction n with
  | zero => intro v1 v2 M  hF; rfl
  | succ n ih =>
    intro v1 v2 M  hF
    unfold J_X3_unwind_2 SJ_X3_unwind_2
    refine itc (fun _ => ?_) (fun _ => ?_)
    · rfl
    · refine (bi_fI (hF.hk 144)).trans ?_
      refine itc (fun _ => ?_) (fun _ => ?_)
      · rfl
      · refine (bi_fR (hF.hk 144) (hF.hg 144 1 145)).trans ?_
        refine (bi_fI (hF.hk 144)).trans ?_
        refine (hF.aF).trans ?_
        refine gd_congr (fun g3 => ?_)
        have h3 := inb_lt g3
        refine (bi_fI (hF.kdF h3)).trans ?_
        refine (bi_pI (hF.hk 144)).trans ?_
        have hF : FSC (si M 144 4 (gi M (146 + ((gi M 144 2) - (1 : Int32)).toNatClampNeg) 3)) := hF.kc kc_si
        refine (bi_fI (hF.kdF h3)).trans ?_
        refine itc (fun _ => ?_) (fun _ => ?_)
        · exact eqJ_X3_unwind_57 ih h3 hF
        · refine (bi_fR (hF.kdF h3) rfl).trans ?_
          refine (bi_fI (hF.kdF h3)).trans ?_
          refine bdc rfl (fun _ _ => ?_)
          refine bdc rfl (fun w4 hw => ?_)
          have hF := hF.kc (keep_X6_catchAt hw)
          exact eqJ_X3_unwind_57 ih h3 hF
def S_X3_unwind (v1 : Int32) (M : Mem) : Option (Int32 × Mem) :=
  SJ_X3_unwind_2 FU v1 (0 : Int32) M
theorem eqS_X3_unwind {M : Mem} {v1 : Int32} (hF : FSC M) : L_X3_unwind (some 144) v1 M = S_X3_unwind v1 M := by
  unfold L_X3_unwind S_X3_unwind
  exact eqJ_X3_unwind_2 FU _ _ _ hF
def SJ_X3_run_67 (k_4 : Int32 → Int32 → Mem → Option (Int32 × Mem)) (v1 : Int32) (v2 : Int32) (M : Mem) : Option (Int32 × Mem) :=
  k_4 v1 (v2 + 1) M
theorem eqJ_X3_run_67 {M : Mem} {k_4 : Option Nat → Int32 → Int32 → Mem → Option (Int32 × Mem)} {q_4 : Int32 → Int32 → Mem → Option (Int32 × Mem)} (hk_4 : ∀ (v1 : Int32) (v2 : Int32) (Ma : Mem), FSC Ma → k_4 (some 144) v1 v2 Ma = q_4 v1 v2 Ma) {v1 : Int32} {v2 : Int32} (hF : FSC M) : J_X3_run_67 k_4 (some 144) v1 v2 M = SJ_X3_run_67 q_4 v1 v2 M := by
  unfold J_X3_run_67 SJ_X3_run_67
  exact hk_4 _ _ _ hF
def SJ_X3_run_4 : Nat → Int32 → Int32 → Mem → Option (Int32 × Mem)
  | 0 => fun _ _ _ => none
  | n + 1 => fun v1 v2 M =>
  if (1000000 : Int32) ≤ v2 then
  (some (v1, M))
  else
  (if (gi M 144 2) ≤ 0 then
  (some (v1, M))
  else
  (gd (inb ((gi M 144 2) - (1 : Int32)) 31) (
  (S_X3_advance (((gi M 144 2) - (1 : Int32)).toNatClampNeg) M).bind fun w2 =>
  if ¬ w2.1 = 0 then
  (if w2.1 = (-1 : Int32) then
  (SJ_X3_run_67 (SJ_X3_run_4 n) v1 v2 w2.2)
  else
  ((S_X3_unwind w2.1 w2.2).bind fun w3 =>
  SJ_X3_run_67 (SJ_X3_run_4 n) w3.1 v2 w3.2))
  else
  (SJ_X3_run_67 (SJ_X3_run_4 n) v1 v2 (si w2.2 (146 + ((gi M 144 2) - (1 : Int32)).toNatClampNeg) 2 ((gi w2.2 (146 + ((gi M 144 2) - (1 : Int32)).toNatClampNeg) 2) + (1 : Int32)))))))
theorem eqJ_X3_run_4 : ∀ (n : Nat) (v1 : Int32) (v2 : Int32) (M : Mem), FSC M → J_X3_run_4 n (some 144) v1 v2 M = SJ_X3_run_4 n v1 v2 M := by
  intro n
  induction n with
  | zero => intro v1 v2 M  hF; rfl
  | succ n ih =>
    intro v1 v2 M  hF
    unfold J_X3_run_4 SJ_X3_run_4
    refine itc (fun _ => ?_) (fun _ => ?_)
    · rfl
    · refine (bi_fI (hF.hk 144)).trans ?_
      refine itc (fun _ => ?_) (fun _ => ?_)
      · rfl
      · refine (bi_fR (hF.hk 144) (hF.hg 144 1 145)).trans ?_
        refine (bi_fI (hF.hk 144)).trans ?_
        refine (hF.aF).trans ?_
        refine gd_congr (fun g1 => ?_)
        have h1 := inb_lt g1
        refine (bi_ck (hF.hk 144)).trans ?_
        refine bdc (eqS_X3_advance h1 hF) (fun w2 hw => ?_)
        have hF := hF.kc (keep_X3_advance hw)
        refine itc (fun _ => ?_) (fun _ => ?_)
        · refine itc (fun _ => ?_) (fun _ => ?_)
          · exact eqJ_X3_run_67 ih hF
          · refine (bi_ck (hF.hk 144)).trans ?_
            refine bdc (eqS_X3_unwind hF) (fun w3 hw => ?_)
            have hF := hF.kc (keep_X3_unwind hw)
            exact eqJ_X3_run_67 ih hF
        · refine (bi_fI (hF.kdF h1)).trans ?_
          refine (bi_pI (hF.kdF h1)).trans ?_
          have hF : FSC (si w2.2 (146 + ((gi M 144 2) - (1 : Int32)).toNatClampNeg) 2 ((gi w2.2 (146 + ((gi M 144 2) - (1 : Int32)).toNatClampNeg) 2) + (1 : Int32))) := hF.kc kc_si
          exact eqJ_X3_run_67 ih hF
def S_X3_run  (M : Mem) : Option (Int32 × Mem) :=
  SJ_X3_run_4 FU (0 : Int32) (0 : Int32) M
theorem eqS_X3_run {M : Mem} (hF : FSC M) : L_X3_run (some 144) M = S_X3_run  M := by
  unfold L_X3_run S_X3_run
  exact eqJ_X3_run_4 FU _ _ _ hF
def S_X3_summon (v1 : Int32) (M : Mem) : Option (Int32 × Mem) :=
  (S_X3_demand v1 (si (si M 144 2 (0 : Int32)) 144 4 (0 : Int32))).bind fun w1 =>
  if ¬ w1.1 = (-1 : Int32) then
  (some (w1.1, w1.2))
  else
  ((S_X3_run w1.2).bind fun w2 =>
  some (w2.1, w2.2))
theorem eqS_X3_summon {M : Mem} {v1 : Int32} (hF : FSC M) : L_X3_summon (some 144) v1 M = S_X3_summon v1 M := by
  unfold L_X3_summon S_X3_summon
  refine (bi_pI (hF.hk 144)).trans ?_
  have hF : FSC (si M 144 2 (0 : Int32)) := hF.kc kc_si
  refine (bi_pI (hF.hk 144)).trans ?_
  have hF : FSC (si (si M 144 2 (0 : Int32)) 144 4 (0 : Int32)) := hF.kc kc_si
  refine (bi_ck (hF.hk 144)).trans ?_
  refine bdc (eqS_X3_demand hF) (fun w1 hw => ?_)
  have hF := hF.kc (keep_X3_demand hw)
  refine itc (fun _ => ?_) (fun _ => ?_)
  · rfl
  · refine (bi_ck (hF.hk 144)).trans ?_
    refine bdc (eqS_X3_run hF) (fun w2 hw => ?_)
    have hF := hF.kc (keep_X3_run hw)
    rfl
def S_X3_prepare (v1 : Option Nat) (v2 : Int32) (M : Mem) : Option (Unit × Mem) :=
  (fI M 9 0 v1).bind fun x1 =>
  gd (inb (0 : Int32) 4) (
  (fI (sl M 178 (0 : Int32).toNatClampNeg x1.toInt64) 9 1 v1).bind fun x2 =>
  gd (inb (1 : Int32) 4) (
  (fR (sl (sl M 178 (0 : Int32).toNatClampNeg x1.toInt64) 178 (1 : Int32).toNatClampNeg x2.toInt64) 9 3 v1).bind fun x3 =>
  (aI (sl (sl M 178 (0 : Int32).toNatClampNeg x1.toInt64) 178 (1 : Int32).toNatClampNeg x2.toInt64) 20 x3 v2).bind fun x4 =>
  gd (inb (2 : Int32) 4) (
  (fR (sl (sl (sl M 178 (0 : Int32).toNatClampNeg x1.toInt64) 178 (1 : Int32).toNatClampNeg x2.toInt64) 178 (2 : Int32).toNatClampNeg x4.toInt64) 9 5 v1).bind fun x5 =>
  (aI (sl (sl (sl M 178 (0 : Int32).toNatClampNeg x1.toInt64) 178 (1 : Int32).toNatClampNeg x2.toInt64) 178 (2 : Int32).toNatClampNeg x4.toInt64) 20 x5 v2).bind fun x6 =>
  gd (inb (3 : Int32) 4) (
  some ((), sl (sl (sl (sl M 178 (0 : Int32).toNatClampNeg x1.toInt64) 178 (1 : Int32).toNatClampNeg x2.toInt64) 178 (2 : Int32).toNatClampNeg x4.toInt64) 178 (3 : Int32).toNatClampNeg x6.toInt64)))))
theorem eqS_X3_prepare {M : Mem} {v1 : Option Nat} {v2 : Int32} (hF : FSC M) : L_X3_prepare (some 144) v1 v2 M = S_X3_prepare v1 v2 M := by
  unfold L_X3_prepare S_X3_prepare
  refine (bi_fR (hF.hk 144) (hF.hg 144 5 178)).trans ?_
  refine bdc rfl (fun x1 _ => ?_)
  refine (bi_uL (hF.hk 178) (hF.hl 178)).trans ?_
  refine gd_congr (fun _ => ?_)
  have hF : FSC (sl M 178 (0 : Int32).toNatClampNeg x1.toInt64) := hF.kc kc_sl
  refine (bi_fR (hF.hk 144) (hF.hg 144 5 178)).trans ?_
  refine bdc rfl (fun x2 _ => ?_)
  refine (bi_uL (hF.hk 178) (hF.hl 178)).trans ?_
  refine gd_congr (fun _ => ?_)
  have hF : FSC (sl (sl M 178 (0 : Int32).toNatClampNeg x1.toInt64) 178 (1 : Int32).toNatClampNeg x2.toInt64) := hF.kc kc_sl
  refine (bi_fR (hF.hk 144) (hF.hg 144 5 178)).trans ?_
  refine bdc rfl (fun x3 _ => ?_)
  refine bdc rfl (fun x4 _ => ?_)
  refine (bi_uL (hF.hk 178) (hF.hl 178)).trans ?_
  refine gd_congr (fun _ => ?_)
  have hF : FSC (sl (sl (sl M 178 (0 : Int32).toNatClampNeg x1.toInt64) 178 (1 : Int32).toNatClampNeg x2.toInt64) 178 (2 : Int32).toNatClampNeg x4.toInt64) := hF.kc kc_sl
  refine (bi_fR (hF.hk 144) (hF.hg 144 5 178)).trans ?_
  refine bdc rfl (fun x5 _ => ?_)
  refine bdc rfl (fun x6 _ => ?_)
  refine (bi_uL (hF.hk 178) (hF.hl 178)).trans ?_
  refine gd_congr (fun _ => ?_)
  have hF : FSC (sl (sl (sl (sl M 178 (0 : Int32).toNatClampNeg x1.toInt64) 178 (1 : Int32).toNatClampNeg x2.toInt64) 178 (2 : Int32).toNatClampNeg x4.toInt64) 178 (3 : Int32).toNatClampNeg x6.toInt64) := hF.kc kc_sl
  rfl
def S_X3_workRule (v1 : Int32) (M : Mem) : Option (Int32 × Mem) :=
  (S_X1_find (2 : Int32) (v1.toInt64 <<< ((40 : Int32).toInt64 &&& 63)) M).bind fun w1 =>
  if ¬ w1.1 = (-1 : Int32) then
  (gd (inb (w1.1 / (8 : Int32)) 30) (
  if ¬ (gr w1.2 (21 + 4 * (w1.1 / (8 : Int32)).toNatClampNeg) 0) = none then
  ((fI (sl (si (si w1.2 144 2 (0 : Int32)) 144 4 (0 : Int32)) 144 6 (0 : Int64)) 6 3 (gr w1.2 (21 + 4 * (w1.1 / (8 : Int32)).toNatClampNeg) 0)).bind fun x3 =>
  (S_X3_open (w1.1 / (8 : Int32)) (gr w1.2 (21 + 4 * (w1.1 / (8 : Int32)).toNatClampNeg) 0) x3 (0 : Int32) (sl (si (si w1.2 144 2 (0 : Int32)) 144 4 (0 : Int32)) 144 6 (0 : Int64))).bind fun w4 =>
  (S_X3_run w4.2).bind fun w5 =>
  some (w5.1, w5.2))
  else
  (some ((802 : Int32), w1.2))))
  else
  (some ((802 : Int32), w1.2))
theorem eqS_X3_workRule {M : Mem} {v1 : Int32} (hF : FSC M) : L_X3_workRule (some 144) v1 M = S_X3_workRule v1 M := by
  unfold L_X3_workRule S_X3_workRule
  refine (bi_fR (hF.hk 144) (hF.hg 144 0 18)).trans ?_
  refine (bi_ck (hF.hk 18)).trans ?_
  refine bdc (eqS_X1_find hF) (fun w1 hw => ?_)
  have hF := hF.kc (keep_X1_find hw)
  refine itc (fun _ => ?_) (fun _ => ?_)
  · refine (bi_fR (hF.hk 144) (hF.hg 144 0 18)).trans ?_
    refine (bi_fR (hF.hk 18) (hF.hg 18 1 20)).trans ?_
    refine (if_neg (by decide)).trans ?_
    refine (hF.aT).trans ?_
    refine gd_congr (fun g2 => ?_)
    have h2 := inb_lt g2
    refine (bi_fR (hF.kdT21 h2) rfl).trans ?_
    refine itc (fun _ => ?_) (fun _ => ?_)
    · refine (bi_pI (hF.hk 144)).trans ?_
      have hF : FSC (si w1.2 144 2 (0 : Int32)) := hF.kc kc_si
      refine (bi_pI (hF.hk 144)).trans ?_
      have hF : FSC (si (si w1.2 144 2 (0 : Int32)) 144 4 (0 : Int32)) := hF.kc kc_si
      refine (bi_pL (hF.hk 144)).trans ?_
      have hF : FSC (sl (si (si w1.2 144 2 (0 : Int32)) 144 4 (0 : Int32)) 144 6 (0 : Int64)) := hF.kc kc_sl
      refine (if_neg (by decide)).trans ?_
      refine bdc rfl (fun x3 _ => ?_)
      refine (bi_ck (hF.hk 144)).trans ?_
      refine bdc (eqS_X3_open hF) (fun w4 hw => ?_)
      have hF := hF.kc (keep_X3_open hw)
      refine (bi_ck (hF.hk 144)).trans ?_
      refine bdc (eqS_X3_run hF) (fun w5 hw => ?_)
      have hF := hF.kc (keep_X3_run hw)
      rfl
    · rfl
  · rfl
def SJ_X3_charge_64 (k_10 : Option Nat → Int64 → Int32 → Mem → Option (Int32 × Mem)) (v1 : Option Nat) (v2 : Int64) (v4 : Int32) (v5 : Int32) (M : Mem) : Option (Int32 × Mem) :=
  if v5 = 0 then
  ((fR M 9 6 v1).bind fun x1 =>
  (uL M 21 x1 v4 (gl M 144 6)).bind fun M2 =>
  k_10 v1 (v2 + (gl M2 144 6)) (v4 + 1) M2)
  else
  (some (v5, M))
theorem eqJ_X3_charge_64 {M : Mem} {k_10 : Option Nat → Option Nat → Int64 → Int32 → Mem → Option (Int32 × Mem)} {q_10 : Option Nat → Int64 → Int32 → Mem → Option (Int32 × Mem)} (hk_10 : ∀ (v1 : Option Nat) (v2 : Int64) (v4 : Int32) (Ma : Mem), FSC Ma → k_10 (some 144) v1 v2 v4 Ma = q_10 v1 v2 v4 Ma) {v1 : Option Nat} {v2 : Int64} {v4 : Int32} {v5 : Int32} (hF : FSC M) : J_X3_charge_64 k_10 (some 144) v1 v2 v4 v5 M = SJ_X3_charge_64 q_10 v1 v2 v4 v5 M := by
  unfold J_X3_charge_64 SJ_X3_charge_64
  refine itc (fun _ => ?_) (fun _ => ?_)
  · refine bdc rfl (fun x1 _ => ?_)
    refine (bi_fL (hF.hk 144)).trans ?_
    refine bdc rfl (fun M2 hw => ?_)
    have hF := hF.kc (kc_uL hw)
    refine (bi_fL (hF.hk 144)).trans ?_
    exact hk_10 _ _ _ _ hF
  · rfl
def SJ_X3_charge_96 (v1 : Option Nat) (v2 : Int64) (M : Mem) : Option (Int32 × Mem) :=
  (pL M 9 7 v1 v2).bind fun M3 =>
  (fI M3 9 2 v1).bind fun x4 =>
  (pI M3 9 8 v1 x4).bind fun M5 =>
  some ((0 : Int32), M5)
theorem eqJ_X3_charge_96 {M : Mem} {v1 : Option Nat} {v2 : Int64} (hF : FSC M) : J_X3_charge_96 v1 v2 M = SJ_X3_charge_96 v1 v2 M := by
  unfold J_X3_charge_96 SJ_X3_charge_96
  refine bdc rfl (fun M3 hw => ?_)
  have hF := hF.kc (kc_pL hw)
  refine bdc rfl (fun x4 _ => ?_)
  refine bdc rfl (fun M5 hw => ?_)
  have hF := hF.kc (kc_pI hw)
  rfl
def SJ_X3_charge_10 : Nat → Option Nat → Int64 → Int32 → Mem → Option (Int32 × Mem)
  | 0 => fun _ _ _ _ => none
  | n + 1 => fun v1 v2 v4 M =>
  (fI M 9 2 v1).bind fun x6 =>
  if x6 ≤ v4 then
  (SJ_X3_charge_96 v1 v2 M)
  else
  (if (8 : Int32) ≤ v4 then
  (SJ_X3_charge_96 v1 v2 M)
  else
  ((fR M 9 4 v1).bind fun x7 =>
  (aI M 20 x7 v4).bind fun x8 =>
  (S_X3_summon x8 M).bind fun w9 =>
  if ¬ w9.1 = 0 then
  (SJ_X3_charge_64 (SJ_X3_charge_10 n) v1 v2 v4 w9.1 w9.2)
  else
  ((S_X3_prepare v1 v4 w9.2).bind fun w10 =>
  (fR w10.2 9 4 v1).bind fun x11 =>
  (aI w10.2 20 x11 v4).bind fun x12 =>
  (S_X3_workRule x12 w10.2).bind fun w13 =>
  SJ_X3_charge_64 (SJ_X3_charge_10 n) v1 v2 v4 w13.1 w13.2)))
theorem eqJ_X3_charge_10 : ∀ (n : Nat) (v1 : Option Nat) (v2 : Int64) (v4 : Int32) (M : Mem), FSC M → J_X3_charge_10 n (some 144) v1 v2 v4 M = SJ_X3_charge_10 n v1 v2 v4 M := by
  intro n
  induction n with
  | zero => intro v1 v2 v4 M  hF; rfl
  | succ n ih =>
    intro v1 v2 v4 M  hF
    unfold J_X3_charge_10 SJ_X3_charge_10
    refine bdc rfl (fun x6 _ => ?_)
    refine itc (fun _ => ?_) (fun _ => ?_)
    · exact eqJ_X3_charge_96 hF
    · refine itc (fun _ => ?_) (fun _ => ?_)
      · exact eqJ_X3_charge_96 hF
      · refine bdc rfl (fun x7 _ => ?_)
        refine bdc rfl (fun x8 _ => ?_)
        refine (bi_ck (hF.hk 144)).trans ?_
        refine bdc (eqS_X3_summon hF) (fun w9 hw => ?_)
        have hF := hF.kc (keep_X3_summon hw)
        refine itc (fun _ => ?_) (fun _ => ?_)
        · exact eqJ_X3_charge_64 ih hF
        · refine (bi_ck (hF.hk 144)).trans ?_
          refine bdc (eqS_X3_prepare hF) (fun w10 hw => ?_)
          have hF := hF.kc (keep_X3_prepare hw)
          refine bdc rfl (fun x11 _ => ?_)
          refine bdc rfl (fun x12 _ => ?_)
          refine (bi_ck (hF.hk 144)).trans ?_
          refine bdc (eqS_X3_workRule hF) (fun w13 hw => ?_)
          have hF := hF.kc (keep_X3_workRule hw)
          exact eqJ_X3_charge_64 ih hF
def S_X3_charge (v1 : Option Nat) (M : Mem) : Option (Int32 × Mem) :=
  (pI M 9 8 v1 (0 : Int32)).bind fun M14 =>
  SJ_X3_charge_10 FU v1 (0 : Int64) (0 : Int32) M14
theorem eqS_X3_charge {M : Mem} {v1 : Option Nat} (hF : FSC M) : L_X3_charge (some 144) v1 M = S_X3_charge v1 M := by
  unfold L_X3_charge S_X3_charge
  refine bdc rfl (fun M14 hw => ?_)
  have hF := hF.kc (kc_pI hw)
  exact eqJ_X3_charge_10 FU _ _ _ _ hF
def SJ_X7_rowEnd_3 : Nat → Int32 → Int32 → Int32 → Mem → Option (Int32 × Mem)
  | 0 => fun _ _ _ _ => none
  | n + 1 => fun v2 v3 v4 M =>
  if (gi M 1 1) ≤ v4 then
  (some (v4, M))
  else
  (gd (inb v4 900) (
  if (gi M 2 v4.toNatClampNeg) < v2 then
  (some (v4, M))
  else
  (gd (inb v4 900) (
  if v3 < (gi M 2 v4.toNatClampNeg) then
  (some (v4, M))
  else
  (SJ_X7_rowEnd_3 n v2 v3 (v4 + 1) M)))))
theorem eqJ_X7_rowEnd_3 : ∀ (n : Nat) (v2 : Int32) (v3 : Int32) (v4 : Int32) (M : Mem), FSC M → J_X7_rowEnd_3 n (some 1) v2 v3 v4 M = SJ_X7_rowEnd_3 n v2 v3 v4 M := by
  intro n
  induction n with
  | zero => intro v2 v3 v4 M  hF; rfl
  | succ n ih =>
    intro v2 v3 v4 M  hF
    unfold J_X7_rowEnd_3 SJ_X7_rowEnd_3
    refine (bi_fI (hF.hk 1)).trans ?_
    refine itc (fun _ => ?_) (fun _ => ?_)
    · rfl
    · refine (bi_fR (hF.hk 1) (hF.hg 1 0 2)).trans ?_
      refine (bi_aI (hF.hk 2) (hF.hl 2)).trans ?_
      refine gd_congr (fun _ => ?_)
      refine itc (fun _ => ?_) (fun _ => ?_)
      · rfl
      · refine (bi_fR (hF.hk 1) (hF.hg 1 0 2)).trans ?_
        refine (bi_aI (hF.hk 2) (hF.hl 2)).trans ?_
        refine gd_congr (fun _ => ?_)
        refine itc (fun _ => ?_) (fun _ => ?_)
        · rfl
        · exact ih _ _ _ _ hF
def S_X7_rowEnd (v1 : Int32) (v2 : Int32) (v3 : Int32) (M : Mem) : Option (Int32 × Mem) :=
  SJ_X7_rowEnd_3 FU v2 v3 v1 M
theorem eqS_X7_rowEnd {M : Mem} {v1 : Int32} {v2 : Int32} {v3 : Int32} (hF : FSC M) : L_X7_rowEnd (some 1) v1 v2 v3 M = S_X7_rowEnd v1 v2 v3 M := by
  unfold L_X7_rowEnd S_X7_rowEnd
  exact eqJ_X7_rowEnd_3 FU _ _ _ _ hF
def S_X7_add (v1 : Int32) (v2 : Int32) (v3 : Int64) (M : Mem) : Option (Unit × Mem) :=
  if (901 : Int32) ≤ (gi M 1 5) then
  (some ((), M))
  else
  (gd (inb (gi M 1 5) 901) (
  gd (inb (gi (si M 3 (gi M 1 5).toNatClampNeg v1) 1 5) 901) (
  gd (inb (gi (si (si M 3 (gi M 1 5).toNatClampNeg v1) 4 (gi (si M 3 (gi M 1 5).toNatClampNeg v1) 1 5).toNatClampNeg v2) 1 5) 901) (
  some ((), si (sl (si (si M 3 (gi M 1 5).toNatClampNeg v1) 4 (gi (si M 3 (gi M 1 5).toNatClampNeg v1) 1 5).toNatClampNeg v2) 5 (gi (si (si M 3 (gi M 1 5).toNatClampNeg v1) 4 (gi (si M 3 (gi M 1 5).toNatClampNeg v1) 1 5).toNatClampNeg v2) 1 5).toNatClampNeg v3) 1 5 ((gi (sl (si (si M 3 (gi M 1 5).toNatClampNeg v1) 4 (gi (si M 3 (gi M 1 5).toNatClampNeg v1) 1 5).toNatClampNeg v2) 5 (gi (si (si M 3 (gi M 1 5).toNatClampNeg v1) 4 (gi (si M 3 (gi M 1 5).toNatClampNeg v1) 1 5).toNatClampNeg v2) 1 5).toNatClampNeg v3) 1 5) + (1 : Int32)))))))
theorem eqS_X7_add {M : Mem} {v1 : Int32} {v2 : Int32} {v3 : Int64} (hF : FSC M) : L_X7_add (some 1) v1 v2 v3 M = S_X7_add v1 v2 v3 M := by
  unfold L_X7_add S_X7_add
  refine (bi_fI (hF.hk 1)).trans ?_
  refine (bi_fR (hF.hk 1) (hF.hg 1 2 3)).trans ?_
  refine (bi_aN (n := 901) (hF.hk 3) (by decide) (by decide) (hF.hl 3)).trans ?_
  refine itc (fun _ => ?_) (fun _ => ?_)
  · rfl
  · refine (bi_fR (hF.hk 1) (hF.hg 1 2 3)).trans ?_
    refine (bi_fI (hF.hk 1)).trans ?_
    refine (bi_uI (hF.hk 3) (hF.hl 3)).trans ?_
    refine gd_congr (fun _ => ?_)
    have hF : FSC (si M 3 (gi M 1 5).toNatClampNeg v1) := hF.kc kc_si
    refine (bi_fR (hF.hk 1) (hF.hg 1 3 4)).trans ?_
    refine (bi_fI (hF.hk 1)).trans ?_
    refine (bi_uI (hF.hk 4) (hF.hl 4)).trans ?_
    refine gd_congr (fun _ => ?_)
    have hF : FSC (si (si M 3 (gi M 1 5).toNatClampNeg v1) 4 (gi (si M 3 (gi M 1 5).toNatClampNeg v1) 1 5).toNatClampNeg v2) := hF.kc kc_si
    refine (bi_fR (hF.hk 1) (hF.hg 1 4 5)).trans ?_
    refine (bi_fI (hF.hk 1)).trans ?_
    refine (bi_uL (hF.hk 5) (hF.hl 5)).trans ?_
    refine gd_congr (fun _ => ?_)
    have hF : FSC (sl (si (si M 3 (gi M 1 5).toNatClampNeg v1) 4 (gi (si M 3 (gi M 1 5).toNatClampNeg v1) 1 5).toNatClampNeg v2) 5 (gi (si (si M 3 (gi M 1 5).toNatClampNeg v1) 4 (gi (si M 3 (gi M 1 5).toNatClampNeg v1) 1 5).toNatClampNeg v2) 1 5).toNatClampNeg v3) := hF.kc kc_sl
    refine (bi_fI (hF.hk 1)).trans ?_
    refine (bi_pI (hF.hk 1)).trans ?_
    have hF : FSC (si (sl (si (si M 3 (gi M 1 5).toNatClampNeg v1) 4 (gi (si M 3 (gi M 1 5).toNatClampNeg v1) 1 5).toNatClampNeg v2) 5 (gi (si (si M 3 (gi M 1 5).toNatClampNeg v1) 4 (gi (si M 3 (gi M 1 5).toNatClampNeg v1) 1 5).toNatClampNeg v2) 1 5).toNatClampNeg v3) 1 5 ((gi (sl (si (si M 3 (gi M 1 5).toNatClampNeg v1) 4 (gi (si M 3 (gi M 1 5).toNatClampNeg v1) 1 5).toNatClampNeg v2) 5 (gi (si (si M 3 (gi M 1 5).toNatClampNeg v1) 4 (gi (si M 3 (gi M 1 5).toNatClampNeg v1) 1 5).toNatClampNeg v2) 1 5).toNatClampNeg v3) 1 5) + (1 : Int32))) := hF.kc kc_si
    rfl
def SJ_X7_addName_74 (v1 : Int32) (v3 : Int64) (s1 : Int32) (M : Mem) : Option (Unit × Mem) :=
  (S_X7_add s1 v1 v3 M).bind fun w1 =>
  some ((), w1.2)
theorem eqJ_X7_addName_74 {M : Mem} {v1 : Int32} {v3 : Int64} {s1 : Int32} (hF : FSC M) : J_X7_addName_74 v1 v3 (some 1) s1 M = SJ_X7_addName_74 v1 v3 s1 M := by
  unfold J_X7_addName_74 SJ_X7_addName_74
  refine (bi_ck (hF.hk 1)).trans ?_
  refine bdc (eqS_X7_add hF) (fun w1 hw => ?_)
  have hF := hF.kc (keep_X7_add hw)
  rfl
def SJ_X7_addName_21 : Nat → Int32 → Int32 → Int64 → Int32 → Mem → Option (Unit × Mem)
  | 0 => fun _ _ _ _ _ => none
  | n + 1 => fun v1 v2 v3 v5 M =>
  if v2 ≤ v5 then
  ((L_X10_positionOf (some 6) (12 : Int32) v3 M).bind fun w2 =>
  if ¬ w2.1 = (-1 : Int32) then
  (SJ_X7_addName_74 v1 v3 ((300 : Int32) + w2.1) w2.2)
  else
  (SJ_X7_addName_74 v1 v3 (2 : Int32) w2.2))
  else
  (gd (inb v5 900) (
  (L_X7_withLetter v3 (gi M 2 v5.toNatClampNeg) M).bind fun w3 =>
  SJ_X7_addName_21 n v1 v2 w3.1 (v5 + 1) w3.2))
theorem eqJ_X7_addName_21 : ∀ (n : Nat) (v1 : Int32) (v2 : Int32) (v3 : Int64) (v5 : Int32) (M : Mem), FSC M → J_X7_addName_21 n (some 1) v1 v2 v3 v5 M = SJ_X7_addName_21 n v1 v2 v3 v5 M := by
  intro n
  induction n with
  | zero => intro v1 v2 v3 v5 M  hF; rfl
  | succ n ih =>
    intro v1 v2 v3 v5 M  hF
    unfold J_X7_addName_21 SJ_X7_addName_21
    refine itc (fun _ => ?_) (fun _ => ?_)
    · refine (bi_fR (hF.hk 1) (hF.hg 1 6 6)).trans ?_
      refine bdc rfl (fun w2 hw => ?_)
      have hF := hF.kc (keep_X10_positionOf hw)
      refine itc (fun _ => ?_) (fun _ => ?_)
      · exact eqJ_X7_addName_74 hF
      · exact eqJ_X7_addName_74 hF
    · refine (bi_fR (hF.hk 1) (hF.hg 1 0 2)).trans ?_
      refine (bi_aI (hF.hk 2) (hF.hl 2)).trans ?_
      refine gd_congr (fun _ => ?_)
      refine bdc rfl (fun w3 hw => ?_)
      have hF := hF.kc (keep_X7_withLetter hw)
      exact ih _ _ _ _ _ hF
def S_X7_addName (v1 : Int32) (v2 : Int32) (M : Mem) : Option (Unit × Mem) :=
  if (v2 - v1) ≤ (8 : Int32) then
  (SJ_X7_addName_21 FU v1 v2 (0 : Int64) v1 M)
  else
  ((S_X7_add (1 : Int32) v1 (0 : Int64) M).bind fun w4 =>
  some ((), w4.2))
theorem eqS_X7_addName {M : Mem} {v1 : Int32} {v2 : Int32} (hF : FSC M) : L_X7_addName (some 1) v1 v2 M = S_X7_addName v1 v2 M := by
  unfold L_X7_addName S_X7_addName
  refine itc (fun _ => ?_) (fun _ => ?_)
  · exact eqJ_X7_addName_21 FU _ _ _ _ _ hF
  · refine (bi_ck (hF.hk 1)).trans ?_
    refine bdc (eqS_X7_add hF) (fun w4 hw => ?_)
    have hF := hF.kc (keep_X7_add hw)
    rfl
def SJ_X7_addNumber_21 : Nat → Int32 → Int32 → Int64 → Int32 → Mem → Option (Unit × Mem)
  | 0 => fun _ _ _ _ _ => none
  | n + 1 => fun v1 v2 v3 v5 M =>
  if v2 ≤ v5 then
  ((S_X7_add (3 : Int32) v1 v3 M).bind fun w1 =>
  some ((), w1.2))
  else
  (gd (inb v5 900) (
  SJ_X7_addNumber_21 n v1 v2 ((v3 * (10 : Int64)) + (((gi M 2 v5.toNatClampNeg) - (48 : Int32)).toInt64)) (v5 + 1) M))
theorem eqJ_X7_addNumber_21 : ∀ (n : Nat) (v1 : Int32) (v2 : Int32) (v3 : Int64) (v5 : Int32) (M : Mem), FSC M → J_X7_addNumber_21 n (some 1) v1 v2 v3 v5 M = SJ_X7_addNumber_21 n v1 v2 v3 v5 M := by
  intro n
  induction n with
  | zero => intro v1 v2 v3 v5 M  hF; rfl
  | succ n ih =>
    intro v1 v2 v3 v5 M  hF
    unfold J_X7_addNumber_21 SJ_X7_addNumber_21
    refine itc (fun _ => ?_) (fun _ => ?_)
    · refine (bi_ck (hF.hk 1)).trans ?_
      refine bdc (eqS_X7_add hF) (fun w1 hw => ?_)
      have hF := hF.kc (keep_X7_add hw)
      rfl
    · refine (bi_fR (hF.hk 1) (hF.hg 1 0 2)).trans ?_
      refine (bi_aI (hF.hk 2) (hF.hl 2)).trans ?_
      refine gd_congr (fun _ => ?_)
      exact ih _ _ _ _ _ hF
def S_X7_addNumber (v1 : Int32) (v2 : Int32) (M : Mem) : Option (Unit × Mem) :=
  if (v2 - v1) ≤ (9 : Int32) then
  (SJ_X7_addNumber_21 FU v1 v2 (0 : Int64) v1 M)
  else
  ((S_X7_add (1 : Int32) v1 (0 : Int64) M).bind fun w2 =>
  some ((), w2.2))
theorem eqS_X7_addNumber {M : Mem} {v1 : Int32} {v2 : Int32} (hF : FSC M) : L_X7_addNumber (some 1) v1 v2 M = S_X7_addNumber v1 v2 M := by
  unfold L_X7_addNumber S_X7_addNumber
  refine itc (fun _ => ?_) (fun _ => ?_)
  · exact eqJ_X7_addNumber_21 FU _ _ _ _ _ hF
  · refine (bi_ck (hF.hk 1)).trans ?_
    refine bdc (eqS_X7_add hF) (fun w2 hw => ?_)
    have hF := hF.kc (keep_X7_add hw)
    rfl
def SJ_X7_cutOne_19 (v1 : Int32) (M : Mem) : Option (Int32 × Mem) :=
  some (v1 + (1 : Int32), M)
theorem eqJ_X7_cutOne_19 {M : Mem} {v1 : Int32} (hF : FSC M) : J_X7_cutOne_19 v1 M = SJ_X7_cutOne_19 v1 M := by
  unfold J_X7_cutOne_19 SJ_X7_cutOne_19
  rfl
def SJ_X7_cutOne_84 (v1 : Int32) (s1 : Int32) (M : Mem) : Option (Int32 × Mem) :=
  (S_X7_add s1 v1 (0 : Int64) M).bind fun w1 =>
  some (v1 + (1 : Int32), w1.2)
theorem eqJ_X7_cutOne_84 {M : Mem} {v1 : Int32} {s1 : Int32} (hF : FSC M) : J_X7_cutOne_84 v1 (some 1) s1 M = SJ_X7_cutOne_84 v1 s1 M := by
  unfold J_X7_cutOne_84 SJ_X7_cutOne_84
  refine (bi_ck (hF.hk 1)).trans ?_
  refine bdc (eqS_X7_add hF) (fun w1 hw => ?_)
  have hF := hF.kc (keep_X7_add hw)
  rfl
def S_X7_cutOne (v1 : Int32) (M : Mem) : Option (Int32 × Mem) :=
  gd (inb v1 900) (
  if (gi M 2 v1.toNatClampNeg) = (32 : Int32) then
  (SJ_X7_cutOne_19 v1 M)
  else
  (if ¬ (gi M 2 v1.toNatClampNeg) = (10 : Int32) then
  ((S_X7_rowEnd v1 (97 : Int32) (122 : Int32) M).bind fun w2 =>
  if w2.1 ≤ v1 then
  ((S_X7_rowEnd v1 (48 : Int32) (57 : Int32) w2.2).bind fun w3 =>
  if w3.1 ≤ v1 then
  (if (sgIx (gi M 2 v1.toNatClampNeg)) < 0 then
  (SJ_X7_cutOne_84 v1 (1 : Int32) w3.2)
  else
  (SJ_X7_cutOne_84 v1 (gi M 2 v1.toNatClampNeg) w3.2))
  else
  ((S_X7_addNumber v1 w3.1 w3.2).bind fun w4 =>
  some (w3.1, w4.2)))
  else
  ((S_X7_addName v1 w2.1 w2.2).bind fun w5 =>
  some (w2.1, w5.2)))
  else
  (SJ_X7_cutOne_19 v1 M)))
theorem eqS_X7_cutOne {M : Mem} {v1 : Int32} (hF : FSC M) : L_X7_cutOne (some 1) v1 M = S_X7_cutOne v1 M := by
  unfold L_X7_cutOne S_X7_cutOne
  refine (bi_fR (hF.hk 1) (hF.hg 1 0 2)).trans ?_
  refine (bi_aI (hF.hk 2) (hF.hl 2)).trans ?_
  refine gd_congr (fun _ => ?_)
  refine itc (fun _ => ?_) (fun _ => ?_)
  · exact eqJ_X7_cutOne_19 hF
  · refine itc (fun _ => ?_) (fun _ => ?_)
    · refine (bi_ck (hF.hk 1)).trans ?_
      refine bdc (eqS_X7_rowEnd hF) (fun w2 hw => ?_)
      have hF := hF.kc (keep_X7_rowEnd hw)
      refine itc (fun _ => ?_) (fun _ => ?_)
      · refine (bi_ck (hF.hk 1)).trans ?_
        refine bdc (eqS_X7_rowEnd hF) (fun w3 hw => ?_)
        have hF := hF.kc (keep_X7_rowEnd hw)
        refine itc (fun _ => ?_) (fun _ => ?_)
        · refine itc (fun _ => ?_) (fun _ => ?_)
          · exact eqJ_X7_cutOne_84 hF
          · exact eqJ_X7_cutOne_84 hF
        · refine (bi_ck (hF.hk 1)).trans ?_
          refine bdc (eqS_X7_addNumber hF) (fun w4 hw => ?_)
          have hF := hF.kc (keep_X7_addNumber hw)
          rfl
      · refine (bi_ck (hF.hk 1)).trans ?_
        refine bdc (eqS_X7_addName hF) (fun w5 hw => ?_)
        have hF := hF.kc (keep_X7_addName hw)
        rfl
    · exact eqJ_X7_cutOne_19 hF
def SJ_X7_cut_36  (M : Mem) : Option (Unit × Mem) :=
  (S_X7_add (0 : Int32) (gi M 1 1) (0 : Int64) M).bind fun w1 =>
  some ((), w1.2)
theorem eqJ_X7_cut_36 {M : Mem} (hF : FSC M) : J_X7_cut_36 (some 1) M = SJ_X7_cut_36  M := by
  unfold J_X7_cut_36 SJ_X7_cut_36
  refine (bi_fI (hF.hk 1)).trans ?_
  refine (bi_ck (hF.hk 1)).trans ?_
  refine bdc (eqS_X7_add hF) (fun w1 hw => ?_)
  have hF := hF.kc (keep_X7_add hw)
  rfl
def SJ_X7_cut_9 : Nat → Int32 → Int32 → Mem → Option (Unit × Mem)
  | 0 => fun _ _ _ => none
  | n + 1 => fun v1 v2 M =>
  if (900 : Int32) ≤ v2 then
  (SJ_X7_cut_36  M)
  else
  (if (gi M 1 1) ≤ v1 then
  (SJ_X7_cut_36  M)
  else
  ((S_X7_cutOne v1 M).bind fun w2 =>
  SJ_X7_cut_9 n w2.1 (v2 + 1) w2.2))
theorem eqJ_X7_cut_9 : ∀ (n : Nat) (v1 : Int32) (v2 : Int32) (M : Mem), FSC M → J_X7_cut_9 n (some 1) v1 v2 M = SJ_X7_cut_9 n v1 v2 M := by
  intro n
  induction n with
  | zero => intro v1 v2 M  hF; rfl
  | succ n ih =>
    intro v1 v2 M  hF
    unfold J_X7_cut_9 SJ_X7_cut_9
    refine itc (fun _ => ?_) (fun _ => ?_)
    · exact eqJ_X7_cut_36 hF
    · refine (bi_fI (hF.hk 1)).trans ?_
      refine itc (fun _ => ?_) (fun _ => ?_)
      · exact eqJ_X7_cut_36 hF
      · refine (bi_ck (hF.hk 1)).trans ?_
        refine bdc (eqS_X7_cutOne hF) (fun w2 hw => ?_)
        have hF := hF.kc (keep_X7_cutOne hw)
        exact ih _ _ _ hF
def S_X7_cut  (M : Mem) : Option (Unit × Mem) :=
  SJ_X7_cut_9 FU (0 : Int32) (0 : Int32) (si M 1 5 (0 : Int32))
theorem eqS_X7_cut {M : Mem} (hF : FSC M) : L_X7_cut (some 1) M = S_X7_cut  M := by
  unfold L_X7_cut S_X7_cut
  refine (bi_pI (hF.hk 1)).trans ?_
  have hF : FSC (si M 1 5 (0 : Int32)) := hF.kc kc_si
  exact eqJ_X7_cut_9 FU _ _ _ hF
def S_X4_kind  (M : Mem) : Option (Int32 × Mem) :=
  if ¬ (gi M 7 5) = 0 then
  (some ((4 : Int32), M))
  else
  (if (gi M 7 2) < (gi M 1 5) then
  (gd (inb (gi M 7 2) 901) (
  some (gi M 3 (gi M 7 2).toNatClampNeg, M)))
  else
  (some ((4 : Int32), M)))
theorem eqS_X4_kind {M : Mem} (hF : FSC M) : L_X4_kind (some 7) M = S_X4_kind  M := by
  unfold L_X4_kind S_X4_kind
  refine (bi_fI (hF.hk 7)).trans ?_
  refine itc (fun _ => ?_) (fun _ => ?_)
  · rfl
  · refine (bi_fI (hF.hk 7)).trans ?_
    refine (bi_fR (hF.hk 7) (hF.hg 7 0 1)).trans ?_
    refine (bi_fI (hF.hk 1)).trans ?_
    refine itc (fun _ => ?_) (fun _ => ?_)
    · refine (bi_fR (hF.hk 7) (hF.hg 7 0 1)).trans ?_
      refine (bi_fR (hF.hk 1) (hF.hg 1 2 3)).trans ?_
      refine (bi_fI (hF.hk 7)).trans ?_
      refine (bi_aI (hF.hk 3) (hF.hl 3)).trans ?_
      refine gd_congr (fun _ => ?_)
      rfl
    · rfl
def S_X4_place  (M : Mem) : Option (Int32 × Mem) :=
  if (gi M 1 5) ≤ (gi M 7 2) then
  (some (gi M 1 1, M))
  else
  (gd (inb (gi M 7 2) 901) (
  some (gi M 4 (gi M 7 2).toNatClampNeg, M)))
theorem eqS_X4_place {M : Mem} (hF : FSC M) : L_X4_place (some 7) M = S_X4_place  M := by
  unfold L_X4_place S_X4_place
  refine (bi_fI (hF.hk 7)).trans ?_
  refine (bi_fR (hF.hk 7) (hF.hg 7 0 1)).trans ?_
  refine (bi_fI (hF.hk 1)).trans ?_
  refine itc (fun _ => ?_) (fun _ => ?_)
  · refine (bi_fR (hF.hk 7) (hF.hg 7 0 1)).trans ?_
    refine (bi_fI (hF.hk 1)).trans ?_
    rfl
  · refine (bi_fR (hF.hk 7) (hF.hg 7 0 1)).trans ?_
    refine (bi_fR (hF.hk 1) (hF.hg 1 3 4)).trans ?_
    refine (bi_fI (hF.hk 7)).trans ?_
    refine (bi_aI (hF.hk 4) (hF.hl 4)).trans ?_
    refine gd_congr (fun _ => ?_)
    rfl
def S_X4_content  (M : Mem) : Option (Int64 × Mem) :=
  if (gi M 1 5) ≤ (gi M 7 2) then
  (some ((0 : Int64), M))
  else
  (gd (inb (gi M 7 2) 901) (
  some (gl M 5 (gi M 7 2).toNatClampNeg, M)))
theorem eqS_X4_content {M : Mem} (hF : FSC M) : L_X4_content (some 7) M = S_X4_content  M := by
  unfold L_X4_content S_X4_content
  refine (bi_fI (hF.hk 7)).trans ?_
  refine (bi_fR (hF.hk 7) (hF.hg 7 0 1)).trans ?_
  refine (bi_fI (hF.hk 1)).trans ?_
  refine itc (fun _ => ?_) (fun _ => ?_)
  · rfl
  · refine (bi_fR (hF.hk 7) (hF.hg 7 0 1)).trans ?_
    refine (bi_fR (hF.hk 1) (hF.hg 1 4 5)).trans ?_
    refine (bi_fI (hF.hk 7)).trans ?_
    refine (bi_aL (hF.hk 5) (hF.hl 5)).trans ?_
    refine gd_congr (fun _ => ?_)
    rfl
def SJ_X4_reject_54 (s1 : Int32) (M : Mem) : Option (Unit × Mem) :=
  some ((), si M 7 7 s1)
theorem eqJ_X4_reject_54 {M : Mem} {s1 : Int32} (hF : FSC M) : J_X4_reject_54 (some 7) s1 M = SJ_X4_reject_54 s1 M := by
  unfold J_X4_reject_54 SJ_X4_reject_54
  refine (bi_pI (hF.hk 7)).trans ?_
  have hF : FSC (si M 7 7 s1) := hF.kc kc_si
  rfl
def S_X4_reject  (M : Mem) : Option (Unit × Mem) :=
  if ¬ (gi M 7 5) = 0 then
  (some ((), M))
  else
  (if (gi (si (si M 7 5 (1 : Int32)) 7 6 (1 : Int32)) 1 5) ≤ (gi (si (si M 7 5 (1 : Int32)) 7 6 (1 : Int32)) 7 2) then
  (SJ_X4_reject_54 (gi (si (si M 7 5 (1 : Int32)) 7 6 (1 : Int32)) 1 1) (si (si M 7 5 (1 : Int32)) 7 6 (1 : Int32)))
  else
  (gd (inb (gi (si (si M 7 5 (1 : Int32)) 7 6 (1 : Int32)) 7 2) 901) (
  SJ_X4_reject_54 (gi (si (si M 7 5 (1 : Int32)) 7 6 (1 : Int32)) 4 (gi (si (si M 7 5 (1 : Int32)) 7 6 (1 : Int32)) 7 2).toNatClampNeg) (si (si M 7 5 (1 : Int32)) 7 6 (1 : Int32)))))
theorem eqS_X4_reject {M : Mem} (hF : FSC M) : L_X4_reject (some 7) M = S_X4_reject  M := by
  unfold L_X4_reject S_X4_reject
  refine (bi_fI (hF.hk 7)).trans ?_
  refine itc (fun _ => ?_) (fun _ => ?_)
  · rfl
  · refine (bi_pZl (hF.hk 7) (by decide)).trans ?_
    have hF : FSC (si M 7 5 (1 : Int32)) := hF.kc kc_si
    refine (bi_pI (hF.hk 7)).trans ?_
    have hF : FSC (si (si M 7 5 (1 : Int32)) 7 6 (1 : Int32)) := hF.kc kc_si
    refine (bi_fI (hF.hk 7)).trans ?_
    refine (bi_fR (hF.hk 7) (hF.hg 7 0 1)).trans ?_
    refine (bi_fI (hF.hk 1)).trans ?_
    refine itc (fun _ => ?_) (fun _ => ?_)
    · refine (bi_fR (hF.hk 7) (hF.hg 7 0 1)).trans ?_
      refine (bi_fI (hF.hk 1)).trans ?_
      exact eqJ_X4_reject_54 hF
    · refine (bi_fR (hF.hk 7) (hF.hg 7 0 1)).trans ?_
      refine (bi_fR (hF.hk 1) (hF.hg 1 3 4)).trans ?_
      refine (bi_fI (hF.hk 7)).trans ?_
      refine (bi_aI (hF.hk 4) (hF.hl 4)).trans ?_
      refine gd_congr (fun _ => ?_)
      exact eqJ_X4_reject_54 hF
def S_X4_take (v1 : Int32) (M : Mem) : Option (Int32 × Mem) :=
  (S_X4_kind M).bind fun w1 =>
  if w1.1 = v1 then
  (some ((1 : Int32), si w1.2 7 2 ((gi w1.2 7 2) + (1 : Int32))))
  else
  ((S_X4_reject w1.2).bind fun w2 =>
  some ((0 : Int32), w2.2))
theorem eqS_X4_take {M : Mem} {v1 : Int32} (hF : FSC M) : L_X4_take (some 7) v1 M = S_X4_take v1 M := by
  unfold L_X4_take S_X4_take
  refine (bi_ck (hF.hk 7)).trans ?_
  refine bdc (eqS_X4_kind hF) (fun w1 hw => ?_)
  have hF := hF.kc (keep_X4_kind hw)
  refine itc (fun _ => ?_) (fun _ => ?_)
  · refine (bi_fI (hF.hk 7)).trans ?_
    refine (bi_pI (hF.hk 7)).trans ?_
    have hF : FSC (si w1.2 7 2 ((gi w1.2 7 2) + (1 : Int32))) := hF.kc kc_si
    rfl
  · refine (bi_ck (hF.hk 7)).trans ?_
    refine bdc (eqS_X4_reject hF) (fun w2 hw => ?_)
    have hF := hF.kc (keep_X4_reject hw)
    rfl
def S_X4_note (v1 : Int32) (v2 : Int32) (M : Mem) : Option (Unit × Mem) :=
  if ¬ (gi M 7 6) = 0 then
  (some ((), M))
  else
  (some ((), si (si M 7 6 v1) 7 7 v2))
theorem eqS_X4_note {M : Mem} {v1 : Int32} {v2 : Int32} (hF : FSC M) : L_X4_note (some 7) v1 v2 M = S_X4_note v1 v2 M := by
  unfold L_X4_note S_X4_note
  refine (bi_fI (hF.hk 7)).trans ?_
  refine itc (fun _ => ?_) (fun _ => ?_)
  · rfl
  · refine (bi_pI (hF.hk 7)).trans ?_
    have hF : FSC (si M 7 6 v1) := hF.kc kc_si
    refine (bi_pI (hF.hk 7)).trans ?_
    have hF : FSC (si (si M 7 6 v1) 7 7 v2) := hF.kc kc_si
    rfl
def SJ_X4_leanOn_21 (v3 : Int32) (M : Mem) : Option (Int32 × Mem) :=
  (S_X4_note (3 : Int32) v3 M).bind fun w1 =>
  some (gi w1.2 7 3, w1.2)
theorem eqJ_X4_leanOn_21 {M : Mem} {v3 : Int32} (hF : FSC M) : J_X4_leanOn_21 (some 7) v3 M = SJ_X4_leanOn_21 v3 M := by
  unfold J_X4_leanOn_21 SJ_X4_leanOn_21
  refine (bi_ck (hF.hk 7)).trans ?_
  refine bdc (eqS_X4_note hF) (fun w1 hw => ?_)
  have hF := hF.kc (keep_X4_note hw)
  refine (bi_fI (hF.hk 7)).trans ?_
  rfl
def S_X4_leanOn (v1 : Int64) (v3 : Int32) (M : Mem) : Option (Int32 × Mem) :=
  (L_X10_yearIndex v1 M).bind fun w2 =>
  if w2.1 = (-1 : Int32) then
  (SJ_X4_leanOn_21 v3 w2.2)
  else
  (if ¬ w2.1 = (gi w2.2 7 3) then
  (some (w2.1, si w2.2 8 1 ((gi w2.2 8 1) ||| ((1 : Int32) <<< (w2.1 &&& 31)))))
  else
  (SJ_X4_leanOn_21 v3 w2.2))
theorem eqS_X4_leanOn {M : Mem} {v1 : Int64} {v3 : Int32} (hF : FSC M) : L_X4_leanOn (some 7) v1 v3 M = S_X4_leanOn v1 v3 M := by
  unfold L_X4_leanOn S_X4_leanOn
  refine bdc rfl (fun w2 hw => ?_)
  have hF := hF.kc (keep_X10_yearIndex hw)
  refine itc (fun _ => ?_) (fun _ => ?_)
  · exact eqJ_X4_leanOn_21 hF
  · refine (bi_fI (hF.hk 7)).trans ?_
    refine itc (fun _ => ?_) (fun _ => ?_)
    · refine (bi_fR (hF.hk 7) (hF.hg 7 1 8)).trans ?_
      refine (bi_fI (hF.hk 8)).trans ?_
      refine (bi_pI (hF.hk 8)).trans ?_
      have hF : FSC (si w2.2 8 1 ((gi w2.2 8 1) ||| ((1 : Int32) <<< (w2.1 &&& 31)))) := hF.kc kc_si
      rfl
    · exact eqJ_X4_leanOn_21 hF
def S_X4_readUnder  (M : Mem) : Option (Unit × Mem) :=
  (S_X4_kind M).bind fun w1 =>
  if w1.1 = (300 : Int32) then
  ((S_X4_place (si w1.2 7 2 ((gi w1.2 7 2) + (1 : Int32)))).bind fun w2 =>
  (S_X4_content w2.2).bind fun w3 =>
  (S_X4_take (3 : Int32) w3.2).bind fun w4 =>
  if w4.1 = 0 then
  (some ((), w4.2))
  else
  ((S_X4_leanOn w3.1 w2.1 w4.2).bind fun w5 =>
  (S_X0_emit (16 : Int32) ((gi (si w5.2 8 0 w5.1) 8 0).toInt64) (si w5.2 8 0 w5.1)).bind fun w6 =>
  (S_X4_take (59 : Int32) w6.2).bind fun w7 =>
  some ((), w7.2)))
  else
  (some ((), w1.2))
theorem eqS_X4_readUnder {M : Mem} (hF : FSC M) : L_X4_readUnder (some 7) M = S_X4_readUnder  M := by
  unfold L_X4_readUnder S_X4_readUnder
  refine (bi_ck (hF.hk 7)).trans ?_
  refine bdc (eqS_X4_kind hF) (fun w1 hw => ?_)
  have hF := hF.kc (keep_X4_kind hw)
  refine itc (fun _ => ?_) (fun _ => ?_)
  · refine (bi_fI (hF.hk 7)).trans ?_
    refine (bi_pI (hF.hk 7)).trans ?_
    have hF : FSC (si w1.2 7 2 ((gi w1.2 7 2) + (1 : Int32))) := hF.kc kc_si
    refine (bi_ck (hF.hk 7)).trans ?_
    refine bdc (eqS_X4_place hF) (fun w2 hw => ?_)
    have hF := hF.kc (keep_X4_place hw)
    refine (bi_ck (hF.hk 7)).trans ?_
    refine bdc (eqS_X4_content hF) (fun w3 hw => ?_)
    have hF := hF.kc (keep_X4_content hw)
    refine (bi_ck (hF.hk 7)).trans ?_
    refine bdc (eqS_X4_take hF) (fun w4 hw => ?_)
    have hF := hF.kc (keep_X4_take hw)
    refine itc (fun _ => ?_) (fun _ => ?_)
    · rfl
    · refine (bi_fR (hF.hk 7) (hF.hg 7 1 8)).trans ?_
      refine (bi_ck (hF.hk 7)).trans ?_
      refine bdc (eqS_X4_leanOn hF) (fun w5 hw => ?_)
      have hF := hF.kc (keep_X4_leanOn hw)
      refine (bi_pI (hF.hk 8)).trans ?_
      have hF : FSC (si w5.2 8 0 w5.1) := hF.kc kc_si
      refine (bi_fR (hF.hk 7) (hF.hg 7 1 8)).trans ?_
      refine (bi_fR (hF.hk 7) (hF.hg 7 1 8)).trans ?_
      refine (bi_fI (hF.hk 8)).trans ?_
      refine (bi_ck (hF.hk 8)).trans ?_
      refine bdc (eqS_X0_emit hF) (fun w6 hw => ?_)
      have hF := hF.kc (keep_X0_emit hw)
      refine (bi_ck (hF.hk 7)).trans ?_
      refine bdc (eqS_X4_take hF) (fun w7 hw => ?_)
      have hF := hF.kc (keep_X4_take hw)
      rfl
  · rfl
def S_X4_takeNewName  (M : Mem) : Option (Int64 × Mem) :=
  (S_X4_place M).bind fun w1 =>
  (S_X4_content w1.2).bind fun w2 =>
  (S_X4_take (2 : Int32) w2.2).bind fun w3 =>
  if w3.1 = 0 then
  (some (w2.1, w3.2))
  else
  ((S_X0_hasName w2.1 w3.2).bind fun w4 =>
  if w4.1 = 0 then
  (some (w2.1, w4.2))
  else
  ((S_X4_note (2 : Int32) w1.1 w4.2).bind fun w5 =>
  some (w2.1, w5.2)))
theorem eqS_X4_takeNewName {M : Mem} (hF : FSC M) : L_X4_takeNewName (some 7) M = S_X4_takeNewName  M := by
  unfold L_X4_takeNewName S_X4_takeNewName
  refine (bi_ck (hF.hk 7)).trans ?_
  refine bdc (eqS_X4_place hF) (fun w1 hw => ?_)
  have hF := hF.kc (keep_X4_place hw)
  refine (bi_ck (hF.hk 7)).trans ?_
  refine bdc (eqS_X4_content hF) (fun w2 hw => ?_)
  have hF := hF.kc (keep_X4_content hw)
  refine (bi_ck (hF.hk 7)).trans ?_
  refine bdc (eqS_X4_take hF) (fun w3 hw => ?_)
  have hF := hF.kc (keep_X4_take hw)
  refine itc (fun _ => ?_) (fun _ => ?_)
  · rfl
  · refine (bi_fR (hF.hk 7) (hF.hg 7 1 8)).trans ?_
    refine (bi_ck (hF.hk 8)).trans ?_
    refine bdc (eqS_X0_hasName hF) (fun w4 hw => ?_)
    have hF := hF.kc (keep_X0_hasName hw)
    refine itc (fun _ => ?_) (fun _ => ?_)
    · rfl
    · refine (bi_ck (hF.hk 7)).trans ?_
      refine bdc (eqS_X4_note hF) (fun w5 hw => ?_)
      have hF := hF.kc (keep_X4_note hw)
      rfl
def S_X4_takeMinus  (M : Mem) : Option (Int32 × Mem) :=
  (S_X4_kind M).bind fun w1 =>
  if w1.1 = (45 : Int32) then
  (some ((1 : Int32), si w1.2 7 2 ((gi w1.2 7 2) + (1 : Int32))))
  else
  (some ((0 : Int32), w1.2))
theorem eqS_X4_takeMinus {M : Mem} (hF : FSC M) : L_X4_takeMinus (some 7) M = S_X4_takeMinus  M := by
  unfold L_X4_takeMinus S_X4_takeMinus
  refine (bi_ck (hF.hk 7)).trans ?_
  refine bdc (eqS_X4_kind hF) (fun w1 hw => ?_)
  have hF := hF.kc (keep_X4_kind hw)
  refine itc (fun _ => ?_) (fun _ => ?_)
  · refine (bi_fI (hF.hk 7)).trans ?_
    refine (bi_pI (hF.hk 7)).trans ?_
    have hF : FSC (si w1.2 7 2 ((gi w1.2 7 2) + (1 : Int32))) := hF.kc kc_si
    rfl
  · rfl
def S_X4_readNumberOrYear  (M : Mem) : Option (Int32 × Mem) :=
  (S_X4_place M).bind fun w1 =>
  (S_X4_content w1.2).bind fun w2 =>
  (S_X4_kind (si w2.2 7 2 ((gi w2.2 7 2) + (1 : Int32)))).bind fun w3 =>
  if w3.1 = (46 : Int32) then
  ((S_X4_leanOn w2.1 w1.1 (si w3.2 7 2 ((gi w3.2 7 2) + (1 : Int32)))).bind fun w4 =>
  some (w4.1, w4.2))
  else
  ((S_X0_emit (0 : Int32) w2.1 w3.2).bind fun w5 =>
  some ((-1 : Int32), w5.2))
theorem eqS_X4_readNumberOrYear {M : Mem} (hF : FSC M) : L_X4_readNumberOrYear (some 7) M = S_X4_readNumberOrYear  M := by
  unfold L_X4_readNumberOrYear S_X4_readNumberOrYear
  refine (bi_ck (hF.hk 7)).trans ?_
  refine bdc (eqS_X4_place hF) (fun w1 hw => ?_)
  have hF := hF.kc (keep_X4_place hw)
  refine (bi_ck (hF.hk 7)).trans ?_
  refine bdc (eqS_X4_content hF) (fun w2 hw => ?_)
  have hF := hF.kc (keep_X4_content hw)
  refine (bi_fI (hF.hk 7)).trans ?_
  refine (bi_pI (hF.hk 7)).trans ?_
  have hF : FSC (si w2.2 7 2 ((gi w2.2 7 2) + (1 : Int32))) := hF.kc kc_si
  refine (bi_ck (hF.hk 7)).trans ?_
  refine bdc (eqS_X4_kind hF) (fun w3 hw => ?_)
  have hF := hF.kc (keep_X4_kind hw)
  refine itc (fun _ => ?_) (fun _ => ?_)
  · refine (bi_fI (hF.hk 7)).trans ?_
    refine (bi_pI (hF.hk 7)).trans ?_
    have hF : FSC (si w3.2 7 2 ((gi w3.2 7 2) + (1 : Int32))) := hF.kc kc_si
    refine (bi_ck (hF.hk 7)).trans ?_
    refine bdc (eqS_X4_leanOn hF) (fun w4 hw => ?_)
    have hF := hF.kc (keep_X4_leanOn hw)
    rfl
  · refine (bi_fR (hF.hk 7) (hF.hg 7 1 8)).trans ?_
    refine (bi_ck (hF.hk 8)).trans ?_
    refine bdc (eqS_X0_emit hF) (fun w5 hw => ?_)
    have hF := hF.kc (keep_X0_emit hw)
    rfl
def S_X4_readConstName (v1 : Int32) (M : Mem) : Option (Unit × Mem) :=
  (S_X4_content M).bind fun w1 =>
  (S_X4_take (2 : Int32) w1.2).bind fun w2 =>
  if w2.1 = 0 then
  (some ((), w2.2))
  else
  ((S_X0_emitReference (3 : Int32) v1 w1.1 w2.2).bind fun w3 =>
  some ((), w3.2))
theorem eqS_X4_readConstName {M : Mem} {v1 : Int32} (hF : FSC M) : L_X4_readConstName (some 7) v1 M = S_X4_readConstName v1 M := by
  unfold L_X4_readConstName S_X4_readConstName
  refine (bi_ck (hF.hk 7)).trans ?_
  refine bdc (eqS_X4_content hF) (fun w1 hw => ?_)
  have hF := hF.kc (keep_X4_content hw)
  refine (bi_ck (hF.hk 7)).trans ?_
  refine bdc (eqS_X4_take hF) (fun w2 hw => ?_)
  have hF := hF.kc (keep_X4_take hw)
  refine itc (fun _ => ?_) (fun _ => ?_)
  · rfl
  · refine (bi_fR (hF.hk 7) (hF.hg 7 1 8)).trans ?_
    refine (bi_ck (hF.hk 8)).trans ?_
    refine bdc (eqS_X0_emitReference hF) (fun w3 hw => ?_)
    have hF := hF.kc (keep_X0_emitReference hw)
    rfl
def SJ_X4_readConstantOperand_39 (v1 : Int32) (M : Mem) : Option (Unit × Mem) :=
  if v1 = 0 then
  (some ((), M))
  else
  ((S_X0_emit (5 : Int32) (0 : Int64) M).bind fun w1 =>
  some ((), w1.2))
theorem eqJ_X4_readConstantOperand_39 {M : Mem} {v1 : Int32} (hF : FSC M) : J_X4_readConstantOperand_39 (some 7) v1 M = SJ_X4_readConstantOperand_39 v1 M := by
  unfold J_X4_readConstantOperand_39 SJ_X4_readConstantOperand_39
  refine itc (fun _ => ?_) (fun _ => ?_)
  · rfl
  · refine (bi_fR (hF.hk 7) (hF.hg 7 1 8)).trans ?_
    refine (bi_ck (hF.hk 8)).trans ?_
    refine bdc (eqS_X0_emit hF) (fun w1 hw => ?_)
    have hF := hF.kc (keep_X0_emit hw)
    rfl
def SJ_X4_readConstantOperand_28 (v1 : Int32) (M : Mem) : Option (Unit × Mem) :=
  SJ_X4_readConstantOperand_39 v1 M
theorem eqJ_X4_readConstantOperand_28 {M : Mem} {v1 : Int32} (hF : FSC M) : J_X4_readConstantOperand_28 (some 7) v1 M = SJ_X4_readConstantOperand_28 v1 M := by
  unfold J_X4_readConstantOperand_28 SJ_X4_readConstantOperand_28
  exact eqJ_X4_readConstantOperand_39 hF
def S_X4_readConstantOperand  (M : Mem) : Option (Unit × Mem) :=
  (S_X4_takeMinus M).bind fun w2 =>
  (S_X4_kind w2.2).bind fun w3 =>
  if ¬ w3.1 = (3 : Int32) then
  ((S_X4_readConstName (gi w3.2 7 3) w3.2).bind fun w4 =>
  SJ_X4_readConstantOperand_39 w2.1 w4.2)
  else
  ((S_X4_readNumberOrYear w3.2).bind fun w5 =>
  if w5.1 = (-1 : Int32) then
  (SJ_X4_readConstantOperand_28 w2.1 w5.2)
  else
  ((S_X4_readConstName w5.1 w5.2).bind fun w6 =>
  SJ_X4_readConstantOperand_28 w2.1 w6.2))
theorem eqS_X4_readConstantOperand {M : Mem} (hF : FSC M) : L_X4_readConstantOperand (some 7) M = S_X4_readConstantOperand  M := by
  unfold L_X4_readConstantOperand S_X4_readConstantOperand
  refine (bi_ck (hF.hk 7)).trans ?_
  refine bdc (eqS_X4_takeMinus hF) (fun w2 hw => ?_)
  have hF := hF.kc (keep_X4_takeMinus hw)
  refine (bi_ck (hF.hk 7)).trans ?_
  refine bdc (eqS_X4_kind hF) (fun w3 hw => ?_)
  have hF := hF.kc (keep_X4_kind hw)
  refine itc (fun _ => ?_) (fun _ => ?_)
  · refine (bi_fI (hF.hk 7)).trans ?_
    refine (bi_ck (hF.hk 7)).trans ?_
    refine bdc (eqS_X4_readConstName hF) (fun w4 hw => ?_)
    have hF := hF.kc (keep_X4_readConstName hw)
    exact eqJ_X4_readConstantOperand_39 hF
  · refine (bi_ck (hF.hk 7)).trans ?_
    refine bdc (eqS_X4_readNumberOrYear hF) (fun w5 hw => ?_)
    have hF := hF.kc (keep_X4_readNumberOrYear hw)
    refine itc (fun _ => ?_) (fun _ => ?_)
    · exact eqJ_X4_readConstantOperand_28 hF
    · refine (bi_ck (hF.hk 7)).trans ?_
      refine bdc (eqS_X4_readConstName hF) (fun w6 hw => ?_)
      have hF := hF.kc (keep_X4_readConstName hw)
      exact eqJ_X4_readConstantOperand_28 hF
