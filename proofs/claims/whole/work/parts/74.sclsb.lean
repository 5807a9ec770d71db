def SJ_X4_readConstantSum_114 (k_4 : Int32 → Int32 → Mem → Option (Unit × Mem)) (v2 : Int32) (s0 : Int32) (M : Mem) : Option (Unit × Mem) :=
  k_4 s0 (v2 + 1) (si M 7 2 ((gi M 7 2) + (1 : Int32)))
theorem eqJ_X4_readConstantSum_114 {M : Mem} {k_4 : Option Nat → Int32 → Int32 → Mem → Option (Unit × Mem)} {q_4 : Int32 → Int32 → Mem → Option (Unit × Mem)} (hk_4 : ∀ (v1 : Int32) (v2 : Int32) (Ma : Mem), FSC Ma → k_4 (some 7) v1 v2 Ma = q_4 v1 v2 Ma) {v2 : Int32} {s0 : Int32} (hF : FSC M) : J_X4_readConstantSum_114 k_4 (some 7) v2 s0 M = SJ_X4_readConstantSum_114 q_4 v2 s0 M := by
  unfold J_X4_readConstantSum_114 SJ_X4_readConstantSum_114
  refine (bi_fI (hF.hk 7)).trans ?_
  refine (bi_pI (hF.hk 7)).trans ?_
  have hF : FSC (si M 7 2 ((gi M 7 2) + (1 : Int32))) := hF.kc kc_si
  exact hk_4 _ _ _ hF
def SJ_X4_readConstantSum_98 (k_4 : Int32 → Int32 → Mem → Option (Unit × Mem)) (v2 : Int32) (M : Mem) : Option (Unit × Mem) :=
  (S_X4_kind M).bind fun w1 =>
  if ¬ w1.1 = (43 : Int32) then
  (SJ_X4_readConstantSum_114 k_4 v2 (7 : Int32) w1.2)
  else
  (SJ_X4_readConstantSum_114 k_4 v2 (6 : Int32) w1.2)
theorem eqJ_X4_readConstantSum_98 {M : Mem} {k_4 : Option Nat → Int32 → Int32 → Mem → Option (Unit × Mem)} {q_4 : Int32 → Int32 → Mem → Option (Unit × Mem)} (hk_4 : ∀ (v1 : Int32) (v2 : Int32) (Ma : Mem), FSC Ma → k_4 (some 7) v1 v2 Ma = q_4 v1 v2 Ma) {v2 : Int32} (hF : FSC M) : J_X4_readConstantSum_98 k_4 (some 7) v2 M = SJ_X4_readConstantSum_98 q_4 v2 M := by
  unfold J_X4_readConstantSum_98 SJ_X4_readConstantSum_98
  refine (bi_ck (hF.hk 7)).trans ?_
  refine bdc (eqS_X4_kind hF) (fun w1 hw => ?_)
  have hF := hF.kc (keep_X4_kind hw)
  refine itc (fun _ => ?_) (fun _ => ?_)
  · exact eqJ_X4_readConstantSum_114 hk_4 hF
  · exact eqJ_X4_readConstantSum_114 hk_4 hF
def SJ_X4_readConstantSum_79 (k_4 : Int32 → Int32 → Mem → Option (Unit × Mem)) (v2 : Int32) (M : Mem) : Option (Unit × Mem) :=
  (S_X4_kind M).bind fun w2 =>
  if w2.1 = (43 : Int32) then
  (SJ_X4_readConstantSum_98 k_4 v2 w2.2)
  else
  ((S_X4_kind w2.2).bind fun w3 =>
  if w3.1 = (45 : Int32) then
  (SJ_X4_readConstantSum_98 k_4 v2 w3.2)
  else
  (some ((), w3.2)))
theorem eqJ_X4_readConstantSum_79 {M : Mem} {k_4 : Option Nat → Int32 → Int32 → Mem → Option (Unit × Mem)} {q_4 : Int32 → Int32 → Mem → Option (Unit × Mem)} (hk_4 : ∀ (v1 : Int32) (v2 : Int32) (Ma : Mem), FSC Ma → k_4 (some 7) v1 v2 Ma = q_4 v1 v2 Ma) {v2 : Int32} (hF : FSC M) : J_X4_readConstantSum_79 k_4 (some 7) v2 M = SJ_X4_readConstantSum_79 q_4 v2 M := by
  unfold J_X4_readConstantSum_79 SJ_X4_readConstantSum_79
  refine (bi_ck (hF.hk 7)).trans ?_
  refine bdc (eqS_X4_kind hF) (fun w2 hw => ?_)
  have hF := hF.kc (keep_X4_kind hw)
  refine itc (fun _ => ?_) (fun _ => ?_)
  · exact eqJ_X4_readConstantSum_98 hk_4 hF
  · refine (bi_ck (hF.hk 7)).trans ?_
    refine bdc (eqS_X4_kind hF) (fun w3 hw => ?_)
    have hF := hF.kc (keep_X4_kind hw)
    refine itc (fun _ => ?_) (fun _ => ?_)
    · exact eqJ_X4_readConstantSum_98 hk_4 hF
    · rfl
def SJ_X4_readConstantSum_64 (k_4 : Int32 → Int32 → Mem → Option (Unit × Mem)) (v1 : Int32) (v2 : Int32) (M : Mem) : Option (Unit × Mem) :=
  if v1 = (-1 : Int32) then
  (SJ_X4_readConstantSum_79 k_4 v2 M)
  else
  ((S_X0_emit v1 (0 : Int64) M).bind fun w4 =>
  SJ_X4_readConstantSum_79 k_4 v2 w4.2)
theorem eqJ_X4_readConstantSum_64 {M : Mem} {k_4 : Option Nat → Int32 → Int32 → Mem → Option (Unit × Mem)} {q_4 : Int32 → Int32 → Mem → Option (Unit × Mem)} (hk_4 : ∀ (v1 : Int32) (v2 : Int32) (Ma : Mem), FSC Ma → k_4 (some 7) v1 v2 Ma = q_4 v1 v2 Ma) {v1 : Int32} {v2 : Int32} (hF : FSC M) : J_X4_readConstantSum_64 k_4 (some 7) v1 v2 M = SJ_X4_readConstantSum_64 q_4 v1 v2 M := by
  unfold J_X4_readConstantSum_64 SJ_X4_readConstantSum_64
  refine itc (fun _ => ?_) (fun _ => ?_)
  · exact eqJ_X4_readConstantSum_79 hk_4 hF
  · refine (bi_fR (hF.hk 7) (hF.hg 7 1 8)).trans ?_
    refine (bi_ck (hF.hk 8)).trans ?_
    refine bdc (eqS_X0_emit hF) (fun w4 hw => ?_)
    have hF := hF.kc (keep_X0_emit hw)
    exact eqJ_X4_readConstantSum_79 hk_4 hF
def SJ_X4_readConstantSum_17 (k_4 : Int32 → Int32 → Mem → Option (Unit × Mem)) : Nat → Int32 → Int32 → Int32 → Mem → Option (Unit × Mem)
  | 0 => fun _ _ _ _ => none
  | n + 1 => fun v1 v2 v3 M =>
  if (900 : Int32) < v3 then
  (SJ_X4_readConstantSum_64 k_4 v1 v2 M)
  else
  ((S_X4_kind M).bind fun w5 =>
  if ¬ w5.1 = (42 : Int32) then
  (SJ_X4_readConstantSum_64 k_4 v1 v2 w5.2)
  else
  ((S_X4_readConstantOperand (si w5.2 7 2 ((gi w5.2 7 2) + (1 : Int32)))).bind fun w6 =>
  (S_X0_emit (8 : Int32) (0 : Int64) w6.2).bind fun w7 =>
  SJ_X4_readConstantSum_17 k_4 n v1 v2 (v3 + 1) w7.2))
theorem eqJ_X4_readConstantSum_17 {k_4 : Option Nat → Int32 → Int32 → Mem → Option (Unit × Mem)} {q_4 : Int32 → Int32 → Mem → Option (Unit × Mem)} (hk_4 : ∀ (v1 : Int32) (v2 : Int32) (Ma : Mem), FSC Ma → k_4 (some 7) v1 v2 Ma = q_4 v1 v2 Ma) : ∀ (n : Nat) (v1 : Int32) (v2 : Int32) (v3 : Int32) (M : Mem), FSC M → J_X4_readConstantSum_17 k_4 n (some 7) v1 v2 v3 M = SJ_X4_readConstantSum_17 q_4 n v1 v2 v3 M := by
  intro n
  induction n with
  | zero => intro v1 v2 v3 M  hF; rfl
  | succ n ih =>
    intro v1 v2 v3 M  hF
    unfold J_X4_readConstantSum_17 SJ_X4_readConstantSum_17
    refine itc (fun _ => ?_) (fun _ => ?_)
    · exact eqJ_X4_readConstantSum_64 hk_4 hF
    · refine (bi_ck (hF.hk 7)).trans ?_
      refine bdc (eqS_X4_kind hF) (fun w5 hw => ?_)
      have hF := hF.kc (keep_X4_kind hw)
      refine itc (fun _ => ?_) (fun _ => ?_)
      · exact eqJ_X4_readConstantSum_64 hk_4 hF
      · refine (bi_fI (hF.hk 7)).trans ?_
        refine (bi_pI (hF.hk 7)).trans ?_
        have hF : FSC (si w5.2 7 2 ((gi w5.2 7 2) + (1 : Int32))) := hF.kc kc_si
        refine (bi_ck (hF.hk 7)).trans ?_
        refine bdc (eqS_X4_readConstantOperand hF) (fun w6 hw => ?_)
        have hF := hF.kc (keep_X4_readConstantOperand hw)
        refine (bi_fR (hF.hk 7) (hF.hg 7 1 8)).trans ?_
        refine (bi_ck (hF.hk 8)).trans ?_
        refine bdc (eqS_X0_emit hF) (fun w7 hw => ?_)
        have hF := hF.kc (keep_X0_emit hw)
        exact ih _ _ _ _ hF
def SJ_X4_readConstantSum_4 : Nat → Int32 → Int32 → Mem → Option (Unit × Mem)
  | 0 => fun _ _ _ => none
  | n + 1 => fun v1 v2 M =>
  if (900 : Int32) < v2 then
  (some ((), M))
  else
  ((S_X4_readConstantOperand M).bind fun w8 =>
  SJ_X4_readConstantSum_17 (SJ_X4_readConstantSum_4 n) FU v1 v2 (0 : Int32) w8.2)
theorem eqJ_X4_readConstantSum_4 : ∀ (n : Nat) (v1 : Int32) (v2 : Int32) (M : Mem), FSC M → J_X4_readConstantSum_4 n (some 7) v1 v2 M = SJ_X4_readConstantSum_4 n v1 v2 M := by
  intro n
  induction n with
  | zero => intro v1 v2 M  hF; rfl
  | succ n ih =>
    intro v1 v2 M  hF
    unfold J_X4_readConstantSum_4 SJ_X4_readConstantSum_4
    refine itc (fun _ => ?_) (fun _ => ?_)
    · rfl
    · refine (bi_ck (hF.hk 7)).trans ?_
      refine bdc (eqS_X4_readConstantOperand hF) (fun w8 hw => ?_)
      have hF := hF.kc (keep_X4_readConstantOperand hw)
      exact eqJ_X4_readConstantSum_17 ih FU _ _ _ _ hF
def S_X4_readConstantSum  (M : Mem) : Option (Unit × Mem) :=
  SJ_X4_readConstantSum_4 FU (-1 : Int32) (0 : Int32) M
theorem eqS_X4_readConstantSum {M : Mem} (hF : FSC M) : L_X4_readConstantSum (some 7) M = S_X4_readConstantSum  M := by
  unfold L_X4_readConstantSum S_X4_readConstantSum
  exact eqJ_X4_readConstantSum_4 FU _ _ _ hF
def SJ_X4_readConst_21  (M : Mem) : Option (Unit × Mem) :=
  (S_X4_takeNewName (si M 7 2 ((gi M 7 2) + (1 : Int32)))).bind fun w1 =>
  (S_X4_take (61 : Int32) w1.2).bind fun w2 =>
  (S_X0_emit (14 : Int32) (0 : Int64) w2.2).bind fun w3 =>
  (S_X0_addConst w1.1 w3.2).bind fun w4 =>
  (S_X4_readConstantSum w4.2).bind fun w5 =>
  (S_X0_emit (20 : Int32) (0 : Int64) w5.2).bind fun w6 =>
  (S_X0_landHere w3.1 w6.2).bind fun w7 =>
  (S_X4_take (59 : Int32) w7.2).bind fun w8 =>
  some ((), w8.2)
theorem eqJ_X4_readConst_21 {M : Mem} (hF : FSC M) : J_X4_readConst_21 (some 7) M = SJ_X4_readConst_21  M := by
  unfold J_X4_readConst_21 SJ_X4_readConst_21
  refine (bi_fI (hF.hk 7)).trans ?_
  refine (bi_pI (hF.hk 7)).trans ?_
  have hF : FSC (si M 7 2 ((gi M 7 2) + (1 : Int32))) := hF.kc kc_si
  refine (bi_ck (hF.hk 7)).trans ?_
  refine bdc (eqS_X4_takeNewName hF) (fun w1 hw => ?_)
  have hF := hF.kc (keep_X4_takeNewName hw)
  refine (bi_ck (hF.hk 7)).trans ?_
  refine bdc (eqS_X4_take hF) (fun w2 hw => ?_)
  have hF := hF.kc (keep_X4_take hw)
  refine (bi_fR (hF.hk 7) (hF.hg 7 1 8)).trans ?_
  refine (bi_ck (hF.hk 8)).trans ?_
  refine bdc (eqS_X0_emit hF) (fun w3 hw => ?_)
  have hF := hF.kc (keep_X0_emit hw)
  refine (bi_fR (hF.hk 7) (hF.hg 7 1 8)).trans ?_
  refine (bi_ck (hF.hk 8)).trans ?_
  refine bdc (eqS_X0_addConst hF) (fun w4 hw => ?_)
  have hF := hF.kc (keep_X0_addConst hw)
  refine (bi_ck (hF.hk 7)).trans ?_
  refine bdc (eqS_X4_readConstantSum hF) (fun w5 hw => ?_)
  have hF := hF.kc (keep_X4_readConstantSum hw)
  refine (bi_fR (hF.hk 7) (hF.hg 7 1 8)).trans ?_
  refine (bi_ck (hF.hk 8)).trans ?_
  refine bdc (eqS_X0_emit hF) (fun w6 hw => ?_)
  have hF := hF.kc (keep_X0_emit hw)
  refine (bi_fR (hF.hk 7) (hF.hg 7 1 8)).trans ?_
  refine (bi_ck (hF.hk 8)).trans ?_
  refine bdc (eqS_X0_landHere hF) (fun w7 hw => ?_)
  have hF := hF.kc (keep_X0_landHere hw)
  refine (bi_ck (hF.hk 7)).trans ?_
  refine bdc (eqS_X4_take hF) (fun w8 hw => ?_)
  have hF := hF.kc (keep_X4_take hw)
  rfl
def S_X4_readConst  (M : Mem) : Option (Unit × Mem) :=
  if (gi M 8 9) < (8 : Int32) then
  (SJ_X4_readConst_21  M)
  else
  ((S_X4_place M).bind fun w9 =>
  (S_X4_note (5 : Int32) w9.1 w9.2).bind fun w10 =>
  SJ_X4_readConst_21  w10.2)
theorem eqS_X4_readConst {M : Mem} (hF : FSC M) : L_X4_readConst (some 7) M = S_X4_readConst  M := by
  unfold L_X4_readConst S_X4_readConst
  refine (bi_fR (hF.hk 7) (hF.hg 7 1 8)).trans ?_
  refine (bi_fI (hF.hk 8)).trans ?_
  refine itc (fun _ => ?_) (fun _ => ?_)
  · exact eqJ_X4_readConst_21 hF
  · refine (bi_ck (hF.hk 7)).trans ?_
    refine bdc (eqS_X4_place hF) (fun w9 hw => ?_)
    have hF := hF.kc (keep_X4_place hw)
    refine (bi_ck (hF.hk 7)).trans ?_
    refine bdc (eqS_X4_note hF) (fun w10 hw => ?_)
    have hF := hF.kc (keep_X4_note hw)
    exact eqJ_X4_readConst_21 hF
def S_X4_readReference (rS : Int32 → Mem → Option (Unit × Mem)) (v1 : Int32) (v2 : Int32) (M : Mem) : Option (Unit × Mem) :=
  (S_X4_content M).bind fun w1 =>
  (S_X4_take (2 : Int32) w1.2).bind fun w2 =>
  if ¬ w2.1 = 0 then
  ((S_X4_kind w2.2).bind fun w3 =>
  if w3.1 = (91 : Int32) then
  ((rS (v2 + (1 : Int32)) (si w3.2 7 2 ((gi w3.2 7 2) + (1 : Int32)))).bind fun w4 =>
  (S_X4_take (93 : Int32) w4.2).bind fun w5 =>
  (S_X0_emitReference (4 : Int32) v1 w1.1 w5.2).bind fun w6 =>
  some ((), w6.2))
  else
  ((S_X0_emitReference (3 : Int32) v1 w1.1 w3.2).bind fun w7 =>
  some ((), w7.2)))
  else
  (some ((), w2.2))
theorem eqS_X4_readReference {M : Mem} {rF : Option Nat → Int32 → Mem → Option (Unit × Mem)} {rS : Int32 → Mem → Option (Unit × Mem)} (hrS : ∀ (a1 : Int32) (Ma : Mem), FSC Ma → rF (some 7) a1 Ma = rS a1 Ma) (hrK : ∀ (a0 : Option Nat) (a1 : Int32) (Ma : Mem) (w : Unit × Mem), rF a0 a1 Ma = some w → KC Ma w.2) {v1 : Int32} {v2 : Int32} (hF : FSC M) : L_X4_readReference rF (some 7) v1 v2 M = S_X4_readReference rS v1 v2 M := by
  unfold L_X4_readReference S_X4_readReference
  refine (bi_ck (hF.hk 7)).trans ?_
  refine bdc (eqS_X4_content hF) (fun w1 hw => ?_)
  have hF := hF.kc (keep_X4_content hw)
  refine (bi_ck (hF.hk 7)).trans ?_
  refine bdc (eqS_X4_take hF) (fun w2 hw => ?_)
  have hF := hF.kc (keep_X4_take hw)
  refine itc (fun _ => ?_) (fun _ => ?_)
  · refine (bi_ck (hF.hk 7)).trans ?_
    refine bdc (eqS_X4_kind hF) (fun w3 hw => ?_)
    have hF := hF.kc (keep_X4_kind hw)
    refine itc (fun _ => ?_) (fun _ => ?_)
    · refine (bi_fI (hF.hk 7)).trans ?_
      refine (bi_pI (hF.hk 7)).trans ?_
      have hF : FSC (si w3.2 7 2 ((gi w3.2 7 2) + (1 : Int32))) := hF.kc kc_si
      refine (bi_ck (hF.hk 7)).trans ?_
      refine bdc (hrS _ _ hF) (fun w4 hw => ?_)
      have hF := hF.kc (hrK _ _ _ _ hw)
      refine (bi_ck (hF.hk 7)).trans ?_
      refine bdc (eqS_X4_take hF) (fun w5 hw => ?_)
      have hF := hF.kc (keep_X4_take hw)
      refine (bi_fR (hF.hk 7) (hF.hg 7 1 8)).trans ?_
      refine (bi_ck (hF.hk 8)).trans ?_
      refine bdc (eqS_X0_emitReference hF) (fun w6 hw => ?_)
      have hF := hF.kc (keep_X0_emitReference hw)
      rfl
    · refine (bi_fR (hF.hk 7) (hF.hg 7 1 8)).trans ?_
      refine (bi_ck (hF.hk 8)).trans ?_
      refine bdc (eqS_X0_emitReference hF) (fun w7 hw => ?_)
      have hF := hF.kc (keep_X0_emitReference hw)
      rfl
  · rfl
def SJ_X4_readSetting_29 (v1 : Int32) (M : Mem) : Option (Unit × Mem) :=
  if ¬ v1 = (307 : Int32) then
  ((S_X0_emit (2 : Int32) ((v1 - (308 : Int32)).toInt64) (si M 7 2 ((gi M 7 2) + (1 : Int32)))).bind fun w1 =>
  some ((), w1.2))
  else
  ((S_X0_emit (1 : Int32) (0 : Int64) (si M 7 2 ((gi M 7 2) + (1 : Int32)))).bind fun w2 =>
  some ((), w2.2))
theorem eqJ_X4_readSetting_29 {M : Mem} {v1 : Int32} (hF : FSC M) : J_X4_readSetting_29 (some 7) v1 M = SJ_X4_readSetting_29 v1 M := by
  unfold J_X4_readSetting_29 SJ_X4_readSetting_29
  refine (bi_fI (hF.hk 7)).trans ?_
  refine (bi_pI (hF.hk 7)).trans ?_
  have hF : FSC (si M 7 2 ((gi M 7 2) + (1 : Int32))) := hF.kc kc_si
  refine itc (fun _ => ?_) (fun _ => ?_)
  · refine (bi_fR (hF.hk 7) (hF.hg 7 1 8)).trans ?_
    refine (bi_ck (hF.hk 8)).trans ?_
    refine bdc (eqS_X0_emit hF) (fun w1 hw => ?_)
    have hF := hF.kc (keep_X0_emit hw)
    rfl
  · refine (bi_fR (hF.hk 7) (hF.hg 7 1 8)).trans ?_
    refine (bi_ck (hF.hk 8)).trans ?_
    refine bdc (eqS_X0_emit hF) (fun w2 hw => ?_)
    have hF := hF.kc (keep_X0_emit hw)
    rfl
def SJ_X4_readSetting_16 (v1 : Int32) (s0 : Int32) (s1 : Int32) (M : Mem) : Option (Unit × Mem) :=
  if s0 = s1 then
  (SJ_X4_readSetting_29 v1 M)
  else
  ((S_X4_place M).bind fun w3 =>
  (S_X4_note (6 : Int32) w3.1 w3.2).bind fun w4 =>
  SJ_X4_readSetting_29 v1 w4.2)
theorem eqJ_X4_readSetting_16 {M : Mem} {v1 : Int32} {s0 : Int32} {s1 : Int32} (hF : FSC M) : J_X4_readSetting_16 (some 7) v1 s0 s1 M = SJ_X4_readSetting_16 v1 s0 s1 M := by
  unfold J_X4_readSetting_16 SJ_X4_readSetting_16
  refine itc (fun _ => ?_) (fun _ => ?_)
  · exact eqJ_X4_readSetting_29 hF
  · refine (bi_ck (hF.hk 7)).trans ?_
    refine bdc (eqS_X4_place hF) (fun w3 hw => ?_)
    have hF := hF.kc (keep_X4_place hw)
    refine (bi_ck (hF.hk 7)).trans ?_
    refine bdc (eqS_X4_note hF) (fun w4 hw => ?_)
    have hF := hF.kc (keep_X4_note hw)
    exact eqJ_X4_readSetting_29 hF
def S_X4_readSetting (v1 : Int32) (M : Mem) : Option (Unit × Mem) :=
  if ¬ v1 = (307 : Int32) then
  (SJ_X4_readSetting_16 v1 (gi M 7 4) (2 : Int32) M)
  else
  (SJ_X4_readSetting_16 v1 (gi M 7 4) (1 : Int32) M)
theorem eqS_X4_readSetting {M : Mem} {v1 : Int32} (hF : FSC M) : L_X4_readSetting (some 7) v1 M = S_X4_readSetting v1 M := by
  unfold L_X4_readSetting S_X4_readSetting
  refine (bi_fI (hF.hk 7)).trans ?_
  refine itc (fun _ => ?_) (fun _ => ?_)
  · exact eqJ_X4_readSetting_16 hF
  · exact eqJ_X4_readSetting_16 hF
def SJ_X4_readOperand_101 (rS : Int32 → Mem → Option (Unit × Mem)) (v2 : Int32) (M : Mem) : Option (Unit × Mem) :=
  if v2 = 0 then
  (some ((), M))
  else
  ((S_X0_emit (5 : Int32) (0 : Int64) M).bind fun w1 =>
  some ((), w1.2))
theorem eqJ_X4_readOperand_101 {M : Mem} {rF : Option Nat → Int32 → Mem → Option (Unit × Mem)} {rS : Int32 → Mem → Option (Unit × Mem)} (hrS : ∀ (a1 : Int32) (Ma : Mem), FSC Ma → rF (some 7) a1 Ma = rS a1 Ma) (hrK : ∀ (a0 : Option Nat) (a1 : Int32) (Ma : Mem) (w : Unit × Mem), rF a0 a1 Ma = some w → KC Ma w.2) {v2 : Int32} (hF : FSC M) : J_X4_readOperand_101 rF (some 7) v2 M = SJ_X4_readOperand_101 rS v2 M := by
  unfold J_X4_readOperand_101 SJ_X4_readOperand_101
  refine itc (fun _ => ?_) (fun _ => ?_)
  · rfl
  · refine (bi_fR (hF.hk 7) (hF.hg 7 1 8)).trans ?_
    refine (bi_ck (hF.hk 8)).trans ?_
    refine bdc (eqS_X0_emit hF) (fun w1 hw => ?_)
    have hF := hF.kc (keep_X0_emit hw)
    rfl
def SJ_X4_readOperand_34 (rS : Int32 → Mem → Option (Unit × Mem)) (v2 : Int32) (M : Mem) : Option (Unit × Mem) :=
  SJ_X4_readOperand_101 rS v2 M
theorem eqJ_X4_readOperand_34 {M : Mem} {rF : Option Nat → Int32 → Mem → Option (Unit × Mem)} {rS : Int32 → Mem → Option (Unit × Mem)} (hrS : ∀ (a1 : Int32) (Ma : Mem), FSC Ma → rF (some 7) a1 Ma = rS a1 Ma) (hrK : ∀ (a0 : Option Nat) (a1 : Int32) (Ma : Mem) (w : Unit × Mem), rF a0 a1 Ma = some w → KC Ma w.2) {v2 : Int32} (hF : FSC M) : J_X4_readOperand_34 rF (some 7) v2 M = SJ_X4_readOperand_34 rS v2 M := by
  unfold J_X4_readOperand_34 SJ_X4_readOperand_34
  exact eqJ_X4_readOperand_101 hrS hrK hF
def SJ_X4_readOperand_92 (rS : Int32 → Mem → Option (Unit × Mem)) (v1 : Int32) (v2 : Int32) (M : Mem) : Option (Unit × Mem) :=
  (S_X4_readReference rS (gi M 7 3) v1 M).bind fun w2 =>
  SJ_X4_readOperand_101 rS v2 w2.2
theorem eqJ_X4_readOperand_92 {M : Mem} {rF : Option Nat → Int32 → Mem → Option (Unit × Mem)} {rS : Int32 → Mem → Option (Unit × Mem)} (hrS : ∀ (a1 : Int32) (Ma : Mem), FSC Ma → rF (some 7) a1 Ma = rS a1 Ma) (hrK : ∀ (a0 : Option Nat) (a1 : Int32) (Ma : Mem) (w : Unit × Mem), rF a0 a1 Ma = some w → KC Ma w.2) {v1 : Int32} {v2 : Int32} (hF : FSC M) : J_X4_readOperand_92 rF (some 7) v1 v2 M = SJ_X4_readOperand_92 rS v1 v2 M := by
  unfold J_X4_readOperand_92 SJ_X4_readOperand_92
  refine (bi_fI (hF.hk 7)).trans ?_
  refine (bi_ck (hF.hk 7)).trans ?_
  refine bdc (eqS_X4_readReference hrS hrK hF) (fun w2 hw => ?_)
  have hF := hF.kc (keep_X4_readReference hrK hw)
  exact eqJ_X4_readOperand_101 hrS hrK hF
def S_X4_readOperand (rS : Int32 → Mem → Option (Unit × Mem)) (v1 : Int32) (M : Mem) : Option (Unit × Mem) :=
  (S_X4_takeMinus M).bind fun w3 =>
  (S_X4_kind w3.2).bind fun w4 =>
  if ¬ w4.1 = (3 : Int32) then
  (if ¬ w4.1 = (40 : Int32) then
  (if w4.1 < (307 : Int32) then
  (SJ_X4_readOperand_92 rS v1 w3.1 w4.2)
  else
  (if (311 : Int32) < w4.1 then
  (SJ_X4_readOperand_92 rS v1 w3.1 w4.2)
  else
  ((S_X4_readSetting w4.1 w4.2).bind fun w5 =>
  SJ_X4_readOperand_101 rS w3.1 w5.2)))
  else
  ((rS (v1 + (1 : Int32)) (si w4.2 7 2 ((gi w4.2 7 2) + (1 : Int32)))).bind fun w6 =>
  (S_X4_take (41 : Int32) w6.2).bind fun w7 =>
  SJ_X4_readOperand_101 rS w3.1 w7.2))
  else
  ((S_X4_readNumberOrYear w4.2).bind fun w8 =>
  if w8.1 = (-1 : Int32) then
  (SJ_X4_readOperand_34 rS w3.1 w8.2)
  else
  ((S_X4_readReference rS w8.1 v1 w8.2).bind fun w9 =>
  SJ_X4_readOperand_34 rS w3.1 w9.2))
theorem eqS_X4_readOperand {M : Mem} {rF : Option Nat → Int32 → Mem → Option (Unit × Mem)} {rS : Int32 → Mem → Option (Unit × Mem)} (hrS : ∀ (a1 : Int32) (Ma : Mem), FSC Ma → rF (some 7) a1 Ma = rS a1 Ma) (hrK : ∀ (a0 : Option Nat) (a1 : Int32) (Ma : Mem) (w : Unit × Mem), rF a0 a1 Ma = some w → KC Ma w.2) {v1 : Int32} (hF : FSC M) : L_X4_readOperand rF (some 7) v1 M = S_X4_readOperand rS v1 M := by
  unfold L_X4_readOperand S_X4_readOperand
  refine (bi_ck (hF.hk 7)).trans ?_
  refine bdc (eqS_X4_takeMinus hF) (fun w3 hw => ?_)
  have hF := hF.kc (keep_X4_takeMinus hw)
  refine (bi_ck (hF.hk 7)).trans ?_
  refine bdc (eqS_X4_kind hF) (fun w4 hw => ?_)
  have hF := hF.kc (keep_X4_kind hw)
  refine itc (fun _ => ?_) (fun _ => ?_)
  · refine itc (fun _ => ?_) (fun _ => ?_)
    · refine itc (fun _ => ?_) (fun _ => ?_)
      · exact eqJ_X4_readOperand_92 hrS hrK hF
      · refine itc (fun _ => ?_) (fun _ => ?_)
        · exact eqJ_X4_readOperand_92 hrS hrK hF
        · refine (bi_ck (hF.hk 7)).trans ?_
          refine bdc (eqS_X4_readSetting hF) (fun w5 hw => ?_)
          have hF := hF.kc (keep_X4_readSetting hw)
          exact eqJ_X4_readOperand_101 hrS hrK hF
    · refine (bi_fI (hF.hk 7)).trans ?_
      refine (bi_pI (hF.hk 7)).trans ?_
      have hF : FSC (si w4.2 7 2 ((gi w4.2 7 2) + (1 : Int32))) := hF.kc kc_si
      refine (bi_ck (hF.hk 7)).trans ?_
      refine bdc (hrS _ _ hF) (fun w6 hw => ?_)
      have hF := hF.kc (hrK _ _ _ _ hw)
      refine (bi_ck (hF.hk 7)).trans ?_
      refine bdc (eqS_X4_take hF) (fun w7 hw => ?_)
      have hF := hF.kc (keep_X4_take hw)
      exact eqJ_X4_readOperand_101 hrS hrK hF
  · refine (bi_ck (hF.hk 7)).trans ?_
    refine bdc (eqS_X4_readNumberOrYear hF) (fun w8 hw => ?_)
    have hF := hF.kc (keep_X4_readNumberOrYear hw)
    refine itc (fun _ => ?_) (fun _ => ?_)
    · exact eqJ_X4_readOperand_34 hrS hrK hF
    · refine (bi_ck (hF.hk 7)).trans ?_
      refine bdc (eqS_X4_readReference hrS hrK hF) (fun w9 hw => ?_)
      have hF := hF.kc (keep_X4_readReference hrK hw)
      exact eqJ_X4_readOperand_34 hrS hrK hF
def SJ_X4_readProduct_15 (rS : Int32 → Mem → Option (Unit × Mem)) : Nat → Int32 → Int32 → Int32 → Mem → Option (Unit × Mem)
  | 0 => fun _ _ _ _ => none
  | n + 1 => fun v1 v2 v3 M =>
  if (900 : Int32) ≤ v3 then
  (some ((), M))
  else
  (if v2 = (-1 : Int32) then
  (some ((), M))
  else
  ((S_X4_readOperand rS v1 (si M 7 2 ((gi M 7 2) + (1 : Int32)))).bind fun w1 =>
  (S_X0_emit v2 (0 : Int64) w1.2).bind fun w2 =>
  (S_X4_kind w2.2).bind fun w3 =>
  (L_X4_factor w3.1 w3.2).bind fun w4 =>
  SJ_X4_readProduct_15 rS n v1 w4.1 (v3 + 1) w4.2))
theorem eqJ_X4_readProduct_15 {rF : Option Nat → Int32 → Mem → Option (Unit × Mem)} {rS : Int32 → Mem → Option (Unit × Mem)} (hrS : ∀ (a1 : Int32) (Ma : Mem), FSC Ma → rF (some 7) a1 Ma = rS a1 Ma) (hrK : ∀ (a0 : Option Nat) (a1 : Int32) (Ma : Mem) (w : Unit × Mem), rF a0 a1 Ma = some w → KC Ma w.2) : ∀ (n : Nat) (v1 : Int32) (v2 : Int32) (v3 : Int32) (M : Mem), FSC M → J_X4_readProduct_15 rF n (some 7) v1 v2 v3 M = SJ_X4_readProduct_15 rS n v1 v2 v3 M := by
  intro n
  induction n with
  | zero => intro v1 v2 v3 M  hF; rfl
  | succ n ih =>
    intro v1 v2 v3 M  hF
    unfold J_X4_readProduct_15 SJ_X4_readProduct_15
    refine itc (fun _ => ?_) (fun _ => ?_)
    · rfl
    · refine itc (fun _ => ?_) (fun _ => ?_)
      · rfl
      · refine (bi_fI (hF.hk 7)).trans ?_
        refine (bi_pI (hF.hk 7)).trans ?_
        have hF : FSC (si M 7 2 ((gi M 7 2) + (1 : Int32))) := hF.kc kc_si
        refine (bi_ck (hF.hk 7)).trans ?_
        refine bdc (eqS_X4_readOperand hrS hrK hF) (fun w1 hw => ?_)
        have hF := hF.kc (keep_X4_readOperand hrK hw)
        refine (bi_fR (hF.hk 7) (hF.hg 7 1 8)).trans ?_
        refine (bi_ck (hF.hk 8)).trans ?_
        refine bdc (eqS_X0_emit hF) (fun w2 hw => ?_)
        have hF := hF.kc (keep_X0_emit hw)
        refine (bi_ck (hF.hk 7)).trans ?_
        refine bdc (eqS_X4_kind hF) (fun w3 hw => ?_)
        have hF := hF.kc (keep_X4_kind hw)
        refine bdc rfl (fun w4 hw => ?_)
        have hF := hF.kc (keep_X4_factor hw)
        exact ih _ _ _ _ hF
def S_X4_readProduct (rS : Int32 → Mem → Option (Unit × Mem)) (v1 : Int32) (M : Mem) : Option (Unit × Mem) :=
  (S_X4_readOperand rS v1 M).bind fun w5 =>
  (S_X4_kind w5.2).bind fun w6 =>
  (L_X4_factor w6.1 w6.2).bind fun w7 =>
  SJ_X4_readProduct_15 rS FU v1 w7.1 (0 : Int32) w7.2
theorem eqS_X4_readProduct {M : Mem} {rF : Option Nat → Int32 → Mem → Option (Unit × Mem)} {rS : Int32 → Mem → Option (Unit × Mem)} (hrS : ∀ (a1 : Int32) (Ma : Mem), FSC Ma → rF (some 7) a1 Ma = rS a1 Ma) (hrK : ∀ (a0 : Option Nat) (a1 : Int32) (Ma : Mem) (w : Unit × Mem), rF a0 a1 Ma = some w → KC Ma w.2) {v1 : Int32} (hF : FSC M) : L_X4_readProduct rF (some 7) v1 M = S_X4_readProduct rS v1 M := by
  unfold L_X4_readProduct S_X4_readProduct
  refine (bi_ck (hF.hk 7)).trans ?_
  refine bdc (eqS_X4_readOperand hrS hrK hF) (fun w5 hw => ?_)
  have hF := hF.kc (keep_X4_readOperand hrK hw)
  refine (bi_ck (hF.hk 7)).trans ?_
  refine bdc (eqS_X4_kind hF) (fun w6 hw => ?_)
  have hF := hF.kc (keep_X4_kind hw)
  refine bdc rfl (fun w7 hw => ?_)
  have hF := hF.kc (keep_X4_factor hw)
  exact eqJ_X4_readProduct_15 hrS hrK FU _ _ _ _ hF
def SJ_X4_readSum_48 (rS : Int32 → Mem → Option (Unit × Mem)) (k_7 : Int32 → Int32 → Mem → Option (Unit × Mem)) (v1 : Int32) (v2 : Int32) (s0 : Int32) (M : Mem) : Option (Unit × Mem) :=
  (S_X4_readProduct rS v1 (si M 7 2 ((gi M 7 2) + (1 : Int32)))).bind fun w1 =>
  (S_X0_emit s0 (0 : Int64) w1.2).bind fun w2 =>
  k_7 v1 (v2 + 1) w2.2
theorem eqJ_X4_readSum_48 {M : Mem} {rF : Option Nat → Int32 → Mem → Option (Unit × Mem)} {rS : Int32 → Mem → Option (Unit × Mem)} (hrS : ∀ (a1 : Int32) (Ma : Mem), FSC Ma → rF (some 7) a1 Ma = rS a1 Ma) (hrK : ∀ (a0 : Option Nat) (a1 : Int32) (Ma : Mem) (w : Unit × Mem), rF a0 a1 Ma = some w → KC Ma w.2) {k_7 : Option Nat → Int32 → Int32 → Mem → Option (Unit × Mem)} {q_7 : Int32 → Int32 → Mem → Option (Unit × Mem)} (hk_7 : ∀ (v1 : Int32) (v2 : Int32) (Ma : Mem), FSC Ma → k_7 (some 7) v1 v2 Ma = q_7 v1 v2 Ma) {v1 : Int32} {v2 : Int32} {s0 : Int32} (hF : FSC M) : J_X4_readSum_48 rF k_7 (some 7) v1 v2 s0 M = SJ_X4_readSum_48 rS q_7 v1 v2 s0 M := by
  unfold J_X4_readSum_48 SJ_X4_readSum_48
  refine (bi_fI (hF.hk 7)).trans ?_
  refine (bi_pI (hF.hk 7)).trans ?_
  have hF : FSC (si M 7 2 ((gi M 7 2) + (1 : Int32))) := hF.kc kc_si
  refine (bi_ck (hF.hk 7)).trans ?_
  refine bdc (eqS_X4_readProduct hrS hrK hF) (fun w1 hw => ?_)
  have hF := hF.kc (keep_X4_readProduct hrK hw)
  refine (bi_fR (hF.hk 7) (hF.hg 7 1 8)).trans ?_
  refine (bi_ck (hF.hk 8)).trans ?_
  refine bdc (eqS_X0_emit hF) (fun w2 hw => ?_)
  have hF := hF.kc (keep_X0_emit hw)
  exact hk_7 _ _ _ hF
def SJ_X4_readSum_32 (rS : Int32 → Mem → Option (Unit × Mem)) (k_7 : Int32 → Int32 → Mem → Option (Unit × Mem)) (v1 : Int32) (v2 : Int32) (M : Mem) : Option (Unit × Mem) :=
  (S_X4_kind M).bind fun w3 =>
  if ¬ w3.1 = (43 : Int32) then
  (SJ_X4_readSum_48 rS k_7 v1 v2 (7 : Int32) w3.2)
  else
  (SJ_X4_readSum_48 rS k_7 v1 v2 (6 : Int32) w3.2)
theorem eqJ_X4_readSum_32 {M : Mem} {rF : Option Nat → Int32 → Mem → Option (Unit × Mem)} {rS : Int32 → Mem → Option (Unit × Mem)} (hrS : ∀ (a1 : Int32) (Ma : Mem), FSC Ma → rF (some 7) a1 Ma = rS a1 Ma) (hrK : ∀ (a0 : Option Nat) (a1 : Int32) (Ma : Mem) (w : Unit × Mem), rF a0 a1 Ma = some w → KC Ma w.2) {k_7 : Option Nat → Int32 → Int32 → Mem → Option (Unit × Mem)} {q_7 : Int32 → Int32 → Mem → Option (Unit × Mem)} (hk_7 : ∀ (v1 : Int32) (v2 : Int32) (Ma : Mem), FSC Ma → k_7 (some 7) v1 v2 Ma = q_7 v1 v2 Ma) {v1 : Int32} {v2 : Int32} (hF : FSC M) : J_X4_readSum_32 rF k_7 (some 7) v1 v2 M = SJ_X4_readSum_32 rS q_7 v1 v2 M := by
  unfold J_X4_readSum_32 SJ_X4_readSum_32
  refine (bi_ck (hF.hk 7)).trans ?_
  refine bdc (eqS_X4_kind hF) (fun w3 hw => ?_)
  have hF := hF.kc (keep_X4_kind hw)
  refine itc (fun _ => ?_) (fun _ => ?_)
  · exact eqJ_X4_readSum_48 hrS hrK hk_7 hF
  · exact eqJ_X4_readSum_48 hrS hrK hk_7 hF
def SJ_X4_readSum_7 (rS : Int32 → Mem → Option (Unit × Mem)) : Nat → Int32 → Int32 → Mem → Option (Unit × Mem)
  | 0 => fun _ _ _ => none
  | n + 1 => fun v1 v2 M =>
  if (900 : Int32) ≤ v2 then
  (some ((), M))
  else
  ((S_X4_kind M).bind fun w4 =>
  if w4.1 = (43 : Int32) then
  (SJ_X4_readSum_32 rS (SJ_X4_readSum_7 rS n) v1 v2 w4.2)
  else
  ((S_X4_kind w4.2).bind fun w5 =>
  if ¬ w5.1 = (45 : Int32) then
  (some ((), w5.2))
  else
  (SJ_X4_readSum_32 rS (SJ_X4_readSum_7 rS n) v1 v2 w5.2)))
theorem eqJ_X4_readSum_7 {rF : Option Nat → Int32 → Mem → Option (Unit × Mem)} {rS : Int32 → Mem → Option (Unit × Mem)} (hrS : ∀ (a1 : Int32) (Ma : Mem), FSC Ma → rF (some 7) a1 Ma = rS a1 Ma) (hrK : ∀ (a0 : Option Nat) (a1 : Int32) (Ma : Mem) (w : Unit × Mem), rF a0 a1 Ma = some w → KC Ma w.2) : ∀ (n : Nat) (v1 : Int32) (v2 : Int32) (M : Mem), FSC M → J_X4_readSum_7 rF n (some 7) v1 v2 M = SJ_X4_readSum_7 rS n v1 v2 M := by
  intro n
  induction n with
  | zero => intro v1 v2 M  hF; rfl
  | succ n ih =>
    intro v1 v2 M  hF
    unfold J_X4_readSum_7 SJ_X4_readSum_7
    refine itc (fun _ => ?_) (fun _ => ?_)
    · rfl
    · refine (bi_ck (hF.hk 7)).trans ?_
      refine bdc (eqS_X4_kind hF) (fun w4 hw => ?_)
      have hF := hF.kc (keep_X4_kind hw)
      refine itc (fun _ => ?_) (fun _ => ?_)
      · exact eqJ_X4_readSum_32 hrS hrK ih hF
      · refine (bi_ck (hF.hk 7)).trans ?_
        refine bdc (eqS_X4_kind hF) (fun w5 hw => ?_)
        have hF := hF.kc (keep_X4_kind hw)
        refine itc (fun _ => ?_) (fun _ => ?_)
        · rfl
        · exact eqJ_X4_readSum_32 hrS hrK ih hF
def S_X4_readSum (rS : Int32 → Mem → Option (Unit × Mem)) (v1 : Int32) (M : Mem) : Option (Unit × Mem) :=
  (S_X4_readProduct rS v1 M).bind fun w6 =>
  SJ_X4_readSum_7 rS FU v1 (0 : Int32) w6.2
theorem eqS_X4_readSum {M : Mem} {rF : Option Nat → Int32 → Mem → Option (Unit × Mem)} {rS : Int32 → Mem → Option (Unit × Mem)} (hrS : ∀ (a1 : Int32) (Ma : Mem), FSC Ma → rF (some 7) a1 Ma = rS a1 Ma) (hrK : ∀ (a0 : Option Nat) (a1 : Int32) (Ma : Mem) (w : Unit × Mem), rF a0 a1 Ma = some w → KC Ma w.2) {v1 : Int32} (hF : FSC M) : L_X4_readSum rF (some 7) v1 M = S_X4_readSum rS v1 M := by
  unfold L_X4_readSum S_X4_readSum
  refine (bi_ck (hF.hk 7)).trans ?_
  refine bdc (eqS_X4_readProduct hrS hrK hF) (fun w6 hw => ?_)
  have hF := hF.kc (keep_X4_readProduct hrK hw)
  exact eqJ_X4_readSum_7 hrS hrK FU _ _ _ hF
def SJ_X4_readChoice_54 (rS : Int32 → Mem → Option (Unit × Mem)) (v1 : Int32) (M : Mem) : Option (Unit × Mem) :=
  (S_X4_kind M).bind fun w1 =>
  if w1.1 = (63 : Int32) then
  ((S_X0_emit (15 : Int32) (0 : Int64) (si w1.2 7 2 ((gi w1.2 7 2) + (1 : Int32)))).bind fun w2 =>
  (rS (v1 + (1 : Int32)) w2.2).bind fun w3 =>
  (S_X4_take (58 : Int32) w3.2).bind fun w4 =>
  (S_X0_emit (14 : Int32) (0 : Int64) w4.2).bind fun w5 =>
  (S_X0_landHere w2.1 w5.2).bind fun w6 =>
  (rS (v1 + (1 : Int32)) w6.2).bind fun w7 =>
  (S_X0_landHere w5.1 w7.2).bind fun w8 =>
  some ((), w8.2))
  else
  (some ((), w1.2))
theorem eqJ_X4_readChoice_54 {M : Mem} {rF : Option Nat → Int32 → Mem → Option (Unit × Mem)} {rS : Int32 → Mem → Option (Unit × Mem)} (hrS : ∀ (a1 : Int32) (Ma : Mem), FSC Ma → rF (some 7) a1 Ma = rS a1 Ma) (hrK : ∀ (a0 : Option Nat) (a1 : Int32) (Ma : Mem) (w : Unit × Mem), rF a0 a1 Ma = some w → KC Ma w.2) {v1 : Int32} (hF : FSC M) : J_X4_readChoice_54 rF (some 7) v1 M = SJ_X4_readChoice_54 rS v1 M := by
  unfold J_X4_readChoice_54 SJ_X4_readChoice_54
  refine (bi_ck (hF.hk 7)).trans ?_
  refine bdc (eqS_X4_kind hF) (fun w1 hw => ?_)
  have hF := hF.kc (keep_X4_kind hw)
  refine itc (fun _ => ?_) (fun _ => ?_)
  · refine (bi_fI (hF.hk 7)).trans ?_
    refine (bi_pI (hF.hk 7)).trans ?_
    have hF : FSC (si w1.2 7 2 ((gi w1.2 7 2) + (1 : Int32))) := hF.kc kc_si
    refine (bi_fR (hF.hk 7) (hF.hg 7 1 8)).trans ?_
    refine (bi_ck (hF.hk 8)).trans ?_
    refine bdc (eqS_X0_emit hF) (fun w2 hw => ?_)
    have hF := hF.kc (keep_X0_emit hw)
    refine (bi_ck (hF.hk 7)).trans ?_
    refine bdc (hrS _ _ hF) (fun w3 hw => ?_)
    have hF := hF.kc (hrK _ _ _ _ hw)
    refine (bi_ck (hF.hk 7)).trans ?_
    refine bdc (eqS_X4_take hF) (fun w4 hw => ?_)
    have hF := hF.kc (keep_X4_take hw)
    refine (bi_fR (hF.hk 7) (hF.hg 7 1 8)).trans ?_
    refine (bi_ck (hF.hk 8)).trans ?_
    refine bdc (eqS_X0_emit hF) (fun w5 hw => ?_)
    have hF := hF.kc (keep_X0_emit hw)
    refine (bi_fR (hF.hk 7) (hF.hg 7 1 8)).trans ?_
    refine (bi_ck (hF.hk 8)).trans ?_
    refine bdc (eqS_X0_landHere hF) (fun w6 hw => ?_)
    have hF := hF.kc (keep_X0_landHere hw)
    refine (bi_ck (hF.hk 7)).trans ?_
    refine bdc (hrS _ _ hF) (fun w7 hw => ?_)
    have hF := hF.kc (hrK _ _ _ _ hw)
    refine (bi_fR (hF.hk 7) (hF.hg 7 1 8)).trans ?_
    refine (bi_ck (hF.hk 8)).trans ?_
    refine bdc (eqS_X0_landHere hF) (fun w8 hw => ?_)
    have hF := hF.kc (keep_X0_landHere hw)
    rfl
  · rfl
def SB_X4_readChoice (rS : Int32 → Mem → Option (Unit × Mem)) (v1 : Int32) (M : Mem) : Option (Unit × Mem) :=
  if v1 ≤ (12 : Int32) then
  ((S_X4_readSum rS v1 M).bind fun w9 =>
  (S_X4_kind w9.2).bind fun w10 =>
  (L_X4_comparison w10.1 w10.2).bind fun w11 =>
  if w11.1 = (-1 : Int32) then
  (SJ_X4_readChoice_54 rS v1 w11.2)
  else
  ((S_X4_readSum rS v1 (si w11.2 7 2 ((gi w11.2 7 2) + (1 : Int32)))).bind fun w12 =>
  (S_X0_emit w11.1 (0 : Int64) w12.2).bind fun w13 =>
  SJ_X4_readChoice_54 rS v1 w13.2))
  else
  ((S_X4_reject M).bind fun w14 =>
  some ((), w14.2))
theorem eqB_X4_readChoice {M : Mem} {rF : Option Nat → Int32 → Mem → Option (Unit × Mem)} {rS : Int32 → Mem → Option (Unit × Mem)} (hrS : ∀ (a1 : Int32) (Ma : Mem), FSC Ma → rF (some 7) a1 Ma = rS a1 Ma) (hrK : ∀ (a0 : Option Nat) (a1 : Int32) (Ma : Mem) (w : Unit × Mem), rF a0 a1 Ma = some w → KC Ma w.2) {v1 : Int32} (hF : FSC M) : B_X4_readChoice rF (some 7) v1 M = SB_X4_readChoice rS v1 M := by
  unfold B_X4_readChoice SB_X4_readChoice
  refine itc (fun _ => ?_) (fun _ => ?_)
  · refine (bi_ck (hF.hk 7)).trans ?_
    refine bdc (eqS_X4_readSum hrS hrK hF) (fun w9 hw => ?_)
    have hF := hF.kc (keep_X4_readSum hrK hw)
    refine (bi_ck (hF.hk 7)).trans ?_
    refine bdc (eqS_X4_kind hF) (fun w10 hw => ?_)
    have hF := hF.kc (keep_X4_kind hw)
    refine bdc rfl (fun w11 hw => ?_)
    have hF := hF.kc (keep_X4_comparison hw)
    refine itc (fun _ => ?_) (fun _ => ?_)
    · exact eqJ_X4_readChoice_54 hrS hrK hF
    · refine (bi_fI (hF.hk 7)).trans ?_
      refine (bi_pI (hF.hk 7)).trans ?_
      have hF : FSC (si w11.2 7 2 ((gi w11.2 7 2) + (1 : Int32))) := hF.kc kc_si
      refine (bi_ck (hF.hk 7)).trans ?_
      refine bdc (eqS_X4_readSum hrS hrK hF) (fun w12 hw => ?_)
      have hF := hF.kc (keep_X4_readSum hrK hw)
      refine (bi_fR (hF.hk 7) (hF.hg 7 1 8)).trans ?_
      refine (bi_ck (hF.hk 8)).trans ?_
      refine bdc (eqS_X0_emit hF) (fun w13 hw => ?_)
      have hF := hF.kc (keep_X0_emit hw)
      exact eqJ_X4_readChoice_54 hrS hrK hF
  · refine (bi_ck (hF.hk 7)).trans ?_
    refine bdc (eqS_X4_reject hF) (fun w14 hw => ?_)
    have hF := hF.kc (keep_X4_reject hw)
    rfl
def S_X4_readChoice : Nat → Int32 → Mem → Option (Unit × Mem)
  | 0 => fun _ _ => none
  | n + 1 => SB_X4_readChoice (S_X4_readChoice n)
theorem eqS_X4_readChoice : ∀ (n : Nat) {M : Mem} {v1 : Int32} (hF : FSC M), L_X4_readChoice n (some 7) v1 M = S_X4_readChoice n v1 M
  | 0 => fun _ => rfl
  | n + 1 => fun hF => eqB_X4_readChoice (rF := L_X4_readChoice n) (rS := S_X4_readChoice n) (fun _ _ hF => eqS_X4_readChoice n hF) (fun _ _ _ _ h => keep_X4_readChoice n h) hF
def SJ_X4_readRule_20  (M : Mem) : Option (Unit × Mem) :=
  (S_X0_emit (14 : Int32) (0 : Int64) (si M 7 2 ((gi M 7 2) + (1 : Int32)))).bind fun w1 =>
  (S_X4_readChoice 14 (1 : Int32) (si (si w1.2 8 3 (gi w1.2 8 6)) 7 4 (2 : Int32))).bind fun w2 =>
  (S_X0_emit (20 : Int32) (0 : Int64) (si w2.2 7 4 (0 : Int32))).bind fun w3 =>
  (S_X0_landHere w1.1 w3.2).bind fun w4 =>
  (S_X4_take (59 : Int32) w4.2).bind fun w5 =>
  some ((), w5.2)
theorem eqJ_X4_readRule_20 {M : Mem} (hF : FSC M) : J_X4_readRule_20 (some 7) M = SJ_X4_readRule_20  M := by
  unfold J_X4_readRule_20 SJ_X4_readRule_20
  refine (bi_fI (hF.hk 7)).trans ?_
  refine (bi_pI (hF.hk 7)).trans ?_
  have hF : FSC (si M 7 2 ((gi M 7 2) + (1 : Int32))) := hF.kc kc_si
  refine (bi_fR (hF.hk 7) (hF.hg 7 1 8)).trans ?_
  refine (bi_ck (hF.hk 8)).trans ?_
  refine bdc (eqS_X0_emit hF) (fun w1 hw => ?_)
  have hF := hF.kc (keep_X0_emit hw)
  refine (bi_fR (hF.hk 7) (hF.hg 7 1 8)).trans ?_
  refine (bi_fR (hF.hk 7) (hF.hg 7 1 8)).trans ?_
  refine (bi_fI (hF.hk 8)).trans ?_
  refine (bi_pI (hF.hk 8)).trans ?_
  have hF : FSC (si w1.2 8 3 (gi w1.2 8 6)) := hF.kc kc_si
  refine (bi_pI (hF.hk 7)).trans ?_
  have hF : FSC (si (si w1.2 8 3 (gi w1.2 8 6)) 7 4 (2 : Int32)) := hF.kc kc_si
  refine (bi_ck (hF.hk 7)).trans ?_
  refine bdc (eqS_X4_readChoice 14 hF) (fun w2 hw => ?_)
  have hF := hF.kc (keep_X4_readChoice 14 hw)
  refine (bi_pI (hF.hk 7)).trans ?_
  have hF : FSC (si w2.2 7 4 (0 : Int32)) := hF.kc kc_si
  refine (bi_fR (hF.hk 7) (hF.hg 7 1 8)).trans ?_
  refine (bi_ck (hF.hk 8)).trans ?_
  refine bdc (eqS_X0_emit hF) (fun w3 hw => ?_)
  have hF := hF.kc (keep_X0_emit hw)
  refine (bi_fR (hF.hk 7) (hF.hg 7 1 8)).trans ?_
  refine (bi_ck (hF.hk 8)).trans ?_
  refine bdc (eqS_X0_landHere hF) (fun w4 hw => ?_)
  have hF := hF.kc (keep_X0_landHere hw)
  refine (bi_ck (hF.hk 7)).trans ?_
  refine bdc (eqS_X4_take hF) (fun w5 hw => ?_)
  have hF := hF.kc (keep_X4_take hw)
  rfl
def S_X4_readRule  (M : Mem) : Option (Unit × Mem) :=
  if (gi M 8 3) = (-1 : Int32) then
  (SJ_X4_readRule_20  M)
  else
  ((S_X4_place M).bind fun w6 =>
  (S_X4_note (2 : Int32) w6.1 w6.2).bind fun w7 =>
  SJ_X4_readRule_20  w7.2)
theorem eqS_X4_readRule {M : Mem} (hF : FSC M) : L_X4_readRule (some 7) M = S_X4_readRule  M := by
  unfold L_X4_readRule S_X4_readRule
  refine (bi_fR (hF.hk 7) (hF.hg 7 1 8)).trans ?_
  refine (bi_fI (hF.hk 8)).trans ?_
  refine itc (fun _ => ?_) (fun _ => ?_)
  · exact eqJ_X4_readRule_20 hF
  · refine (bi_ck (hF.hk 7)).trans ?_
    refine bdc (eqS_X4_place hF) (fun w6 hw => ?_)
    have hF := hF.kc (keep_X4_place hw)
    refine (bi_ck (hF.hk 7)).trans ?_
    refine bdc (eqS_X4_note hF) (fun w7 hw => ?_)
    have hF := hF.kc (keep_X4_note hw)
    exact eqJ_X4_readRule_20 hF
def SJ_X4_takeNumber_35 (v3 : Int32) (v4 : Int64) (M : Mem) : Option (Int64 × Mem) :=
  (S_X4_note (4 : Int32) v3 M).bind fun w1 =>
  some (v4, w1.2)
theorem eqJ_X4_takeNumber_35 {M : Mem} {v3 : Int32} {v4 : Int64} (hF : FSC M) : J_X4_takeNumber_35 (some 7) v3 v4 M = SJ_X4_takeNumber_35 v3 v4 M := by
  unfold J_X4_takeNumber_35 SJ_X4_takeNumber_35
  refine (bi_ck (hF.hk 7)).trans ?_
  refine bdc (eqS_X4_note hF) (fun w1 hw => ?_)
  have hF := hF.kc (keep_X4_note hw)
  rfl
def S_X4_takeNumber (v1 : Int32) (v2 : Int32) (M : Mem) : Option (Int64 × Mem) :=
  (S_X4_place M).bind fun w2 =>
  (S_X4_content w2.2).bind fun w3 =>
  (S_X4_take (3 : Int32) w3.2).bind fun w4 =>
  if w4.1 = 0 then
  (some (w3.1, w4.2))
  else
  (if w3.1 < v1.toInt64 then
  (SJ_X4_takeNumber_35 w2.1 w3.1 w4.2)
  else
  (if w3.1 ≤ v2.toInt64 then
  (some (w3.1, w4.2))
  else
  (SJ_X4_takeNumber_35 w2.1 w3.1 w4.2)))
theorem eqS_X4_takeNumber {M : Mem} {v1 : Int32} {v2 : Int32} (hF : FSC M) : L_X4_takeNumber (some 7) v1 v2 M = S_X4_takeNumber v1 v2 M := by
  unfold L_X4_takeNumber S_X4_takeNumber
  refine (bi_ck (hF.hk 7)).trans ?_
  refine bdc (eqS_X4_place hF) (fun w2 hw => ?_)
  have hF := hF.kc (keep_X4_place hw)
  refine (bi_ck (hF.hk 7)).trans ?_
  refine bdc (eqS_X4_content hF) (fun w3 hw => ?_)
  have hF := hF.kc (keep_X4_content hw)
  refine (bi_ck (hF.hk 7)).trans ?_
  refine bdc (eqS_X4_take hF) (fun w4 hw => ?_)
  have hF := hF.kc (keep_X4_take hw)
  refine itc (fun _ => ?_) (fun _ => ?_)
  · rfl
  · refine itc (fun _ => ?_) (fun _ => ?_)
    · exact eqJ_X4_takeNumber_35 hF
    · refine itc (fun _ => ?_) (fun _ => ?_)
      · rfl
      · exact eqJ_X4_takeNumber_35 hF
def SJ_X4_readTable_23 (v1 : Int32) (M : Mem) : Option (Unit × Mem) :=
  (S_X4_takeNewName (si M 7 2 ((gi M 7 2) + (1 : Int32)))).bind fun w1 =>
  (S_X4_takeNumber (1 : Int32) (12 : Int32) w1.2).bind fun w2 =>
  (S_X4_take (61 : Int32) w2.2).bind fun w3 =>
  (S_X0_addTable w1.1 w2.1 w3.2).bind fun w4 =>
  (S_X0_emit (17 : Int32) (0 : Int64) w4.2).bind fun w5 =>
  (S_X4_readChoice 14 (1 : Int32) (si w5.2 7 4 (1 : Int32))).bind fun w6 =>
  (S_X0_emit (18 : Int32) ((((gi w5.2 8 6).toInt64) * (8 : Int64)) + v1.toInt64) (si w6.2 7 4 (0 : Int32))).bind fun w7 =>
  (S_X4_take (59 : Int32) w7.2).bind fun w8 =>
  some ((), w8.2)
theorem eqJ_X4_readTable_23 {M : Mem} {v1 : Int32} (hF : FSC M) : J_X4_readTable_23 (some 7) v1 M = SJ_X4_readTable_23 v1 M := by
  unfold J_X4_readTable_23 SJ_X4_readTable_23
  refine (bi_fI (hF.hk 7)).trans ?_
  refine (bi_pI (hF.hk 7)).trans ?_
  have hF : FSC (si M 7 2 ((gi M 7 2) + (1 : Int32))) := hF.kc kc_si
  refine (bi_ck (hF.hk 7)).trans ?_
  refine bdc (eqS_X4_takeNewName hF) (fun w1 hw => ?_)
  have hF := hF.kc (keep_X4_takeNewName hw)
  refine (bi_ck (hF.hk 7)).trans ?_
  refine bdc (eqS_X4_takeNumber hF) (fun w2 hw => ?_)
  have hF := hF.kc (keep_X4_takeNumber hw)
  refine (bi_ck (hF.hk 7)).trans ?_
  refine bdc (eqS_X4_take hF) (fun w3 hw => ?_)
  have hF := hF.kc (keep_X4_take hw)
  refine (bi_fR (hF.hk 7) (hF.hg 7 1 8)).trans ?_
  refine (bi_ck (hF.hk 8)).trans ?_
  refine bdc (eqS_X0_addTable hF) (fun w4 hw => ?_)
  have hF := hF.kc (keep_X0_addTable hw)
  refine (bi_fR (hF.hk 7) (hF.hg 7 1 8)).trans ?_
  refine (bi_ck (hF.hk 8)).trans ?_
  refine bdc (eqS_X0_emit hF) (fun w5 hw => ?_)
  have hF := hF.kc (keep_X0_emit hw)
  refine (bi_fR (hF.hk 7) (hF.hg 7 1 8)).trans ?_
  refine (bi_fI (hF.hk 8)).trans ?_
  refine (bi_pI (hF.hk 7)).trans ?_
  have hF : FSC (si w5.2 7 4 (1 : Int32)) := hF.kc kc_si
  refine (bi_ck (hF.hk 7)).trans ?_
  refine bdc (eqS_X4_readChoice 14 hF) (fun w6 hw => ?_)
  have hF := hF.kc (keep_X4_readChoice 14 hw)
  refine (bi_pI (hF.hk 7)).trans ?_
  have hF : FSC (si w6.2 7 4 (0 : Int32)) := hF.kc kc_si
  refine (bi_fR (hF.hk 7) (hF.hg 7 1 8)).trans ?_
  refine (bi_ck (hF.hk 8)).trans ?_
  refine bdc (eqS_X0_emit hF) (fun w7 hw => ?_)
  have hF := hF.kc (keep_X0_emit hw)
  refine (bi_ck (hF.hk 7)).trans ?_
  refine bdc (eqS_X4_take hF) (fun w8 hw => ?_)
  have hF := hF.kc (keep_X4_take hw)
  rfl
def S_X4_readTable  (M : Mem) : Option (Unit × Mem) :=
  if (gi M 8 12) < (6 : Int32) then
  (SJ_X4_readTable_23 (gi M 8 12) M)
  else
  ((S_X4_place M).bind fun w9 =>
  (S_X4_note (5 : Int32) w9.1 w9.2).bind fun w10 =>
  SJ_X4_readTable_23 (gi M 8 12) w10.2)
theorem eqS_X4_readTable {M : Mem} (hF : FSC M) : L_X4_readTable (some 7) M = S_X4_readTable  M := by
  unfold L_X4_readTable S_X4_readTable
  refine (bi_fR (hF.hk 7) (hF.hg 7 1 8)).trans ?_
  refine (bi_fI (hF.hk 8)).trans ?_
  refine itc (fun _ => ?_) (fun _ => ?_)
  · exact eqJ_X4_readTable_23 hF
  · refine (bi_ck (hF.hk 7)).trans ?_
    refine bdc (eqS_X4_place hF) (fun w9 hw => ?_)
    have hF := hF.kc (keep_X4_place hw)
    refine (bi_ck (hF.hk 7)).trans ?_
    refine bdc (eqS_X4_note hF) (fun w10 hw => ?_)
    have hF := hF.kc (keep_X4_note hw)
    exact eqJ_X4_readTable_23 hF
def S_X4_readCheck  (M : Mem) : Option (Unit × Mem) :=
  (S_X4_readChoice 14 (1 : Int32) (si M 7 2 ((gi M 7 2) + (1 : Int32)))).bind fun w1 =>
  (S_X4_take (58 : Int32) w1.2).bind fun w2 =>
  (S_X4_takeNumber (1 : Int32) (800 : Int32) w2.2).bind fun w3 =>
  (S_X0_emit (19 : Int32) w3.1 w3.2).bind fun w4 =>
  (S_X4_take (59 : Int32) w4.2).bind fun w5 =>
  some ((), w5.2)
theorem eqS_X4_readCheck {M : Mem} (hF : FSC M) : L_X4_readCheck (some 7) M = S_X4_readCheck  M := by
  unfold L_X4_readCheck S_X4_readCheck
  refine (bi_fI (hF.hk 7)).trans ?_
  refine (bi_pI (hF.hk 7)).trans ?_
  have hF : FSC (si M 7 2 ((gi M 7 2) + (1 : Int32))) := hF.kc kc_si
  refine (bi_ck (hF.hk 7)).trans ?_
  refine bdc (eqS_X4_readChoice 14 hF) (fun w1 hw => ?_)
  have hF := hF.kc (keep_X4_readChoice 14 hw)
  refine (bi_ck (hF.hk 7)).trans ?_
  refine bdc (eqS_X4_take hF) (fun w2 hw => ?_)
  have hF := hF.kc (keep_X4_take hw)
  refine (bi_ck (hF.hk 7)).trans ?_
  refine bdc (eqS_X4_takeNumber hF) (fun w3 hw => ?_)
  have hF := hF.kc (keep_X4_takeNumber hw)
  refine (bi_fR (hF.hk 7) (hF.hg 7 1 8)).trans ?_
  refine (bi_ck (hF.hk 8)).trans ?_
  refine bdc (eqS_X0_emit hF) (fun w4 hw => ?_)
  have hF := hF.kc (keep_X0_emit hw)
  refine (bi_ck (hF.hk 7)).trans ?_
  refine bdc (eqS_X4_take hF) (fun w5 hw => ?_)
  have hF := hF.kc (keep_X4_take hw)
  rfl
def SJ_X4_readSteps_2 (rS : Int32 → Mem → Option (Unit × Mem)) : Nat → Int32 → Int32 → Mem → Option (Unit × Mem)
  | 0 => fun _ _ _ => none
  | n + 1 => fun v1 v2 M =>
  if (900 : Int32) < v2 then
  (some ((), M))
  else
  ((S_X4_kind M).bind fun w1 =>
  if w1.1 = (125 : Int32) then
  (some ((), w1.2))
  else
  (if ¬ (gi w1.2 7 5) = 0 then
  (some ((), w1.2))
  else
  ((rS v1 w1.2).bind fun w2 =>
  SJ_X4_readSteps_2 rS n v1 (v2 + 1) w2.2)))
theorem eqJ_X4_readSteps_2 {rF : Option Nat → Int32 → Mem → Option (Unit × Mem)} {rS : Int32 → Mem → Option (Unit × Mem)} (hrS : ∀ (a1 : Int32) (Ma : Mem), FSC Ma → rF (some 7) a1 Ma = rS a1 Ma) (hrK : ∀ (a0 : Option Nat) (a1 : Int32) (Ma : Mem) (w : Unit × Mem), rF a0 a1 Ma = some w → KC Ma w.2) : ∀ (n : Nat) (v1 : Int32) (v2 : Int32) (M : Mem), FSC M → J_X4_readSteps_2 rF n (some 7) v1 v2 M = SJ_X4_readSteps_2 rS n v1 v2 M := by
  intro n
  induction n with
  | zero => intro v1 v2 M  hF; rfl
  | succ n ih =>
    intro v1 v2 M  hF
    unfold J_X4_readSteps_2 SJ_X4_readSteps_2
    refine itc (fun _ => ?_) (fun _ => ?_)
    · rfl
    · refine (bi_ck (hF.hk 7)).trans ?_
      refine bdc (eqS_X4_kind hF) (fun w1 hw => ?_)
      have hF := hF.kc (keep_X4_kind hw)
      refine itc (fun _ => ?_) (fun _ => ?_)
      · rfl
      · refine (bi_fI (hF.hk 7)).trans ?_
        refine itc (fun _ => ?_) (fun _ => ?_)
        · rfl
        · refine (bi_ck (hF.hk 7)).trans ?_
          refine bdc (hrS _ _ hF) (fun w2 hw => ?_)
          have hF := hF.kc (hrK _ _ _ _ hw)
          exact ih _ _ _ hF
def S_X4_readSteps (rS : Int32 → Mem → Option (Unit × Mem)) (v1 : Int32) (M : Mem) : Option (Unit × Mem) :=
  SJ_X4_readSteps_2 rS FU v1 (0 : Int32) M
theorem eqS_X4_readSteps {M : Mem} {rF : Option Nat → Int32 → Mem → Option (Unit × Mem)} {rS : Int32 → Mem → Option (Unit × Mem)} (hrS : ∀ (a1 : Int32) (Ma : Mem), FSC Ma → rF (some 7) a1 Ma = rS a1 Ma) (hrK : ∀ (a0 : Option Nat) (a1 : Int32) (Ma : Mem) (w : Unit × Mem), rF a0 a1 Ma = some w → KC Ma w.2) {v1 : Int32} (hF : FSC M) : L_X4_readSteps rF (some 7) v1 M = S_X4_readSteps rS v1 M := by
  unfold L_X4_readSteps S_X4_readSteps
  exact eqJ_X4_readSteps_2 hrS hrK FU _ _ _ hF
def S_X4_readTry (rS : Int32 → Mem → Option (Unit × Mem)) (v1 : Int32) (M : Mem) : Option (Unit × Mem) :=
  (S_X4_take (123 : Int32) (si M 7 2 ((gi M 7 2) + (1 : Int32)))).bind fun w1 =>
  (S_X0_openTry w1.2).bind fun w2 =>
  (S_X4_readSteps rS v1 w2.2).bind fun w3 =>
  (S_X4_take (125 : Int32) w3.2).bind fun w4 =>
  (S_X0_emit (14 : Int32) (0 : Int64) w4.2).bind fun w5 =>
  (S_X0_closeTry w2.1 w5.2).bind fun w6 =>
  (S_X4_take (306 : Int32) w6.2).bind fun w7 =>
  (S_X4_take (123 : Int32) w7.2).bind fun w8 =>
  (S_X4_readSteps rS v1 w8.2).bind fun w9 =>
  (S_X4_take (125 : Int32) w9.2).bind fun w10 =>
  (S_X0_landHere w5.1 w10.2).bind fun w11 =>
  some ((), w11.2)
theorem eqS_X4_readTry {M : Mem} {rF : Option Nat → Int32 → Mem → Option (Unit × Mem)} {rS : Int32 → Mem → Option (Unit × Mem)} (hrS : ∀ (a1 : Int32) (Ma : Mem), FSC Ma → rF (some 7) a1 Ma = rS a1 Ma) (hrK : ∀ (a0 : Option Nat) (a1 : Int32) (Ma : Mem) (w : Unit × Mem), rF a0 a1 Ma = some w → KC Ma w.2) {v1 : Int32} (hF : FSC M) : L_X4_readTry rF (some 7) v1 M = S_X4_readTry rS v1 M := by
  unfold L_X4_readTry S_X4_readTry
  refine (bi_fI (hF.hk 7)).trans ?_
  refine (bi_pI (hF.hk 7)).trans ?_
  have hF : FSC (si M 7 2 ((gi M 7 2) + (1 : Int32))) := hF.kc kc_si
  refine (bi_ck (hF.hk 7)).trans ?_
  refine bdc (eqS_X4_take hF) (fun w1 hw => ?_)
  have hF := hF.kc (keep_X4_take hw)
  refine (bi_fR (hF.hk 7) (hF.hg 7 1 8)).trans ?_
  refine (bi_ck (hF.hk 8)).trans ?_
  refine bdc (eqS_X0_openTry hF) (fun w2 hw => ?_)
  have hF := hF.kc (keep_X0_openTry hw)
  refine (bi_ck (hF.hk 7)).trans ?_
  refine bdc (eqS_X4_readSteps hrS hrK hF) (fun w3 hw => ?_)
  have hF := hF.kc (keep_X4_readSteps hrK hw)
  refine (bi_ck (hF.hk 7)).trans ?_
  refine bdc (eqS_X4_take hF) (fun w4 hw => ?_)
  have hF := hF.kc (keep_X4_take hw)
  refine (bi_fR (hF.hk 7) (hF.hg 7 1 8)).trans ?_
  refine (bi_ck (hF.hk 8)).trans ?_
  refine bdc (eqS_X0_emit hF) (fun w5 hw => ?_)
  have hF := hF.kc (keep_X0_emit hw)
  refine (bi_fR (hF.hk 7) (hF.hg 7 1 8)).trans ?_
  refine (bi_ck (hF.hk 8)).trans ?_
  refine bdc (eqS_X0_closeTry hF) (fun w6 hw => ?_)
  have hF := hF.kc (keep_X0_closeTry hw)
  refine (bi_ck (hF.hk 7)).trans ?_
  refine bdc (eqS_X4_take hF) (fun w7 hw => ?_)
  have hF := hF.kc (keep_X4_take hw)
  refine (bi_ck (hF.hk 7)).trans ?_
  refine bdc (eqS_X4_take hF) (fun w8 hw => ?_)
  have hF := hF.kc (keep_X4_take hw)
  refine (bi_ck (hF.hk 7)).trans ?_
  refine bdc (eqS_X4_readSteps hrS hrK hF) (fun w9 hw => ?_)
  have hF := hF.kc (keep_X4_readSteps hrK hw)
  refine (bi_ck (hF.hk 7)).trans ?_
  refine bdc (eqS_X4_take hF) (fun w10 hw => ?_)
  have hF := hF.kc (keep_X4_take hw)
  refine (bi_fR (hF.hk 7) (hF.hg 7 1 8)).trans ?_
  refine (bi_ck (hF.hk 8)).trans ?_
  refine bdc (eqS_X0_landHere hF) (fun w11 hw => ?_)
  have hF := hF.kc (keep_X0_landHere hw)
  rfl
def SJ_X4_readStep_31 (rS : Int32 → Mem → Option (Unit × Mem))  (M : Mem) : Option (Unit × Mem) :=
  (S_X4_reject M).bind fun w1 =>
  some ((), w1.2)
theorem eqJ_X4_readStep_31 {M : Mem} {rF : Option Nat → Int32 → Mem → Option (Unit × Mem)} {rS : Int32 → Mem → Option (Unit × Mem)} (hrS : ∀ (a1 : Int32) (Ma : Mem), FSC Ma → rF (some 7) a1 Ma = rS a1 Ma) (hrK : ∀ (a0 : Option Nat) (a1 : Int32) (Ma : Mem) (w : Unit × Mem), rF a0 a1 Ma = some w → KC Ma w.2) (hF : FSC M) : J_X4_readStep_31 rF (some 7) M = SJ_X4_readStep_31 rS  M := by
  unfold J_X4_readStep_31 SJ_X4_readStep_31
  refine (bi_ck (hF.hk 7)).trans ?_
  refine bdc (eqS_X4_reject hF) (fun w1 hw => ?_)
  have hF := hF.kc (keep_X4_reject hw)
  rfl
def SJ_X4_readStep_70 (rS : Int32 → Mem → Option (Unit × Mem)) (v1 : Int32) (v2 : Int32) (M : Mem) : Option (Unit × Mem) :=
  if ¬ v2 = (303 : Int32) then
  (if ¬ v2 = (304 : Int32) then
  ((S_X4_readTry rS (v1 + (1 : Int32)) M).bind fun w2 =>
  some ((), w2.2))
  else
  ((S_X4_readCheck M).bind fun w3 =>
  some ((), w3.2)))
  else
  ((S_X4_readTable M).bind fun w4 =>
  some ((), w4.2))
theorem eqJ_X4_readStep_70 {M : Mem} {rF : Option Nat → Int32 → Mem → Option (Unit × Mem)} {rS : Int32 → Mem → Option (Unit × Mem)} (hrS : ∀ (a1 : Int32) (Ma : Mem), FSC Ma → rF (some 7) a1 Ma = rS a1 Ma) (hrK : ∀ (a0 : Option Nat) (a1 : Int32) (Ma : Mem) (w : Unit × Mem), rF a0 a1 Ma = some w → KC Ma w.2) {v1 : Int32} {v2 : Int32} (hF : FSC M) : J_X4_readStep_70 rF (some 7) v1 v2 M = SJ_X4_readStep_70 rS v1 v2 M := by
  unfold J_X4_readStep_70 SJ_X4_readStep_70
  refine itc (fun _ => ?_) (fun _ => ?_)
  · refine itc (fun _ => ?_) (fun _ => ?_)
    · refine (bi_ck (hF.hk 7)).trans ?_
      refine bdc (eqS_X4_readTry hrS hrK hF) (fun w2 hw => ?_)
      have hF := hF.kc (keep_X4_readTry hrK hw)
      rfl
    · refine (bi_ck (hF.hk 7)).trans ?_
      refine bdc (eqS_X4_readCheck hF) (fun w3 hw => ?_)
      have hF := hF.kc (keep_X4_readCheck hw)
      rfl
  · refine (bi_ck (hF.hk 7)).trans ?_
    refine bdc (eqS_X4_readTable hF) (fun w4 hw => ?_)
    have hF := hF.kc (keep_X4_readTable hw)
    rfl
def SJ_X4_readStep_36 (rS : Int32 → Mem → Option (Unit × Mem)) (v1 : Int32) (v2 : Int32) (M : Mem) : Option (Unit × Mem) :=
  if (gi (si M 8 2 ((gi M 8 2) + (1 : Int32))) 8 2) ≤ (40 : Int32) then
  (SJ_X4_readStep_70 rS v1 v2 (si M 8 2 ((gi M 8 2) + (1 : Int32))))
  else
  ((S_X4_place (si M 8 2 ((gi M 8 2) + (1 : Int32)))).bind fun w5 =>
  (S_X4_note (5 : Int32) w5.1 w5.2).bind fun w6 =>
  SJ_X4_readStep_70 rS v1 v2 w6.2)
theorem eqJ_X4_readStep_36 {M : Mem} {rF : Option Nat → Int32 → Mem → Option (Unit × Mem)} {rS : Int32 → Mem → Option (Unit × Mem)} (hrS : ∀ (a1 : Int32) (Ma : Mem), FSC Ma → rF (some 7) a1 Ma = rS a1 Ma) (hrK : ∀ (a0 : Option Nat) (a1 : Int32) (Ma : Mem) (w : Unit × Mem), rF a0 a1 Ma = some w → KC Ma w.2) {v1 : Int32} {v2 : Int32} (hF : FSC M) : J_X4_readStep_36 rF (some 7) v1 v2 M = SJ_X4_readStep_36 rS v1 v2 M := by
  unfold J_X4_readStep_36 SJ_X4_readStep_36
  refine (bi_fR (hF.hk 7) (hF.hg 7 1 8)).trans ?_
  refine (bi_fI (hF.hk 8)).trans ?_
  refine (bi_pI (hF.hk 8)).trans ?_
  have hF : FSC (si M 8 2 ((gi M 8 2) + (1 : Int32))) := hF.kc kc_si
  refine (bi_fR (hF.hk 7) (hF.hg 7 1 8)).trans ?_
  refine (bi_fI (hF.hk 8)).trans ?_
  refine itc (fun _ => ?_) (fun _ => ?_)
  · exact eqJ_X4_readStep_70 hrS hrK hF
  · refine (bi_ck (hF.hk 7)).trans ?_
    refine bdc (eqS_X4_place hF) (fun w5 hw => ?_)
    have hF := hF.kc (keep_X4_place hw)
    refine (bi_ck (hF.hk 7)).trans ?_
    refine bdc (eqS_X4_note hF) (fun w6 hw => ?_)
    have hF := hF.kc (keep_X4_note hw)
    exact eqJ_X4_readStep_70 hrS hrK hF
def SB_X4_readStep (rS : Int32 → Mem → Option (Unit × Mem)) (v1 : Int32) (M : Mem) : Option (Unit × Mem) :=
  (S_X4_kind M).bind fun w7 =>
  if w7.1 = (303 : Int32) then
  (SJ_X4_readStep_36 rS v1 w7.1 w7.2)
  else
  (if w7.1 = (304 : Int32) then
  (SJ_X4_readStep_36 rS v1 w7.1 w7.2)
  else
  (if ¬ w7.1 = (305 : Int32) then
  (SJ_X4_readStep_31 rS  w7.2)
  else
  (if v1 < (3 : Int32) then
  (SJ_X4_readStep_36 rS v1 w7.1 w7.2)
  else
  (SJ_X4_readStep_31 rS  w7.2))))
theorem eqB_X4_readStep {M : Mem} {rF : Option Nat → Int32 → Mem → Option (Unit × Mem)} {rS : Int32 → Mem → Option (Unit × Mem)} (hrS : ∀ (a1 : Int32) (Ma : Mem), FSC Ma → rF (some 7) a1 Ma = rS a1 Ma) (hrK : ∀ (a0 : Option Nat) (a1 : Int32) (Ma : Mem) (w : Unit × Mem), rF a0 a1 Ma = some w → KC Ma w.2) {v1 : Int32} (hF : FSC M) : B_X4_readStep rF (some 7) v1 M = SB_X4_readStep rS v1 M := by
  unfold B_X4_readStep SB_X4_readStep
  refine (bi_ck (hF.hk 7)).trans ?_
  refine bdc (eqS_X4_kind hF) (fun w7 hw => ?_)
  have hF := hF.kc (keep_X4_kind hw)
  refine itc (fun _ => ?_) (fun _ => ?_)
  · exact eqJ_X4_readStep_36 hrS hrK hF
  · refine itc (fun _ => ?_) (fun _ => ?_)
    · exact eqJ_X4_readStep_36 hrS hrK hF
    · refine itc (fun _ => ?_) (fun _ => ?_)
      · exact eqJ_X4_readStep_31 hrS hrK hF
      · refine itc (fun _ => ?_) (fun _ => ?_)
        · exact eqJ_X4_readStep_36 hrS hrK hF
        · exact eqJ_X4_readStep_31 hrS hrK hF
def S_X4_readStep : Nat → Int32 → Mem → Option (Unit × Mem)
  | 0 => fun _ _ => none
  | n + 1 => SB_X4_readStep (S_X4_readStep n)
theorem eqS_X4_readStep : ∀ (n : Nat) {M : Mem} {v1 : Int32} (hF : FSC M), L_X4_readStep n (some 7) v1 M = S_X4_readStep n v1 M
  | 0 => fun _ => rfl
  | n + 1 => fun hF => eqB_X4_readStep (rF := L_X4_readStep n) (rS := S_X4_readStep n) (fun _ _ hF => eqS_X4_readStep n hF) (fun _ _ _ _ h => keep_X4_readStep n h) hF
def SJ_X4_read_110 (k_50 : Int32 → Mem → Option (Option Nat × Mem)) (v2 : Int32) (M : Mem) : Option (Option Nat × Mem) :=
  k_50 (v2 + 1) M
theorem eqJ_X4_read_110 {M : Mem} {k_50 : Option Nat → Int32 → Mem → Option (Option Nat × Mem)} {q_50 : Int32 → Mem → Option (Option Nat × Mem)} (hk_50 : ∀ (v2 : Int32) (Ma : Mem), FSC Ma → k_50 (some 7) v2 Ma = q_50 v2 Ma) {v2 : Int32} (hF : FSC M) : J_X4_read_110 k_50 (some 7) v2 M = SJ_X4_read_110 q_50 v2 M := by
  unfold J_X4_read_110 SJ_X4_read_110
  exact hk_50 _ _ hF
def SJ_X4_read_116  (M : Mem) : Option (Option Nat × Mem) :=
  (S_X0_emit (21 : Int32) (0 : Int64) M).bind fun w1 =>
  if ¬ (gi w1.2 7 6) = 0 then
  (some ((none : Option Nat), w1.2))
  else
  ((L_X6_init (some (nc w1.2)) (some 8) (nw w1.2 6 0 13)).bind fun w2 =>
  some (some (nc w1.2), w2.2))
theorem eqJ_X4_read_116 {M : Mem} (hF : FSC M) : J_X4_read_116 (some 7) M = SJ_X4_read_116  M := by
  unfold J_X4_read_116 SJ_X4_read_116
  refine (bi_fR (hF.hk 7) (hF.hg 7 1 8)).trans ?_
  refine (bi_ck (hF.hk 8)).trans ?_
  refine bdc (eqS_X0_emit hF) (fun w1 hw => ?_)
  have hF := hF.kc (keep_X0_emit hw)
  refine (bi_fI (hF.hk 7)).trans ?_
  refine itc (fun _ => ?_) (fun _ => ?_)
  · rfl
  · have hF0 := hF
    have hF : FSC (nw w1.2 6 0 13) := hF.kc kc_nw
    refine (bi_fR (hF.hk 7) (hF.hg 7 1 8)).trans ?_
    refine bdc rfl (fun w2 hw => ?_)
    have hF := hF0.kc (kx_new KC.rf (keep_X6_init hw))
    rfl
def SJ_X4_read_50 : Nat → Int32 → Mem → Option (Option Nat × Mem)
  | 0 => fun _ _ => none
  | n + 1 => fun v2 M =>
  if (900 : Int32) < v2 then
  (SJ_X4_read_116  M)
  else
  ((S_X4_kind M).bind fun w3 =>
  if w3.1 = 0 then
  (SJ_X4_read_116  w3.2)
  else
  (if ¬ (gi w3.2 7 5) = 0 then
  (SJ_X4_read_116  w3.2)
  else
  ((S_X4_kind w3.2).bind fun w4 =>
  if ¬ w4.1 = (301 : Int32) then
  ((S_X4_kind w4.2).bind fun w5 =>
  if ¬ w5.1 = (302 : Int32) then
  ((S_X4_readStep 6 (0 : Int32) w5.2).bind fun w6 =>
  SJ_X4_read_110 (SJ_X4_read_50 n) v2 w6.2)
  else
  ((S_X4_readRule w5.2).bind fun w7 =>
  SJ_X4_read_110 (SJ_X4_read_50 n) v2 w7.2))
  else
  ((S_X4_readConst w4.2).bind fun w8 =>
  SJ_X4_read_110 (SJ_X4_read_50 n) v2 w8.2))))
theorem eqJ_X4_read_50 : ∀ (n : Nat) (v2 : Int32) (M : Mem), FSC M → J_X4_read_50 n (some 7) v2 M = SJ_X4_read_50 n v2 M := by
  intro n
  induction n with
  | zero => intro v2 M  hF; rfl
  | succ n ih =>
    intro v2 M  hF
    unfold J_X4_read_50 SJ_X4_read_50
    refine itc (fun _ => ?_) (fun _ => ?_)
    · exact eqJ_X4_read_116 hF
    · refine (bi_ck (hF.hk 7)).trans ?_
      refine bdc (eqS_X4_kind hF) (fun w3 hw => ?_)
      have hF := hF.kc (keep_X4_kind hw)
      refine itc (fun _ => ?_) (fun _ => ?_)
      · exact eqJ_X4_read_116 hF
      · refine (bi_fI (hF.hk 7)).trans ?_
        refine itc (fun _ => ?_) (fun _ => ?_)
        · exact eqJ_X4_read_116 hF
        · refine (bi_ck (hF.hk 7)).trans ?_
          refine bdc (eqS_X4_kind hF) (fun w4 hw => ?_)
          have hF := hF.kc (keep_X4_kind hw)
          refine itc (fun _ => ?_) (fun _ => ?_)
          · refine (bi_ck (hF.hk 7)).trans ?_
            refine bdc (eqS_X4_kind hF) (fun w5 hw => ?_)
            have hF := hF.kc (keep_X4_kind hw)
            refine itc (fun _ => ?_) (fun _ => ?_)
            · refine (bi_ck (hF.hk 7)).trans ?_
              refine bdc (eqS_X4_readStep 6 hF) (fun w6 hw => ?_)
              have hF := hF.kc (keep_X4_readStep 6 hw)
              exact eqJ_X4_read_110 ih hF
            · refine (bi_ck (hF.hk 7)).trans ?_
              refine bdc (eqS_X4_readRule hF) (fun w7 hw => ?_)
              have hF := hF.kc (keep_X4_readRule hw)
              exact eqJ_X4_read_110 ih hF
          · refine (bi_ck (hF.hk 7)).trans ?_
            refine bdc (eqS_X4_readConst hF) (fun w8 hw => ?_)
            have hF := hF.kc (keep_X4_readConst hw)
            exact eqJ_X4_read_110 ih hF
def S_X4_read (v1 : Int32) (M : Mem) : Option (Option Nat × Mem) :=
  (S_X7_cut M).bind fun w9 =>
  (S_X0_clear w9.2).bind fun w10 =>
  (S_X4_readUnder (si (si (si (si (si (si w10.2 7 2 (0 : Int32)) 7 3 v1) 7 4 (0 : Int32)) 7 5 (0 : Int32)) 7 6 (0 : Int32)) 7 7 (-1 : Int32))).bind fun w11 =>
  SJ_X4_read_50 FU (0 : Int32) w11.2
theorem eqS_X4_read {M : Mem} {v1 : Int32} (hF : FSC M) : L_X4_read (some 7) v1 M = S_X4_read v1 M := by
  unfold L_X4_read S_X4_read
  refine (bi_fR (hF.hk 7) (hF.hg 7 0 1)).trans ?_
  refine (bi_ck (hF.hk 1)).trans ?_
  refine bdc (eqS_X7_cut hF) (fun w9 hw => ?_)
  have hF := hF.kc (keep_X7_cut hw)
  refine (bi_fR (hF.hk 7) (hF.hg 7 1 8)).trans ?_
  refine (bi_ck (hF.hk 8)).trans ?_
  refine bdc (eqS_X0_clear hF) (fun w10 hw => ?_)
  have hF := hF.kc (keep_X0_clear hw)
  refine (bi_pI (hF.hk 7)).trans ?_
  have hF : FSC (si w10.2 7 2 (0 : Int32)) := hF.kc kc_si
  refine (bi_pI (hF.hk 7)).trans ?_
  have hF : FSC (si (si w10.2 7 2 (0 : Int32)) 7 3 v1) := hF.kc kc_si
  refine (bi_pI (hF.hk 7)).trans ?_
  have hF : FSC (si (si (si w10.2 7 2 (0 : Int32)) 7 3 v1) 7 4 (0 : Int32)) := hF.kc kc_si
  refine (bi_pZl (hF.hk 7) (by decide)).trans ?_
  have hF : FSC (si (si (si (si w10.2 7 2 (0 : Int32)) 7 3 v1) 7 4 (0 : Int32)) 7 5 (0 : Int32)) := hF.kc kc_si
  refine (bi_pI (hF.hk 7)).trans ?_
  have hF : FSC (si (si (si (si (si w10.2 7 2 (0 : Int32)) 7 3 v1) 7 4 (0 : Int32)) 7 5 (0 : Int32)) 7 6 (0 : Int32)) := hF.kc kc_si
  refine (bi_pI (hF.hk 7)).trans ?_
  have hF : FSC (si (si (si (si (si (si w10.2 7 2 (0 : Int32)) 7 3 v1) 7 4 (0 : Int32)) 7 5 (0 : Int32)) 7 6 (0 : Int32)) 7 7 (-1 : Int32)) := hF.kc kc_si
  refine (bi_ck (hF.hk 7)).trans ?_
  refine bdc (eqS_X4_readUnder hF) (fun w11 hw => ?_)
  have hF := hF.kc (keep_X4_readUnder hw)
  exact eqJ_X4_read_50 FU _ _ hF
def S_X5_mark (v1 : Int32) (v2 : Int32) (M : Mem) : Option (Unit × Mem) :=
  gd (inb (v1 / (8 : Int32)) 30) (
  gd (inb (v1 - v1 / (8 : Int32) * (8 : Int32)) 8) (
  some ((), si M (22 + 4 * (v1 / (8 : Int32)).toNatClampNeg) (v1 - v1 / (8 : Int32) * (8 : Int32)).toNatClampNeg v2)))
theorem eqS_X5_mark {M : Mem} {v1 : Int32} {v2 : Int32} (hF : FSC M) : L_X5_mark (some 141) v1 v2 M = S_X5_mark v1 v2 M := by
  unfold L_X5_mark S_X5_mark
  refine (bi_fR (hF.hk 141) (hF.hg 141 0 18)).trans ?_
  refine (bi_fR (hF.hk 18) (hF.hg 18 1 20)).trans ?_
  refine (if_neg (by decide)).trans ?_
  refine (hF.aT).trans ?_
  refine gd_congr (fun g1 => ?_)
  have h1 := inb_lt g1
  refine (bi_fR (hF.kdT21 h1) (hF.grT5 h1)).trans ?_
  refine (if_neg (by decide)).trans ?_
  refine (bi_uI (hF.kdT22 h1) (hF.lnT22 h1)).trans ?_
  refine gd_congr (fun _ => ?_)
  have hF : FSC (si M (22 + 4 * (v1 / (8 : Int32)).toNatClampNeg) (v1 - v1 / (8 : Int32) * (8 : Int32)).toNatClampNeg v2) := hF.kc kc_si
  rfl
def S_X5_push (v1 : Int32) (M : Mem) : Option (Unit × Mem) :=
  if (240 : Int32) ≤ (gi M 141 2) then
  (some ((), M))
  else
  (gd (inb (gi M 141 2) 240) (
  (S_X5_mark v1 (1 : Int32) (si (si M 142 (gi M 141 2).toNatClampNeg v1) 141 2 ((gi (si M 142 (gi M 141 2).toNatClampNeg v1) 141 2) + (1 : Int32)))).bind fun w1 =>
  some ((), w1.2)))
theorem eqS_X5_push {M : Mem} {v1 : Int32} (hF : FSC M) : L_X5_push (some 141) v1 M = S_X5_push v1 M := by
  unfold L_X5_push S_X5_push
  refine (bi_fI (hF.hk 141)).trans ?_
  refine (bi_fR (hF.hk 141) (hF.hg 141 1 142)).trans ?_
  refine (bi_aN (n := 240) (hF.hk 142) (by decide) (by decide) (hF.hl 142)).trans ?_
  refine itc (fun _ => ?_) (fun _ => ?_)
  · rfl
  · refine (bi_fR (hF.hk 141) (hF.hg 141 1 142)).trans ?_
    refine (bi_fI (hF.hk 141)).trans ?_
    refine (bi_uI (hF.hk 142) (hF.hl 142)).trans ?_
    refine gd_congr (fun _ => ?_)
    have hF : FSC (si M 142 (gi M 141 2).toNatClampNeg v1) := hF.kc kc_si
    refine (bi_fI (hF.hk 141)).trans ?_
    refine (bi_pI (hF.hk 141)).trans ?_
    have hF : FSC (si (si M 142 (gi M 141 2).toNatClampNeg v1) 141 2 ((gi (si M 142 (gi M 141 2).toNatClampNeg v1) 141 2) + (1 : Int32))) := hF.kc kc_si
    refine (bi_ck (hF.hk 141)).trans ?_
    refine bdc (eqS_X5_mark hF) (fun w1 hw => ?_)
    have hF := hF.kc (keep_X5_mark hw)
    rfl
def S_X5_markOf (v1 : Int32) (M : Mem) : Option (Int32 × Mem) :=
  gd (inb (v1 / (8 : Int32)) 30) (
  gd (inb (v1 - v1 / (8 : Int32) * (8 : Int32)) 8) (
  some (gi M (22 + 4 * (v1 / (8 : Int32)).toNatClampNeg) (v1 - v1 / (8 : Int32) * (8 : Int32)).toNatClampNeg, M)))
theorem eqS_X5_markOf {M : Mem} {v1 : Int32} (hF : FSC M) : L_X5_markOf (some 141) v1 M = S_X5_markOf v1 M := by
  unfold L_X5_markOf S_X5_markOf
  refine (bi_fR (hF.hk 141) (hF.hg 141 0 18)).trans ?_
  refine (bi_fR (hF.hk 18) (hF.hg 18 1 20)).trans ?_
  refine (if_neg (by decide)).trans ?_
  refine (hF.aT).trans ?_
  refine gd_congr (fun g1 => ?_)
  have h1 := inb_lt g1
  refine (bi_fR (hF.kdT21 h1) (hF.grT5 h1)).trans ?_
  refine (if_neg (by decide)).trans ?_
  refine (bi_aI (hF.kdT22 h1) (hF.lnT22 h1)).trans ?_
  refine gd_congr (fun _ => ?_)
  rfl
def S_X5_put (v1 : Int64) (M : Mem) : Option (Int32 × Mem) :=
  if (4 : Int32) ≤ (gi M 141 4) then
  (some ((-2 : Int32), M))
  else
  (if (1000000000000000 : Int64) < v1 then
  (some ((-2 : Int32), M))
  else
  (if (-1000000000000000 : Int64) ≤ v1 then
  (gd (inb (gi M 141 4) 4) (
  some ((-1 : Int32), si (sl M 143 (gi M 141 4).toNatClampNeg v1) 141 4 ((gi (sl M 143 (gi M 141 4).toNatClampNeg v1) 141 4) + (1 : Int32)))))
  else
  (some ((-2 : Int32), M))))
theorem eqS_X5_put {M : Mem} {v1 : Int64} (hF : FSC M) : L_X5_put (some 141) v1 M = S_X5_put v1 M := by
  unfold L_X5_put S_X5_put
  refine (bi_fI (hF.hk 141)).trans ?_
  refine itc (fun _ => ?_) (fun _ => ?_)
  · rfl
  · refine itc (fun _ => ?_) (fun _ => ?_)
    · rfl
    · refine itc (fun _ => ?_) (fun _ => ?_)
      · refine (bi_fR (hF.hk 141) (hF.hg 141 3 143)).trans ?_
        refine (bi_fI (hF.hk 141)).trans ?_
        refine (bi_uL (hF.hk 143) (hF.hl 143)).trans ?_
        refine gd_congr (fun _ => ?_)
        have hF : FSC (sl M 143 (gi M 141 4).toNatClampNeg v1) := hF.kc kc_sl
        refine (bi_fI (hF.hk 141)).trans ?_
        refine (bi_pI (hF.hk 141)).trans ?_
        have hF : FSC (si (sl M 143 (gi M 141 4).toNatClampNeg v1) 141 4 ((gi (sl M 143 (gi M 141 4).toNatClampNeg v1) 141 4) + (1 : Int32))) := hF.kc kc_si
        rfl
      · rfl
def S_X5_refer (v1 : Int64) (M : Mem) : Option (Int32 × Mem) :=
  (S_X1_find (0 : Int32) v1 M).bind fun w1 =>
  if w1.1 = (-1 : Int32) then
  (some ((-2 : Int32), w1.2))
  else
  ((S_X5_markOf w1.1 w1.2).bind fun w2 =>
  if ¬ w2.1 = (3 : Int32) then
  ((S_X5_markOf w1.1 w2.2).bind fun w3 =>
  if w3.1 = (2 : Int32) then
  (gd (inb (w1.1 / (8 : Int32)) 30) (
  gd (inb (w1.1 - w1.1 / (8 : Int32) * (8 : Int32)) 8) (
  (S_X5_put (gl w3.2 (23 + 4 * (w1.1 / (8 : Int32)).toNatClampNeg) (w1.1 - w1.1 / (8 : Int32) * (8 : Int32)).toNatClampNeg) w3.2).bind fun w5 =>
  some (w5.1, w5.2))))
  else
  (some (w1.1, w3.2)))
  else
  (some ((-2 : Int32), w2.2)))
theorem eqS_X5_refer {M : Mem} {v1 : Int64} (hF : FSC M) : L_X5_refer (some 141) v1 M = S_X5_refer v1 M := by
  unfold L_X5_refer S_X5_refer
  refine (bi_fR (hF.hk 141) (hF.hg 141 0 18)).trans ?_
  refine (bi_ck (hF.hk 18)).trans ?_
  refine bdc (eqS_X1_find hF) (fun w1 hw => ?_)
  have hF := hF.kc (keep_X1_find hw)
  refine itc (fun _ => ?_) (fun _ => ?_)
  · rfl
  · refine (bi_ck (hF.hk 141)).trans ?_
    refine bdc (eqS_X5_markOf hF) (fun w2 hw => ?_)
    have hF := hF.kc (keep_X5_markOf hw)
    refine itc (fun _ => ?_) (fun _ => ?_)
    · refine (bi_ck (hF.hk 141)).trans ?_
      refine bdc (eqS_X5_markOf hF) (fun w3 hw => ?_)
      have hF := hF.kc (keep_X5_markOf hw)
      refine itc (fun _ => ?_) (fun _ => ?_)
      · refine (bi_fR (hF.hk 141) (hF.hg 141 0 18)).trans ?_
        refine (bi_fR (hF.hk 18) (hF.hg 18 1 20)).trans ?_
        refine (if_neg (by decide)).trans ?_
        refine (hF.aT).trans ?_
        refine gd_congr (fun g4 => ?_)
        have h4 := inb_lt g4
        refine (bi_fR (hF.kdT21 h4) (hF.grT6 h4)).trans ?_
        refine (if_neg (by decide)).trans ?_
        refine (bi_aL (hF.kdT23 h4) (hF.lnT23 h4)).trans ?_
        refine gd_congr (fun _ => ?_)
        refine (bi_ck (hF.hk 141)).trans ?_
        refine bdc (eqS_X5_put hF) (fun w5 hw => ?_)
        have hF := hF.kc (keep_X5_put hw)
        rfl
      · rfl
    · rfl
def SJ_X5_calculate_48 (v1 : Int32) (M : Mem) : Option (Int32 × Mem) :=
  if (2 : Int32) ≤ (gi M 141 4) then
  (gd (inb (gi (si M 141 4 ((gi M 141 4) - (2 : Int32))) 141 4) 4) (
  gd (inb ((gi (si M 141 4 ((gi M 141 4) - (2 : Int32))) 141 4) + (1 : Int32)) 4) (
  if v1 = 6 then
  ((S_X5_put ((gl (si M 141 4 ((gi M 141 4) - (2 : Int32))) 143 (gi (si M 141 4 ((gi M 141 4) - (2 : Int32))) 141 4).toNatClampNeg) + (gl (si M 141 4 ((gi M 141 4) - (2 : Int32))) 143 ((gi (si M 141 4 ((gi M 141 4) - (2 : Int32))) 141 4) + (1 : Int32)).toNatClampNeg)) (si M 141 4 ((gi M 141 4) - (2 : Int32)))).bind fun w1 =>
  some (w1.1, w1.2))
  else
  if v1 = 7 then
  ((S_X5_put ((gl (si M 141 4 ((gi M 141 4) - (2 : Int32))) 143 (gi (si M 141 4 ((gi M 141 4) - (2 : Int32))) 141 4).toNatClampNeg) - (gl (si M 141 4 ((gi M 141 4) - (2 : Int32))) 143 ((gi (si M 141 4 ((gi M 141 4) - (2 : Int32))) 141 4) + (1 : Int32)).toNatClampNeg)) (si M 141 4 ((gi M 141 4) - (2 : Int32)))).bind fun w2 =>
  some (w2.1, w2.2))
  else
  if v1 = 8 then
  ((L_X5_productFits (gl (si M 141 4 ((gi M 141 4) - (2 : Int32))) 143 (gi (si M 141 4 ((gi M 141 4) - (2 : Int32))) 141 4).toNatClampNeg) (gl (si M 141 4 ((gi M 141 4) - (2 : Int32))) 143 ((gi (si M 141 4 ((gi M 141 4) - (2 : Int32))) 141 4) + (1 : Int32)).toNatClampNeg) (si M 141 4 ((gi M 141 4) - (2 : Int32)))).bind fun w3 =>
  if w3.1 = 0 then
  (some ((-2 : Int32), w3.2))
  else
  ((S_X5_put ((gl (si M 141 4 ((gi M 141 4) - (2 : Int32))) 143 (gi (si M 141 4 ((gi M 141 4) - (2 : Int32))) 141 4).toNatClampNeg) * (gl (si M 141 4 ((gi M 141 4) - (2 : Int32))) 143 ((gi (si M 141 4 ((gi M 141 4) - (2 : Int32))) 141 4) + (1 : Int32)).toNatClampNeg)) w3.2).bind fun w4 =>
  some (w4.1, w4.2)))
  else
  (some ((-2 : Int32), si M 141 4 ((gi M 141 4) - (2 : Int32)))))))
  else
  (some ((-2 : Int32), M))
theorem eqJ_X5_calculate_48 {M : Mem} {v1 : Int32} (hF : FSC M) : J_X5_calculate_48 (some 141) v1 M = SJ_X5_calculate_48 v1 M := by
  unfold J_X5_calculate_48 SJ_X5_calculate_48
  refine (bi_fI (hF.hk 141)).trans ?_
  refine itc (fun _ => ?_) (fun _ => ?_)
  · refine (bi_fI (hF.hk 141)).trans ?_
    refine (bi_pI (hF.hk 141)).trans ?_
    have hF : FSC (si M 141 4 ((gi M 141 4) - (2 : Int32))) := hF.kc kc_si
    refine (bi_fR (hF.hk 141) (hF.hg 141 3 143)).trans ?_
    refine (bi_fI (hF.hk 141)).trans ?_
    refine (bi_aL (hF.hk 143) (hF.hl 143)).trans ?_
    refine gd_congr (fun _ => ?_)
    refine (bi_fR (hF.hk 141) (hF.hg 141 3 143)).trans ?_
    refine (bi_fI (hF.hk 141)).trans ?_
    refine (bi_aL (hF.hk 143) (hF.hl 143)).trans ?_
    refine gd_congr (fun _ => ?_)
    refine itc (fun _ => ?_) (fun _ => ?_)
    · refine (bi_ck (hF.hk 141)).trans ?_
      refine bdc (eqS_X5_put hF) (fun w1 hw => ?_)
      have hF := hF.kc (keep_X5_put hw)
      rfl
    refine itc (fun _ => ?_) (fun _ => ?_)
    · refine (bi_ck (hF.hk 141)).trans ?_
      refine bdc (eqS_X5_put hF) (fun w2 hw => ?_)
      have hF := hF.kc (keep_X5_put hw)
      rfl
    refine itc (fun _ => ?_) (fun _ => ?_)
    · refine bdc rfl (fun w3 hw => ?_)
      have hF := hF.kc (keep_X5_productFits hw)
      refine itc (fun _ => ?_) (fun _ => ?_)
      · rfl
      · refine (bi_ck (hF.hk 141)).trans ?_
        refine bdc (eqS_X5_put hF) (fun w4 hw => ?_)
        have hF := hF.kc (keep_X5_put hw)
        rfl
    rfl
  · rfl
def S_X5_calculate (v1 : Int32) (v2 : Int64) (M : Mem) : Option (Int32 × Mem) :=
  if ¬ v1 = 0 then
  (if ¬ v1 = (5 : Int32) then
  (SJ_X5_calculate_48 v1 M)
  else
  (if (gi M 141 4) < (1 : Int32) then
  (SJ_X5_calculate_48 v1 M)
  else
  (gd (inb (gi (si M 141 4 ((gi M 141 4) - (1 : Int32))) 141 4) 4) (
  (S_X5_put (-(gl (si M 141 4 ((gi M 141 4) - (1 : Int32))) 143 (gi (si M 141 4 ((gi M 141 4) - (1 : Int32))) 141 4).toNatClampNeg)) (si M 141 4 ((gi M 141 4) - (1 : Int32)))).bind fun w5 =>
  some (w5.1, w5.2)))))
  else
  ((S_X5_put v2 M).bind fun w6 =>
  some (w6.1, w6.2))
theorem eqS_X5_calculate {M : Mem} {v1 : Int32} {v2 : Int64} (hF : FSC M) : L_X5_calculate (some 141) v1 v2 M = S_X5_calculate v1 v2 M := by
  unfold L_X5_calculate S_X5_calculate
  refine itc (fun _ => ?_) (fun _ => ?_)
  · refine itc (fun _ => ?_) (fun _ => ?_)
    · exact eqJ_X5_calculate_48 hF
    · refine (bi_fI (hF.hk 141)).trans ?_
      refine itc (fun _ => ?_) (fun _ => ?_)
      · exact eqJ_X5_calculate_48 hF
      · refine (bi_fI (hF.hk 141)).trans ?_
        refine (bi_pI (hF.hk 141)).trans ?_
        have hF : FSC (si M 141 4 ((gi M 141 4) - (1 : Int32))) := hF.kc kc_si
        refine (bi_fR (hF.hk 141) (hF.hg 141 3 143)).trans ?_
        refine (bi_fI (hF.hk 141)).trans ?_
        refine (bi_aL (hF.hk 143) (hF.hl 143)).trans ?_
        refine gd_congr (fun _ => ?_)
        refine (bi_ck (hF.hk 141)).trans ?_
        refine bdc (eqS_X5_put hF) (fun w5 hw => ?_)
        have hF := hF.kc (keep_X5_put hw)
        rfl
  · refine (bi_ck (hF.hk 141)).trans ?_
    refine bdc (eqS_X5_put hF) (fun w6 hw => ?_)
    have hF := hF.kc (keep_X5_put hw)
    rfl
def SJ_X5_evaluate_120 (k_50 : Option Nat → Int32 → Mem → Option (Int32 × Mem)) (v2 : Option Nat) (v3 : Int32) (s0 : Int32) (M : Mem) : Option (Int32 × Mem) :=
  if s0 = (-1 : Int32) then
  (k_50 v2 (v3 + 1) M)
  else
  (some (s0, M))
theorem eqJ_X5_evaluate_120 {M : Mem} {k_50 : Option Nat → Option Nat → Int32 → Mem → Option (Int32 × Mem)} {q_50 : Option Nat → Int32 → Mem → Option (Int32 × Mem)} (hk_50 : ∀ (v2 : Option Nat) (v3 : Int32) (Ma : Mem), FSC Ma → k_50 (some 141) v2 v3 Ma = q_50 v2 v3 Ma) {v2 : Option Nat} {v3 : Int32} {s0 : Int32} (hF : FSC M) : J_X5_evaluate_120 k_50 (some 141) v2 v3 s0 M = SJ_X5_evaluate_120 q_50 v2 v3 s0 M := by
  unfold J_X5_evaluate_120 SJ_X5_evaluate_120
  refine itc (fun _ => ?_) (fun _ => ?_)
  · exact hk_50 _ _ _ hF
  · rfl
def SJ_X5_evaluate_50 : Nat → Option Nat → Int32 → Mem → Option (Int32 × Mem)
  | 0 => fun _ _ _ => none
  | n + 1 => fun v2 v3 M =>
  (fR M 6 4 v2).bind fun x1 =>
  (aN M x1).bind fun x2 =>
  if x2 ≤ v3 then
  (some ((-2 : Int32), M))
  else
  ((fR M 6 4 v2).bind fun x3 =>
  (aI M 20 x3 v3).bind fun x4 =>
  if ¬ x4 = (20 : Int32) then
  (if ¬ x4 = (3 : Int32) then
  ((fR M 6 5 v2).bind fun x5 =>
  (aL M 21 x5 v3).bind fun x6 =>
  (S_X5_calculate x4 x6 M).bind fun w7 =>
  SJ_X5_evaluate_120 (SJ_X5_evaluate_50 n) v2 v3 w7.1 w7.2)
  else
  ((fR M 6 5 v2).bind fun x8 =>
  (aL M 21 x8 v3).bind fun x9 =>
  (S_X5_refer x9 M).bind fun w10 =>
  SJ_X5_evaluate_120 (SJ_X5_evaluate_50 n) v2 v3 w10.1 w10.2))
  else
  (if ¬ (gi M 141 4) = (1 : Int32) then
  (some ((-2 : Int32), M))
  else
  (some ((-1 : Int32), M))))
theorem eqJ_X5_evaluate_50 : ∀ (n : Nat) (v2 : Option Nat) (v3 : Int32) (M : Mem), FSC M → J_X5_evaluate_50 n (some 141) v2 v3 M = SJ_X5_evaluate_50 n v2 v3 M := by
  intro n
  induction n with
  | zero => intro v2 v3 M  hF; rfl
  | succ n ih =>
    intro v2 v3 M  hF
    unfold J_X5_evaluate_50 SJ_X5_evaluate_50
    refine bdc rfl (fun x1 _ => ?_)
    refine bdc rfl (fun x2 _ => ?_)
    refine itc (fun _ => ?_) (fun _ => ?_)
    · rfl
    · refine bdc rfl (fun x3 _ => ?_)
      refine bdc rfl (fun x4 _ => ?_)
      refine itc (fun _ => ?_) (fun _ => ?_)
      · refine itc (fun _ => ?_) (fun _ => ?_)
        · refine bdc rfl (fun x5 _ => ?_)
          refine bdc rfl (fun x6 _ => ?_)
          refine (bi_ck (hF.hk 141)).trans ?_
          refine bdc (eqS_X5_calculate hF) (fun w7 hw => ?_)
          have hF := hF.kc (keep_X5_calculate hw)
          exact eqJ_X5_evaluate_120 ih hF
        · refine bdc rfl (fun x8 _ => ?_)
          refine bdc rfl (fun x9 _ => ?_)
          refine (bi_ck (hF.hk 141)).trans ?_
          refine bdc (eqS_X5_refer hF) (fun w10 hw => ?_)
          have hF := hF.kc (keep_X5_refer hw)
          exact eqJ_X5_evaluate_120 ih hF
      · refine (bi_fI (hF.hk 141)).trans ?_
        refine itc (fun _ => ?_) (fun _ => ?_)
        · rfl
        · rfl
def S_X5_evaluate (v1 : Int32) (M : Mem) : Option (Int32 × Mem) :=
  gd (inb (v1 / (8 : Int32)) 30) (
  if (gr M (21 + 4 * (v1 / (8 : Int32)).toNatClampNeg) 0) = none then
  (some ((-2 : Int32), M))
  else
  ((fR M 6 7 (gr M (21 + 4 * (v1 / (8 : Int32)).toNatClampNeg) 0)).bind fun x12 =>
  (aN M x12).bind fun x13 =>
  if (v1 - v1 / (8 : Int32) * (8 : Int32)) < x13 then
  ((fR (si M 141 4 (0 : Int32)) 6 7 (gr M (21 + 4 * (v1 / (8 : Int32)).toNatClampNeg) 0)).bind fun x14 =>
  (aI (si M 141 4 (0 : Int32)) 20 x14 (v1 - v1 / (8 : Int32) * (8 : Int32))).bind fun x15 =>
  SJ_X5_evaluate_50 FU (gr M (21 + 4 * (v1 / (8 : Int32)).toNatClampNeg) 0) x15 (si M 141 4 (0 : Int32)))
  else
  (some ((-2 : Int32), M))))
theorem eqS_X5_evaluate {M : Mem} {v1 : Int32} (hF : FSC M) : L_X5_evaluate (some 141) v1 M = S_X5_evaluate v1 M := by
  unfold L_X5_evaluate S_X5_evaluate
  refine (bi_fR (hF.hk 141) (hF.hg 141 0 18)).trans ?_
  refine (bi_fR (hF.hk 18) (hF.hg 18 1 20)).trans ?_
  refine (if_neg (by decide)).trans ?_
  refine (hF.aT).trans ?_
  refine gd_congr (fun g11 => ?_)
  have h11 := inb_lt g11
  refine (bi_fR (hF.kdT21 h11) rfl).trans ?_
  refine itc (fun _ => ?_) (fun _ => ?_)
  · rfl
  · refine (if_neg (by decide)).trans ?_
    refine bdc rfl (fun x12 _ => ?_)
    refine bdc rfl (fun x13 _ => ?_)
    refine itc (fun _ => ?_) (fun _ => ?_)
    · refine (bi_pI (hF.hk 141)).trans ?_
      have hF : FSC (si M 141 4 (0 : Int32)) := hF.kc kc_si
      refine bdc rfl (fun x14 _ => ?_)
      refine (if_neg (by decide)).trans ?_
      refine bdc rfl (fun x15 _ => ?_)
      exact eqJ_X5_evaluate_50 FU _ _ _ hF
    · rfl
def SJ_X5_loseOpen_2 : Nat → Int32 → Mem → Option (Unit × Mem)
  | 0 => fun _ _ => none
  | n + 1 => fun v1 M =>
  if (gi M 141 2) ≤ v1 then
  (some ((), si M 141 2 (0 : Int32)))
  else
  (gd (inb v1 240) (
  (S_X5_mark (gi M 142 v1.toNatClampNeg) (3 : Int32) M).bind fun w1 =>
  SJ_X5_loseOpen_2 n (v1 + 1) w1.2))
theorem eqJ_X5_loseOpen_2 : ∀ (n : Nat) (v1 : Int32) (M : Mem), FSC M → J_X5_loseOpen_2 n (some 141) v1 M = SJ_X5_loseOpen_2 n v1 M := by
  intro n
  induction n with
  | zero => intro v1 M  hF; rfl
  | succ n ih =>
    intro v1 M  hF
    unfold J_X5_loseOpen_2 SJ_X5_loseOpen_2
    refine (bi_fI (hF.hk 141)).trans ?_
    refine itc (fun _ => ?_) (fun _ => ?_)
    · refine (bi_pI (hF.hk 141)).trans ?_
      have hF : FSC (si M 141 2 (0 : Int32)) := hF.kc kc_si
      rfl
    · refine (bi_fR (hF.hk 141) (hF.hg 141 1 142)).trans ?_
      refine (bi_aI (hF.hk 142) (hF.hl 142)).trans ?_
      refine gd_congr (fun _ => ?_)
      refine (bi_ck (hF.hk 141)).trans ?_
      refine bdc (eqS_X5_mark hF) (fun w1 hw => ?_)
      have hF := hF.kc (keep_X5_mark hw)
      exact ih _ _ hF
def S_X5_loseOpen  (M : Mem) : Option (Unit × Mem) :=
  SJ_X5_loseOpen_2 FU (0 : Int32) M
theorem eqS_X5_loseOpen {M : Mem} (hF : FSC M) : L_X5_loseOpen (some 141) M = S_X5_loseOpen  M := by
  unfold L_X5_loseOpen S_X5_loseOpen
  exact eqJ_X5_loseOpen_2 FU _ _ hF
def SJ_X5_settle_125 (k_12 : Int32 → Mem → Option (Unit × Mem)) (v2 : Int32) (M : Mem) : Option (Unit × Mem) :=
  k_12 (v2 + 1) M
theorem eqJ_X5_settle_125 {M : Mem} {k_12 : Option Nat → Int32 → Mem → Option (Unit × Mem)} {q_12 : Int32 → Mem → Option (Unit × Mem)} (hk_12 : ∀ (v2 : Int32) (Ma : Mem), FSC Ma → k_12 (some 141) v2 Ma = q_12 v2 Ma) {v2 : Int32} (hF : FSC M) : J_X5_settle_125 k_12 (some 141) v2 M = SJ_X5_settle_125 q_12 v2 M := by
  unfold J_X5_settle_125 SJ_X5_settle_125
  exact hk_12 _ _ hF
def SJ_X5_settle_112 (k_12 : Int32 → Mem → Option (Unit × Mem)) (v2 : Int32) (M : Mem) : Option (Unit × Mem) :=
  (S_X5_loseOpen M).bind fun w1 =>
  SJ_X5_settle_125 k_12 v2 w1.2
theorem eqJ_X5_settle_112 {M : Mem} {k_12 : Option Nat → Int32 → Mem → Option (Unit × Mem)} {q_12 : Int32 → Mem → Option (Unit × Mem)} (hk_12 : ∀ (v2 : Int32) (Ma : Mem), FSC Ma → k_12 (some 141) v2 Ma = q_12 v2 Ma) {v2 : Int32} (hF : FSC M) : J_X5_settle_112 k_12 (some 141) v2 M = SJ_X5_settle_112 q_12 v2 M := by
  unfold J_X5_settle_112 SJ_X5_settle_112
  refine (bi_ck (hF.hk 141)).trans ?_
  refine bdc (eqS_X5_loseOpen hF) (fun w1 hw => ?_)
  have hF := hF.kc (keep_X5_loseOpen hw)
  exact eqJ_X5_settle_125 hk_12 hF
def SJ_X5_settle_12 : Nat → Int32 → Mem → Option (Unit × Mem)
  | 0 => fun _ _ => none
  | n + 1 => fun v2 M =>
  if (1000000 : Int32) ≤ v2 then
  (some ((), M))
  else
  (if (gi M 141 2) ≤ 0 then
  (some ((), M))
  else
  (gd (inb ((gi M 141 2) - (1 : Int32)) 240) (
  (S_X5_evaluate (gi M 142 ((gi M 141 2) - (1 : Int32)).toNatClampNeg) M).bind fun w2 =>
  if ¬ w2.1 = (-1 : Int32) then
  (if w2.1 = (-2 : Int32) then
  (SJ_X5_settle_112 (SJ_X5_settle_12 n) v2 w2.2)
  else
  ((S_X5_markOf w2.1 w2.2).bind fun w3 =>
  if ¬ w3.1 = (1 : Int32) then
  ((S_X5_push w2.1 w3.2).bind fun w4 =>
  SJ_X5_settle_125 (SJ_X5_settle_12 n) v2 w4.2)
  else
  (SJ_X5_settle_112 (SJ_X5_settle_12 n) v2 w3.2)))
  else
  (gd (inb ((gi M 142 ((gi M 141 2) - (1 : Int32)).toNatClampNeg) / (8 : Int32)) 30) (
  gd (inb (0 : Int32) 4) (
  gd (inb ((gi M 142 ((gi M 141 2) - (1 : Int32)).toNatClampNeg) - (gi M 142 ((gi M 141 2) - (1 : Int32)).toNatClampNeg) / (8 : Int32) * (8 : Int32)) 8) (
  (S_X5_mark (gi M 142 ((gi M 141 2) - (1 : Int32)).toNatClampNeg) (2 : Int32) (sl w2.2 (23 + 4 * ((gi M 142 ((gi M 141 2) - (1 : Int32)).toNatClampNeg) / (8 : Int32)).toNatClampNeg) ((gi M 142 ((gi M 141 2) - (1 : Int32)).toNatClampNeg) - (gi M 142 ((gi M 141 2) - (1 : Int32)).toNatClampNeg) / (8 : Int32) * (8 : Int32)).toNatClampNeg (gl w2.2 143 (0 : Int32).toNatClampNeg))).bind fun w6 =>
  SJ_X5_settle_125 (SJ_X5_settle_12 n) v2 (si w6.2 141 2 ((gi w6.2 141 2) - (1 : Int32))))))))))
theorem eqJ_X5_settle_12 : ∀ (n : Nat) (v2 : Int32) (M : Mem), FSC M → J_X5_settle_12 n (some 141) v2 M = SJ_X5_settle_12 n v2 M := by
  intro n
  induction n with
  | zero => intro v2 M  hF; rfl
  | succ n ih =>
    intro v2 M  hF
    unfold J_X5_settle_12 SJ_X5_settle_12
    refine itc (fun _ => ?_) (fun _ => ?_)
    · rfl
    · refine (bi_fI (hF.hk 141)).trans ?_
      refine itc (fun _ => ?_) (fun _ => ?_)
      · rfl
      · refine (bi_fR (hF.hk 141) (hF.hg 141 1 142)).trans ?_
        refine (bi_fI (hF.hk 141)).trans ?_
        refine (bi_aI (hF.hk 142) (hF.hl 142)).trans ?_
        refine gd_congr (fun _ => ?_)
        refine (bi_ck (hF.hk 141)).trans ?_
        refine bdc (eqS_X5_evaluate hF) (fun w2 hw => ?_)
        have hF := hF.kc (keep_X5_evaluate hw)
        refine itc (fun _ => ?_) (fun _ => ?_)
        · refine itc (fun _ => ?_) (fun _ => ?_)
          · exact eqJ_X5_settle_112 ih hF
          · refine (bi_ck (hF.hk 141)).trans ?_
            refine bdc (eqS_X5_markOf hF) (fun w3 hw => ?_)
            have hF := hF.kc (keep_X5_markOf hw)
            refine itc (fun _ => ?_) (fun _ => ?_)
            · refine (bi_ck (hF.hk 141)).trans ?_
              refine bdc (eqS_X5_push hF) (fun w4 hw => ?_)
              have hF := hF.kc (keep_X5_push hw)
              exact eqJ_X5_settle_125 ih hF
            · exact eqJ_X5_settle_112 ih hF
        · refine (bi_fR (hF.hk 141) (hF.hg 141 0 18)).trans ?_
          refine (bi_fR (hF.hk 18) (hF.hg 18 1 20)).trans ?_
          refine (if_neg (by decide)).trans ?_
          refine (hF.aT).trans ?_
          refine gd_congr (fun g5 => ?_)
          have h5 := inb_lt g5
          refine (bi_fR (hF.kdT21 h5) (hF.grT6 h5)).trans ?_
          refine (if_neg (by decide)).trans ?_
          refine (bi_fR (hF.hk 141) (hF.hg 141 3 143)).trans ?_
          refine (bi_aL (hF.hk 143) (hF.hl 143)).trans ?_
          refine gd_congr (fun _ => ?_)
          refine (bi_uL (hF.kdT23 h5) (hF.lnT23 h5)).trans ?_
          refine gd_congr (fun _ => ?_)
          have hF : FSC (sl w2.2 (23 + 4 * ((gi M 142 ((gi M 141 2) - (1 : Int32)).toNatClampNeg) / (8 : Int32)).toNatClampNeg) ((gi M 142 ((gi M 141 2) - (1 : Int32)).toNatClampNeg) - (gi M 142 ((gi M 141 2) - (1 : Int32)).toNatClampNeg) / (8 : Int32) * (8 : Int32)).toNatClampNeg (gl w2.2 143 (0 : Int32).toNatClampNeg)) := hF.kc kc_sl
          refine (bi_ck (hF.hk 141)).trans ?_
          refine bdc (eqS_X5_mark hF) (fun w6 hw => ?_)
          have hF := hF.kc (keep_X5_mark hw)
          refine (bi_fI (hF.hk 141)).trans ?_
          refine (bi_pI (hF.hk 141)).trans ?_
          have hF : FSC (si w6.2 141 2 ((gi w6.2 141 2) - (1 : Int32))) := hF.kc kc_si
          exact eqJ_X5_settle_125 ih hF
def S_X5_settle (v1 : Int32) (M : Mem) : Option (Unit × Mem) :=
  (S_X5_push v1 (si M 141 2 (0 : Int32))).bind fun w7 =>
  SJ_X5_settle_12 FU (0 : Int32) w7.2
theorem eqS_X5_settle {M : Mem} {v1 : Int32} (hF : FSC M) : L_X5_settle (some 141) v1 M = S_X5_settle v1 M := by
  unfold L_X5_settle S_X5_settle
  refine (bi_pI (hF.hk 141)).trans ?_
  have hF : FSC (si M 141 2 (0 : Int32)) := hF.kc kc_si
  refine (bi_ck (hF.hk 141)).trans ?_
  refine bdc (eqS_X5_push hF) (fun w7 hw => ?_)
  have hF := hF.kc (keep_X5_push hw)
  exact eqJ_X5_settle_12 FU _ _ hF
def SJ_X5_settleAll_68 (k_2 : Int32 → Mem → Option (Unit × Mem)) (k_41 : Int32 → Nat → Int32 → Int32 → Mem → Option (Unit × Mem)) (v1 : Int32) (v2 : Nat) (v3 : Int32) (v4 : Int32) (M : Mem) : Option (Unit × Mem) :=
  k_41 v1 v2 v3 (v4 + 1) M
theorem eqJ_X5_settleAll_68 {M : Mem} {k_2 : Option Nat → Int32 → Mem → Option (Unit × Mem)} {q_2 : Int32 → Mem → Option (Unit × Mem)} (hk_2 : ∀ (v1 : Int32) (Ma : Mem), FSC Ma → k_2 (some 141) v1 Ma = q_2 v1 Ma) {k_41 : Option Nat → Int32 → Option Nat → Int32 → Int32 → Mem → Option (Unit × Mem)} {q_41 : Int32 → Nat → Int32 → Int32 → Mem → Option (Unit × Mem)} (hk_41 : ∀ (v1 : Int32) (v2 : Nat) (v3 : Int32) (v4 : Int32) (Ma : Mem), v2 < 30 → FSC Ma → k_41 (some 141) v1 (some (21 + 4 * v2)) v3 v4 Ma = q_41 v1 v2 v3 v4 Ma) {v1 : Int32} {v2 : Nat} {v3 : Int32} {v4 : Int32} (hv2 : v2 < 30) (hF : FSC M) : J_X5_settleAll_68 k_2 k_41 (some 141) v1 (some (21 + 4 * v2)) v3 v4 M = SJ_X5_settleAll_68 q_2 q_41 v1 v2 v3 v4 M := by
  unfold J_X5_settleAll_68 SJ_X5_settleAll_68
  exact hk_41 _ _ _ _ _ hv2 hF
def SJ_X5_settleAll_41 (k_2 : Int32 → Mem → Option (Unit × Mem)) : Nat → Int32 → Nat → Int32 → Int32 → Mem → Option (Unit × Mem)
  | 0 => fun _ _ _ _ _ => none
  | n + 1 => fun v1 v2 v3 v4 M =>
  if v3 ≤ v4 then
  (k_2 (v1 + 1) M)
  else
  (gd (inb v4 8) (
  if ¬ (gi M (22 + 4 * v2) v4.toNatClampNeg) = 0 then
  (SJ_X5_settleAll_68 k_2 (SJ_X5_settleAll_41 k_2 n) v1 v2 v3 v4 M)
  else
  ((S_X5_settle ((v1 * (8 : Int32)) + v4) M).bind fun w1 =>
  SJ_X5_settleAll_68 k_2 (SJ_X5_settleAll_41 k_2 n) v1 v2 v3 v4 w1.2)))
theorem eqJ_X5_settleAll_41 {k_2 : Option Nat → Int32 → Mem → Option (Unit × Mem)} {q_2 : Int32 → Mem → Option (Unit × Mem)} (hk_2 : ∀ (v1 : Int32) (Ma : Mem), FSC Ma → k_2 (some 141) v1 Ma = q_2 v1 Ma) : ∀ (n : Nat) (v1 : Int32) (v2 : Nat) (v3 : Int32) (v4 : Int32) (M : Mem), v2 < 30 → FSC M → J_X5_settleAll_41 k_2 n (some 141) v1 (some (21 + 4 * v2)) v3 v4 M = SJ_X5_settleAll_41 q_2 n v1 v2 v3 v4 M := by
  intro n
  induction n with
  | zero => intro v1 v2 v3 v4 M hv2 hF; rfl
  | succ n ih =>
    intro v1 v2 v3 v4 M hv2 hF
    unfold J_X5_settleAll_41 SJ_X5_settleAll_41
    refine itc (fun _ => ?_) (fun _ => ?_)
    · exact hk_2 _ _ hF
    · refine (bi_fR (hF.kdT21 hv2) (hF.grT5 hv2)).trans ?_
      refine (bi_aI (hF.kdT22 hv2) (hF.lnT22 hv2)).trans ?_
      refine gd_congr (fun _ => ?_)
      refine itc (fun _ => ?_) (fun _ => ?_)
      · exact eqJ_X5_settleAll_68 hk_2 ih hv2 hF
      · refine (bi_ck (hF.hk 141)).trans ?_
        refine bdc (eqS_X5_settle hF) (fun w1 hw => ?_)
        have hF := hF.kc (keep_X5_settle hw)
        exact eqJ_X5_settleAll_68 hk_2 ih hv2 hF
def SJ_X5_settleAll_37 (k_2 : Int32 → Mem → Option (Unit × Mem)) (v1 : Int32) (v2 : Nat) (s0 : Int32) (M : Mem) : Option (Unit × Mem) :=
  SJ_X5_settleAll_41 k_2 FU v1 v2 s0 (0 : Int32) M
theorem eqJ_X5_settleAll_37 {M : Mem} {k_2 : Option Nat → Int32 → Mem → Option (Unit × Mem)} {q_2 : Int32 → Mem → Option (Unit × Mem)} (hk_2 : ∀ (v1 : Int32) (Ma : Mem), FSC Ma → k_2 (some 141) v1 Ma = q_2 v1 Ma) {v1 : Int32} {v2 : Nat} {s0 : Int32} (hv2 : v2 < 30) (hF : FSC M) : J_X5_settleAll_37 k_2 (some 141) v1 (some (21 + 4 * v2)) s0 M = SJ_X5_settleAll_37 q_2 v1 v2 s0 M := by
  unfold J_X5_settleAll_37 SJ_X5_settleAll_37
  exact eqJ_X5_settleAll_41 hk_2 FU _ _ _ _ _ hv2 hF
def SJ_X5_settleAll_2 : Nat → Int32 → Mem → Option (Unit × Mem)
  | 0 => fun _ _ => none
  | n + 1 => fun v1 M =>
  if (30 : Int32) ≤ v1 then
  (some ((), M))
  else
  (gd (inb v1 30) (
  if ¬ (gr M (21 + 4 * v1.toNatClampNeg) 0) = none then
  ((fR M 6 6 (gr M (21 + 4 * v1.toNatClampNeg) 0)).bind fun x3 =>
  (aN M x3).bind fun x4 =>
  SJ_X5_settleAll_37 (SJ_X5_settleAll_2 n) v1 v1.toNatClampNeg x4 M)
  else
  (SJ_X5_settleAll_37 (SJ_X5_settleAll_2 n) v1 v1.toNatClampNeg (0 : Int32) M)))
theorem eqJ_X5_settleAll_2 : ∀ (n : Nat) (v1 : Int32) (M : Mem), FSC M → J_X5_settleAll_2 n (some 141) v1 M = SJ_X5_settleAll_2 n v1 M := by
  intro n
  induction n with
  | zero => intro v1 M  hF; rfl
  | succ n ih =>
    intro v1 M  hF
    unfold J_X5_settleAll_2 SJ_X5_settleAll_2
    refine itc (fun _ => ?_) (fun _ => ?_)
    · rfl
    · refine (bi_fR (hF.hk 141) (hF.hg 141 0 18)).trans ?_
      refine (bi_fR (hF.hk 18) (hF.hg 18 1 20)).trans ?_
      refine (hF.aT).trans ?_
      refine gd_congr (fun g2 => ?_)
      have h2 := inb_lt g2
      refine (bi_fR (hF.kdT21 h2) rfl).trans ?_
      refine itc (fun _ => ?_) (fun _ => ?_)
      · refine (bi_fR (hF.kdT21 h2) rfl).trans ?_
        refine bdc rfl (fun x3 _ => ?_)
        refine bdc rfl (fun x4 _ => ?_)
        exact eqJ_X5_settleAll_37 ih h2 hF
      · exact eqJ_X5_settleAll_37 ih h2 hF
def S_X5_settleAll  (M : Mem) : Option (Unit × Mem) :=
  SJ_X5_settleAll_2 FU (0 : Int32) M
theorem eqS_X5_settleAll {M : Mem} (hF : FSC M) : L_X5_settleAll (some 141) M = S_X5_settleAll  M := by
  unfold L_X5_settleAll S_X5_settleAll
  exact eqJ_X5_settleAll_2 FU _ _ hF
def SJ_X7_put_3 : Nat → Int32 → Int32 → Mem → Option (Unit × Mem)
  | 0 => fun _ _ _ => none
  | n + 1 => fun v1 v2 M =>
  if v2 < 0 then
  (some ((), M))
  else
  (if (900 : Int32) ≤ (gi M 1 1) then
  (some ((), M))
  else
  (gd (inb (gi M 1 1) 900) (
  SJ_X7_put_3 n v1 (v2 + (-8)) (si (si M 2 (gi M 1 1).toNatClampNeg (vp_nar (aty 22) (((((v1.toUInt32 >>> (v2.toUInt32 &&& Int32.toUInt32 31)).toInt32) &&& (255 : Int32)).toUInt32 % 65536).toInt32))) 1 1 ((gi (si M 2 (gi M 1 1).toNatClampNeg (vp_nar (aty 22) (((((v1.toUInt32 >>> (v2.toUInt32 &&& Int32.toUInt32 31)).toInt32) &&& (255 : Int32)).toUInt32 % 65536).toInt32))) 1 1) + (1 : Int32))))))
theorem eqJ_X7_put_3 : ∀ (n : Nat) (v1 : Int32) (v2 : Int32) (M : Mem), FSC M → J_X7_put_3 n (some 1) v1 v2 M = SJ_X7_put_3 n v1 v2 M := by
  intro n
  induction n with
  | zero => intro v1 v2 M  hF; rfl
  | succ n ih =>
    intro v1 v2 M  hF
    unfold J_X7_put_3 SJ_X7_put_3
    refine itc (fun _ => ?_) (fun _ => ?_)
    · rfl
    · refine (bi_fI (hF.hk 1)).trans ?_
      refine (bi_fR (hF.hk 1) (hF.hg 1 0 2)).trans ?_
      refine (bi_aN (n := 900) (hF.hk 2) (by decide) (by decide) (hF.hl 2)).trans ?_
      refine itc (fun _ => ?_) (fun _ => ?_)
      · rfl
      · refine (bi_fR (hF.hk 1) (hF.hg 1 0 2)).trans ?_
        refine (bi_fI (hF.hk 1)).trans ?_
        refine (bi_uN (hF.hk 2) (hF.hl 2)).trans ?_
        refine gd_congr (fun _ => ?_)
        have hF : FSC (si M 2 (gi M 1 1).toNatClampNeg (vp_nar (aty 22) (((((v1.toUInt32 >>> (v2.toUInt32 &&& Int32.toUInt32 31)).toInt32) &&& (255 : Int32)).toUInt32 % 65536).toInt32))) := hF.kc kc_si
        refine (bi_fI (hF.hk 1)).trans ?_
        refine (bi_pI (hF.hk 1)).trans ?_
        have hF : FSC (si (si M 2 (gi M 1 1).toNatClampNeg (vp_nar (aty 22) (((((v1.toUInt32 >>> (v2.toUInt32 &&& Int32.toUInt32 31)).toInt32) &&& (255 : Int32)).toUInt32 % 65536).toInt32))) 1 1 ((gi (si M 2 (gi M 1 1).toNatClampNeg (vp_nar (aty 22) (((((v1.toUInt32 >>> (v2.toUInt32 &&& Int32.toUInt32 31)).toInt32) &&& (255 : Int32)).toUInt32 % 65536).toInt32))) 1 1) + (1 : Int32))) := hF.kc kc_si
        exact ih _ _ _ hF
def S_X7_put (v1 : Int32) (M : Mem) : Option (Unit × Mem) :=
  SJ_X7_put_3 FU v1 (24 : Int32) M
theorem eqS_X7_put {M : Mem} {v1 : Int32} (hF : FSC M) : L_X7_put (some 1) v1 M = S_X7_put v1 M := by
  unfold L_X7_put S_X7_put
  exact eqJ_X7_put_3 FU _ _ _ hF
def S_X10_feed (v1 : Int32) (v2 : Int32) (v3 : Int32) (v4 : Int32) (v5 : Int32) (M : Mem) : Option (Int32 × Mem) :=
  if ((gi M 1 1) + (20 : Int32)) ≤ (900 : Int32) then
  ((S_X7_put v1 M).bind fun w1 =>
  (S_X7_put v2 w1.2).bind fun w2 =>
  (S_X7_put v3 w2.2).bind fun w3 =>
  (S_X7_put v4 w3.2).bind fun w4 =>
  (S_X7_put v5 w4.2).bind fun w5 =>
  some (gi w5.2 1 1, w5.2))
  else
  (some ((-1 : Int32), M))
theorem eqS_X10_feed {M : Mem} {v1 : Int32} {v2 : Int32} {v3 : Int32} {v4 : Int32} {v5 : Int32} (hF : FSC M) : L_X10_feed (some 0) v1 v2 v3 v4 v5 M = S_X10_feed v1 v2 v3 v4 v5 M := by
  unfold L_X10_feed S_X10_feed
  refine (bi_fR (hF.hk 0) (hF.hg 0 0 1)).trans ?_
  refine (bi_fI (hF.hk 1)).trans ?_
  refine itc (fun _ => ?_) (fun _ => ?_)
  · refine (bi_fR (hF.hk 0) (hF.hg 0 0 1)).trans ?_
    refine (bi_ck (hF.hk 1)).trans ?_
    refine bdc (eqS_X7_put hF) (fun w1 hw => ?_)
    have hF := hF.kc (keep_X7_put hw)
    refine (bi_fR (hF.hk 0) (hF.hg 0 0 1)).trans ?_
    refine (bi_ck (hF.hk 1)).trans ?_
    refine bdc (eqS_X7_put hF) (fun w2 hw => ?_)
    have hF := hF.kc (keep_X7_put hw)
    refine (bi_fR (hF.hk 0) (hF.hg 0 0 1)).trans ?_
    refine (bi_ck (hF.hk 1)).trans ?_
    refine bdc (eqS_X7_put hF) (fun w3 hw => ?_)
    have hF := hF.kc (keep_X7_put hw)
    refine (bi_fR (hF.hk 0) (hF.hg 0 0 1)).trans ?_
    refine (bi_ck (hF.hk 1)).trans ?_
    refine bdc (eqS_X7_put hF) (fun w4 hw => ?_)
    have hF := hF.kc (keep_X7_put hw)
    refine (bi_fR (hF.hk 0) (hF.hg 0 0 1)).trans ?_
    refine (bi_ck (hF.hk 1)).trans ?_
    refine bdc (eqS_X7_put hF) (fun w5 hw => ?_)
    have hF := hF.kc (keep_X7_put hw)
    refine (bi_fR (hF.hk 0) (hF.hg 0 0 1)).trans ?_
    refine (bi_fI (hF.hk 1)).trans ?_
    rfl
  · rfl
def S_X10_end (v1 : Int32) (M : Mem) : Option (Int32 × Mem) :=
  if v1 < 0 then
  (some ((-1 : Int32), M))
  else
  (if v1 ≤ (gi M 1 1) then
  (some (v1, si M 1 1 v1))
  else
  (some ((-1 : Int32), M)))
theorem eqS_X10_end {M : Mem} {v1 : Int32} (hF : FSC M) : L_X10_end (some 0) v1 M = S_X10_end v1 M := by
  unfold L_X10_end S_X10_end
  refine itc (fun _ => ?_) (fun _ => ?_)
  · rfl
  · refine (bi_fR (hF.hk 0) (hF.hg 0 0 1)).trans ?_
    refine (bi_fI (hF.hk 1)).trans ?_
    refine itc (fun _ => ?_) (fun _ => ?_)
    · refine (bi_fR (hF.hk 0) (hF.hg 0 0 1)).trans ?_
      refine (bi_pI (hF.hk 1)).trans ?_
      have hF : FSC (si M 1 1 v1) := hF.kc kc_si
      rfl
    · rfl
def S_X10_sheet (v1 : Int32) (M : Mem) : Option (Int32 × Mem) :=
  (L_X10_yearIndex v1.toInt64 M).bind fun w1 =>
  if ¬ w1.1 = (-1 : Int32) then
  ((S_X4_read w1.1 w1.2).bind fun w2 =>
  if ¬ w2.1 = none then
  ((S_X1_change w1.1 w2.1 (si w2.2 1 1 (0 : Int32))).bind fun w3 =>
  (fI w3.2 6 2 w2.1).bind fun x4 =>
  some (x4, w3.2))
  else
  (some ((-1 : Int32), si w2.2 1 1 (0 : Int32))))
  else
  (some ((-2 : Int32), w1.2))
theorem eqS_X10_sheet {M : Mem} {v1 : Int32} (hF : FSC M) : L_X10_sheet (some 0) v1 M = S_X10_sheet v1 M := by
  unfold L_X10_sheet S_X10_sheet
  refine bdc rfl (fun w1 hw => ?_)
  have hF := hF.kc (keep_X10_yearIndex hw)
  refine itc (fun _ => ?_) (fun _ => ?_)
  · refine (bi_fR (hF.hk 0) (hF.hg 0 1 7)).trans ?_
    refine (bi_ck (hF.hk 7)).trans ?_
    refine bdc (eqS_X4_read hF) (fun w2 hw => ?_)
    have hF := hF.kc (keep_X4_read hw)
    refine (bi_fR (hF.hk 0) (hF.hg 0 0 1)).trans ?_
    refine (bi_pI (hF.hk 1)).trans ?_
    have hF : FSC (si w2.2 1 1 (0 : Int32)) := hF.kc kc_si
    refine itc (fun _ => ?_) (fun _ => ?_)
    · refine (bi_fR (hF.hk 0) (hF.hg 0 2 18)).trans ?_
      refine (bi_ck (hF.hk 18)).trans ?_
      refine bdc (eqS_X1_change hF) (fun w3 hw => ?_)
      have hF := hF.kc (keep_X1_change hw)
      refine bdc rfl (fun x4 _ => ?_)
      rfl
    · rfl
  · rfl
def S_X10_fault (v1 : Int32) (M : Mem) : Option (Int32 × Mem) :=
  if v1 = 0 then
  (some (gi M 7 6, M))
  else
  if v1 = 1 then
  (some (gi M 7 7, M))
  else
  (some ((-1 : Int32), M))
theorem eqS_X10_fault {M : Mem} {v1 : Int32} (hF : FSC M) : L_X10_fault (some 0) v1 M = S_X10_fault v1 M := by
  unfold L_X10_fault S_X10_fault
  refine itc (fun _ => ?_) (fun _ => ?_)
  · refine (bi_fR (hF.hk 0) (hF.hg 0 1 7)).trans ?_
    refine (bi_fI (hF.hk 7)).trans ?_
    rfl
  refine itc (fun _ => ?_) (fun _ => ?_)
  · refine (bi_fR (hF.hk 0) (hF.hg 0 1 7)).trans ?_
    refine (bi_fI (hF.hk 7)).trans ?_
    rfl
  rfl
def S_X10_forget (v1 : Int32) (M : Mem) : Option (Int32 × Mem) :=
  (L_X10_yearIndex v1.toInt64 M).bind fun w1 =>
  if w1.1 = (-1 : Int32) then
  (some ((0 : Int32), w1.2))
  else
  (gd (inb w1.1 30) (
  if ¬ (gr w1.2 19 w1.1.toNatClampNeg) = none then
  ((S_X1_change w1.1 (none : Option Nat) w1.2).bind fun w2 =>
  some ((1 : Int32), w2.2))
  else
  (some ((0 : Int32), w1.2))))
theorem eqS_X10_forget {M : Mem} {v1 : Int32} (hF : FSC M) : L_X10_forget (some 0) v1 M = S_X10_forget v1 M := by
  unfold L_X10_forget S_X10_forget
  refine bdc rfl (fun w1 hw => ?_)
  have hF := hF.kc (keep_X10_yearIndex hw)
  refine itc (fun _ => ?_) (fun _ => ?_)
  · rfl
  · refine (bi_fR (hF.hk 0) (hF.hg 0 2 18)).trans ?_
    refine (bi_fR (hF.hk 18) (hF.hg 18 0 19)).trans ?_
    refine (bi_aR (hF.hk 19) (hF.hl 19)).trans ?_
    refine gd_congr (fun _ => ?_)
    refine itc (fun _ => ?_) (fun _ => ?_)
    · refine (bi_fR (hF.hk 0) (hF.hg 0 2 18)).trans ?_
      refine (bi_ck (hF.hk 18)).trans ?_
      refine bdc (eqS_X1_change hF) (fun w2 hw => ?_)
      have hF := hF.kc (keep_X1_change hw)
      rfl
    · rfl
def S_X10_issue  (M : Mem) : Option (Int32 × Mem) :=
  (S_X1_renew M).bind fun w1 =>
  (S_X5_settleAll w1.2).bind fun w2 =>
  some (w1.1, w2.2)
theorem eqS_X10_issue {M : Mem} (hF : FSC M) : L_X10_issue (some 0) M = S_X10_issue  M := by
  unfold L_X10_issue S_X10_issue
  refine (bi_fR (hF.hk 0) (hF.hg 0 2 18)).trans ?_
  refine (bi_ck (hF.hk 18)).trans ?_
  refine bdc (eqS_X1_renew hF) (fun w1 hw => ?_)
  have hF := hF.kc (keep_X1_renew hw)
  refine (bi_fR (hF.hk 0) (hF.hg 0 3 141)).trans ?_
  refine (bi_ck (hF.hk 141)).trans ?_
  refine bdc (eqS_X5_settleAll hF) (fun w2 hw => ?_)
  have hF := hF.kc (keep_X5_settleAll hw)
  rfl
def SJ_X10_state_108 (v2 : Int32) (v3 : Int32) (M : Mem) : Option (Int32 × Mem) :=
  gd (inb v3 30) (
  (L_X10_sheetState (gr M 19 v3.toNatClampNeg) v2 M).bind fun w1 =>
  some (w1.1, w1.2))
theorem eqJ_X10_state_108 {M : Mem} {v2 : Int32} {v3 : Int32} (hF : FSC M) : J_X10_state_108 (some 0) v2 v3 M = SJ_X10_state_108 v2 v3 M := by
  unfold J_X10_state_108 SJ_X10_state_108
  refine (bi_fR (hF.hk 0) (hF.hg 0 2 18)).trans ?_
  refine (bi_fR (hF.hk 18) (hF.hg 18 0 19)).trans ?_
  refine (bi_aR (hF.hk 19) (hF.hl 19)).trans ?_
  refine gd_congr (fun _ => ?_)
  refine bdc rfl (fun w1 hw => ?_)
  have hF := hF.kc (keep_X10_sheetState hw)
  rfl
def S_X10_state (v1 : Int32) (v2 : Int32) (M : Mem) : Option (Int32 × Mem) :=
  (L_X10_yearIndex v1.toInt64 M).bind fun w2 =>
  if ¬ w2.1 = (-1 : Int32) then
  (gd (inb w2.1 30) (
  if v2 = 0 then
  (some (gi w2.2 (21 + 4 * w2.1.toNatClampNeg) 1, w2.2))
  else
  if v2 = 1 then
  (some (gi w2.2 (21 + 4 * w2.1.toNatClampNeg) 2, w2.2))
  else
  if v2 = 2 then
  (some (gi w2.2 (21 + 4 * w2.1.toNatClampNeg) 3, w2.2))
  else
  if v2 = 3 then
  (some (gi w2.2 (21 + 4 * w2.1.toNatClampNeg) 4, w2.2))
  else
  if v2 = 7 then
  (some ((((gi w2.2 18 2).toUInt32 >>> (w2.1.toUInt32 &&& Int32.toUInt32 31)).toInt32) &&& (1 : Int32), w2.2))
  else
  (SJ_X10_state_108 v2 w2.1 w2.2)))
  else
  (some ((-1 : Int32), w2.2))
theorem eqS_X10_state {M : Mem} {v1 : Int32} {v2 : Int32} (hF : FSC M) : L_X10_state (some 0) v1 v2 M = S_X10_state v1 v2 M := by
  unfold L_X10_state S_X10_state
  refine bdc rfl (fun w2 hw => ?_)
  have hF := hF.kc (keep_X10_yearIndex hw)
  refine itc (fun _ => ?_) (fun _ => ?_)
  · refine (bi_fR (hF.hk 0) (hF.hg 0 2 18)).trans ?_
    refine (bi_fR (hF.hk 18) (hF.hg 18 1 20)).trans ?_
    refine (hF.aT).trans ?_
    refine gd_congr (fun g3 => ?_)
    have h3 := inb_lt g3
    refine itc (fun _ => ?_) (fun _ => ?_)
    · refine (bi_fI (hF.kdT21 h3)).trans ?_
      rfl
    refine itc (fun _ => ?_) (fun _ => ?_)
    · refine (bi_fI (hF.kdT21 h3)).trans ?_
      rfl
    refine itc (fun _ => ?_) (fun _ => ?_)
    · refine (bi_fI (hF.kdT21 h3)).trans ?_
      rfl
    refine itc (fun _ => ?_) (fun _ => ?_)
    · refine (bi_fI (hF.kdT21 h3)).trans ?_
      rfl
    refine itc (fun _ => ?_) (fun _ => ?_)
    · refine (bi_fR (hF.hk 0) (hF.hg 0 2 18)).trans ?_
      refine (bi_fI (hF.hk 18)).trans ?_
      rfl
    exact eqJ_X10_state_108 hF
  · rfl
def S_X10_leans (v1 : Int32) (v2 : Int32) (M : Mem) : Option (Int32 × Mem) :=
  (L_X10_yearIndex v1.toInt64 M).bind fun w1 =>
  (L_X10_yearIndex v2.toInt64 w1.2).bind fun w2 =>
  if w1.1 = (-1 : Int32) then
  (some ((0 : Int32), w2.2))
  else
  (if ¬ w2.1 = (-1 : Int32) then
  (gd (inb w1.1 30) (
  if (gr w2.2 19 w1.1.toNatClampNeg) = none then
  (some ((0 : Int32), w2.2))
  else
  ((fI w2.2 6 1 (gr w2.2 19 w1.1.toNatClampNeg)).bind fun x3 =>
  if ¬ (((x3.toUInt32 >>> (w2.1.toUInt32 &&& Int32.toUInt32 31)).toInt32) &&& (1 : Int32)) = (1 : Int32) then
  (some ((0 : Int32), w2.2))
  else
  (some ((1 : Int32), w2.2)))))
  else
  (some ((0 : Int32), w2.2)))
theorem eqS_X10_leans {M : Mem} {v1 : Int32} {v2 : Int32} (hF : FSC M) : L_X10_leans (some 0) v1 v2 M = S_X10_leans v1 v2 M := by
  unfold L_X10_leans S_X10_leans
  refine bdc rfl (fun w1 hw => ?_)
  have hF := hF.kc (keep_X10_yearIndex hw)
  refine bdc rfl (fun w2 hw => ?_)
  have hF := hF.kc (keep_X10_yearIndex hw)
  refine itc (fun _ => ?_) (fun _ => ?_)
  · rfl
  · refine itc (fun _ => ?_) (fun _ => ?_)
    · refine (bi_fR (hF.hk 0) (hF.hg 0 2 18)).trans ?_
      refine (bi_fR (hF.hk 18) (hF.hg 18 0 19)).trans ?_
      refine (bi_aR (hF.hk 19) (hF.hl 19)).trans ?_
      refine gd_congr (fun _ => ?_)
      refine itc (fun _ => ?_) (fun _ => ?_)
      · rfl
      · refine bdc rfl (fun x3 _ => ?_)
        refine itc (fun _ => ?_) (fun _ => ?_)
        · rfl
        · rfl
    · rfl
def S_X10_constant (v1 : Int32) (v2 : Int32) (M : Mem) : Option (Int64 × Mem) :=
  (L_X10_yearIndex v1.toInt64 M).bind fun w1 =>
  if ¬ w1.1 = (-1 : Int32) then
  (gd (inb w1.1 30) (
  (S_X8_valueOf w1.1.toNatClampNeg v2 w1.2).bind fun w3 =>
  some (w3.1, w3.2)))
  else
  (some ((-2000000000000000 : Int64), w1.2))
theorem eqS_X10_constant {M : Mem} {v1 : Int32} {v2 : Int32} (hF : FSC M) : L_X10_constant (some 0) v1 v2 M = S_X10_constant v1 v2 M := by
  unfold L_X10_constant S_X10_constant
  refine bdc rfl (fun w1 hw => ?_)
  have hF := hF.kc (keep_X10_yearIndex hw)
  refine itc (fun _ => ?_) (fun _ => ?_)
  · refine (bi_fR (hF.hk 0) (hF.hg 0 2 18)).trans ?_
    refine (bi_fR (hF.hk 18) (hF.hg 18 1 20)).trans ?_
    refine (hF.aT).trans ?_
    refine gd_congr (fun g2 => ?_)
    have h2 := inb_lt g2
    refine (bi_ck (hF.kdT21 h2)).trans ?_
    refine bdc (eqS_X8_valueOf h2 hF) (fun w3 hw => ?_)
    have hF := hF.kc (keep_X8_valueOf hw)
    rfl
  · rfl
def S_X10_entry (v1 : Int32) (v2 : Int32) (v3 : Int32) (M : Mem) : Option (Int64 × Mem) :=
  (L_X10_yearIndex v1.toInt64 M).bind fun w1 =>
  if w1.1 = (-1 : Int32) then
  (some ((-2000000000000000 : Int64), w1.2))
  else
  (gd (inb w1.1 30) (
  (S_X8_hasEntry w1.1.toNatClampNeg v2 v3.toInt64 w1.2).bind fun w3 =>
  if ¬ w3.1 = 0 then
  (gd (inb w1.1 30) (
  gd (inb ((v2 * (12 : Int32)) + v3) 72) (
  some (gl w3.2 (24 + 4 * w1.1.toNatClampNeg) ((v2 * (12 : Int32)) + v3).toNatClampNeg, w3.2))))
  else
  (some ((-2000000000000000 : Int64), w3.2))))
theorem eqS_X10_entry {M : Mem} {v1 : Int32} {v2 : Int32} {v3 : Int32} (hF : FSC M) : L_X10_entry (some 0) v1 v2 v3 M = S_X10_entry v1 v2 v3 M := by
  unfold L_X10_entry S_X10_entry
  refine bdc rfl (fun w1 hw => ?_)
  have hF := hF.kc (keep_X10_yearIndex hw)
  refine itc (fun _ => ?_) (fun _ => ?_)
  · rfl
  · refine (bi_fR (hF.hk 0) (hF.hg 0 2 18)).trans ?_
    refine (bi_fR (hF.hk 18) (hF.hg 18 1 20)).trans ?_
    refine (hF.aT).trans ?_
    refine gd_congr (fun g2 => ?_)
    have h2 := inb_lt g2
    refine (bi_ck (hF.kdT21 h2)).trans ?_
    refine bdc (eqS_X8_hasEntry h2 hF) (fun w3 hw => ?_)
    have hF := hF.kc (keep_X8_hasEntry hw)
    refine itc (fun _ => ?_) (fun _ => ?_)
    · refine (bi_fR (hF.hk 0) (hF.hg 0 2 18)).trans ?_
      refine (bi_fR (hF.hk 18) (hF.hg 18 1 20)).trans ?_
      refine (hF.aT).trans ?_
      refine gd_congr (fun g4 => ?_)
      have h4 := inb_lt g4
      refine (bi_fR (hF.kdT21 h4) (hF.grT7 h4)).trans ?_
      refine (bi_aL (hF.kdT24 h4) (hF.lnT24 h4)).trans ?_
      refine gd_congr (fun _ => ?_)
      rfl
    · rfl
def S_X10_need (v1 : Int32) (M : Mem) : Option (Int32 × Mem) :=
  (L_X10_yearIndex v1.toInt64 M).bind fun w1 =>
  if ¬ w1.1 = (-1 : Int32) then
  ((S_X3_summon w1.1 w1.2).bind fun w2 =>
  some (w2.1, w2.2))
  else
  (some ((-1 : Int32), w1.2))
theorem eqS_X10_need {M : Mem} {v1 : Int32} (hF : FSC M) : L_X10_need (some 0) v1 M = S_X10_need v1 M := by
  unfold L_X10_need S_X10_need
  refine bdc rfl (fun w1 hw => ?_)
  have hF := hF.kc (keep_X10_yearIndex hw)
  refine itc (fun _ => ?_) (fun _ => ?_)
  · refine (bi_fR (hF.hk 0) (hF.hg 0 4 144)).trans ?_
    refine (bi_ck (hF.hk 144)).trans ?_
    refine bdc (eqS_X3_summon hF) (fun w2 hw => ?_)
    have hF := hF.kc (keep_X3_summon hw)
    rfl
  · rfl
def S_X10_started (v1 : Int32) (M : Mem) : Option (Int32 × Mem) :=
  if v1 < 0 then
  (some ((-1 : Int32), M))
  else
  (if (300 : Int32) ≤ v1 then
  (some ((-1 : Int32), M))
  else
  (if v1 < (gi M 144 8) then
  (gd (inb v1 300) (
  some ((1700 : Int32) + (gi M 179 v1.toNatClampNeg), M)))
  else
  (some ((-1 : Int32), M))))
theorem eqS_X10_started {M : Mem} {v1 : Int32} (hF : FSC M) : L_X10_started (some 0) v1 M = S_X10_started v1 M := by
  unfold L_X10_started S_X10_started
  refine itc (fun _ => ?_) (fun _ => ?_)
  · rfl
  · refine itc (fun _ => ?_) (fun _ => ?_)
    · rfl
    · refine (bi_fR (hF.hk 0) (hF.hg 0 4 144)).trans ?_
      refine (bi_fI (hF.hk 144)).trans ?_
      refine itc (fun _ => ?_) (fun _ => ?_)
      · refine (bi_fR (hF.hk 0) (hF.hg 0 4 144)).trans ?_
        refine (bi_fR (hF.hk 144) (hF.hg 144 7 179)).trans ?_
        refine (bi_aI (hF.hk 179) (hF.hl 179)).trans ?_
        refine gd_congr (fun _ => ?_)
        rfl
      · rfl
def SJ_X10_voyage_25 (v1 : Int32) (v2 : Int32) (s0 : Int32) (M : Mem) : Option (Int32 × Mem) :=
  if s0 = 0 then
  (some ((-1 : Int32), M))
  else
  (if (gi M 0 6) < (20 : Int32) then
  ((L_X9_init (some (nc M)) v1 v2 (nw M 9 0 9)).bind fun w1 =>
  gd (inb (gi M 0 6) 20 ∧ okRd w1.2 (acm 28) (some (nc M)) = true) (
  some ((gi (si (sr w1.2 180 (gi M 0 6).toNatClampNeg (some (nc M))) 0 6 ((gi (sr w1.2 180 (gi M 0 6).toNatClampNeg (some (nc M))) 0 6) + (1 : Int32))) 0 6) - (1 : Int32), si (sr w1.2 180 (gi M 0 6).toNatClampNeg (some (nc M))) 0 6 ((gi (sr w1.2 180 (gi M 0 6).toNatClampNeg (some (nc M))) 0 6) + (1 : Int32)))))
  else
  (some ((-1 : Int32), M)))
theorem eqJ_X10_voyage_25 {M : Mem} {v1 : Int32} {v2 : Int32} {s0 : Int32} (hF : FSC M) : J_X10_voyage_25 (some 0) v1 v2 s0 M = SJ_X10_voyage_25 v1 v2 s0 M := by
  unfold J_X10_voyage_25 SJ_X10_voyage_25
  refine itc (fun _ => ?_) (fun _ => ?_)
  · rfl
  · refine (bi_fI (hF.hk 0)).trans ?_
    refine itc (fun _ => ?_) (fun _ => ?_)
    · refine (bi_fR (hF.hk 0) (hF.hg 0 5 180)).trans ?_
      refine (bi_fI (hF.hk 0)).trans ?_
      have hF0 := hF
      have hF : FSC (nw M 9 0 9) := hF.kc kc_nw
      refine bdc rfl (fun w1 hw => ?_)
      have hF := hF0.kc (kx_new KC.rf (keep_X9_init hw))
      refine (bi_uR (hF.hk 180) (hF.hl 180)).trans ?_
      refine gd_congr (fun _ => ?_)
      have hF : FSC (sr w1.2 180 (gi M 0 6).toNatClampNeg (some (nc M))) := hF.kc (kc_srk (hF.hk 180) (fx28 _))
      refine (bi_fI (hF.hk 0)).trans ?_
      refine (bi_pI (hF.hk 0)).trans ?_
      have hF : FSC (si (sr w1.2 180 (gi M 0 6).toNatClampNeg (some (nc M))) 0 6 ((gi (sr w1.2 180 (gi M 0 6).toNatClampNeg (some (nc M))) 0 6) + (1 : Int32))) := hF.kc kc_si
      refine (bi_fI (hF.hk 0)).trans ?_
      rfl
    · rfl
def SJ_X10_voyage_24 (v1 : Int32) (v2 : Int32) (M : Mem) : Option (Int32 × Mem) :=
  SJ_X10_voyage_25 v1 v2 (0 : Int32) M
theorem eqJ_X10_voyage_24 {M : Mem} {v1 : Int32} {v2 : Int32} (hF : FSC M) : J_X10_voyage_24 (some 0) v1 v2 M = SJ_X10_voyage_24 v1 v2 M := by
  unfold J_X10_voyage_24 SJ_X10_voyage_24
  exact eqJ_X10_voyage_25 hF
def S_X10_voyage (v1 : Int32) (v2 : Int32) (M : Mem) : Option (Int32 × Mem) :=
  if v1 < 0 then
  (SJ_X10_voyage_24 v1 v2 M)
  else
  (if (100000 : Int32) < v1 then
  (SJ_X10_voyage_24 v1 v2 M)
  else
  (if v2 < 0 then
  (SJ_X10_voyage_24 v1 v2 M)
  else
  (if (9 : Int32) < v2 then
  (SJ_X10_voyage_24 v1 v2 M)
  else
  (SJ_X10_voyage_25 v1 v2 (1 : Int32) M))))
theorem eqS_X10_voyage {M : Mem} {v1 : Int32} {v2 : Int32} (hF : FSC M) : L_X10_voyage (some 0) v1 v2 M = S_X10_voyage v1 v2 M := by
  unfold L_X10_voyage S_X10_voyage
  refine itc (fun _ => ?_) (fun _ => ?_)
  · exact eqJ_X10_voyage_24 hF
  · refine itc (fun _ => ?_) (fun _ => ?_)
    · exact eqJ_X10_voyage_24 hF
    · refine itc (fun _ => ?_) (fun _ => ?_)
      · exact eqJ_X10_voyage_24 hF
      · refine itc (fun _ => ?_) (fun _ => ?_)
        · exact eqJ_X10_voyage_24 hF
        · exact eqJ_X10_voyage_25 hF
def SJ_X10_voyageOf_21  (M : Mem) : Option (Option Nat × Mem) :=
  some ((none : Option Nat), M)
theorem eqJ_X10_voyageOf_21 {M : Mem} (hF : FSC M) : J_X10_voyageOf_21  M = SJ_X10_voyageOf_21  M := by
  unfold J_X10_voyageOf_21 SJ_X10_voyageOf_21
  rfl
def S_X10_voyageOf (v1 : Int32) (M : Mem) : Option (Option Nat × Mem) :=
  if v1 < 0 then
  (SJ_X10_voyageOf_21  M)
  else
  (if (gi M 0 6) ≤ v1 then
  (SJ_X10_voyageOf_21  M)
  else
  (gd (inb v1 20) (
  some (gr M 180 v1.toNatClampNeg, M))))
theorem eqS_X10_voyageOf {M : Mem} {v1 : Int32} (hF : FSC M) : L_X10_voyageOf (some 0) v1 M = S_X10_voyageOf v1 M := by
  unfold L_X10_voyageOf S_X10_voyageOf
  refine itc (fun _ => ?_) (fun _ => ?_)
  · exact eqJ_X10_voyageOf_21 hF
  · refine (bi_fI (hF.hk 0)).trans ?_
    refine itc (fun _ => ?_) (fun _ => ?_)
    · exact eqJ_X10_voyageOf_21 hF
    · refine (bi_fR (hF.hk 0) (hF.hg 0 5 180)).trans ?_
      refine (bi_aR (hF.hk 180) (hF.hl 180)).trans ?_
      refine gd_congr (fun _ => ?_)
      rfl
def SJ_X10_lock_49 (v2 : Int32) (v4 : Int32) (v5 : Option Nat) (v6 : Int32) (s0 : Int32) (M : Mem) : Option (Int32 × Mem) :=
  if v5 = none then
  (some ((-1 : Int32), M))
  else
  (if s0 = 0 then
  (some ((-1 : Int32), M))
  else
  ((fI M 9 2 v5).bind fun x1 =>
  if x1 < (8 : Int32) then
  ((ck M 9 v5).bind fun _ => (L_X9_addLock v5 v2 v6 v4 M).bind fun w2 =>
  (fI w2.2 9 2 v5).bind fun x3 =>
  some (x3, w2.2))
  else
  (some ((-1 : Int32), M))))
theorem eqJ_X10_lock_49 {M : Mem} {v2 : Int32} {v4 : Int32} {v5 : Option Nat} {v6 : Int32} {s0 : Int32} (hF : FSC M) : J_X10_lock_49 v2 v4 v5 v6 s0 M = SJ_X10_lock_49 v2 v4 v5 v6 s0 M := by
  unfold J_X10_lock_49 SJ_X10_lock_49
  refine itc (fun _ => ?_) (fun _ => ?_)
  · rfl
  · refine itc (fun _ => ?_) (fun _ => ?_)
    · rfl
    · refine bdc rfl (fun x1 _ => ?_)
      refine itc (fun _ => ?_) (fun _ => ?_)
      · refine bdc rfl (fun _ _ => ?_)
        refine bdc rfl (fun w2 hw => ?_)
        have hF := hF.kc (keep_X9_addLock hw)
        refine bdc rfl (fun x3 _ => ?_)
        rfl
      · rfl
def SJ_X10_lock_48 (v2 : Int32) (v4 : Int32) (v5 : Option Nat) (v6 : Int32) (M : Mem) : Option (Int32 × Mem) :=
  SJ_X10_lock_49 v2 v4 v5 v6 (0 : Int32) M
theorem eqJ_X10_lock_48 {M : Mem} {v2 : Int32} {v4 : Int32} {v5 : Option Nat} {v6 : Int32} (hF : FSC M) : J_X10_lock_48 v2 v4 v5 v6 M = SJ_X10_lock_48 v2 v4 v5 v6 M := by
  unfold J_X10_lock_48 SJ_X10_lock_48
  exact eqJ_X10_lock_49 hF
def S_X10_lock (v1 : Int32) (v2 : Int32) (v3 : Int32) (v4 : Int32) (M : Mem) : Option (Int32 × Mem) :=
  (S_X10_voyageOf v1 M).bind fun w4 =>
  (L_X10_yearIndex v3.toInt64 w4.2).bind fun w5 =>
  if v2 < 0 then
  (SJ_X10_lock_48 v2 v4 w4.1 w5.1 w5.2)
  else
  (if (99 : Int32) < v2 then
  (SJ_X10_lock_48 v2 v4 w4.1 w5.1 w5.2)
  else
  (if w5.1 = (-1 : Int32) then
  (SJ_X10_lock_48 v2 v4 w4.1 w5.1 w5.2)
  else
  (if v4 < (1 : Int32) then
  (SJ_X10_lock_48 v2 v4 w4.1 w5.1 w5.2)
  else
  (if (366 : Int32) < v4 then
  (SJ_X10_lock_48 v2 v4 w4.1 w5.1 w5.2)
  else
  (SJ_X10_lock_49 v2 v4 w4.1 w5.1 (1 : Int32) w5.2)))))
theorem eqS_X10_lock {M : Mem} {v1 : Int32} {v2 : Int32} {v3 : Int32} {v4 : Int32} (hF : FSC M) : L_X10_lock (some 0) v1 v2 v3 v4 M = S_X10_lock v1 v2 v3 v4 M := by
  unfold L_X10_lock S_X10_lock
  refine (bi_ck (hF.hk 0)).trans ?_
  refine bdc (eqS_X10_voyageOf hF) (fun w4 hw => ?_)
  have hF := hF.kc (keep_X10_voyageOf hw)
  refine bdc rfl (fun w5 hw => ?_)
  have hF := hF.kc (keep_X10_yearIndex hw)
  refine itc (fun _ => ?_) (fun _ => ?_)
  · exact eqJ_X10_lock_48 hF
  · refine itc (fun _ => ?_) (fun _ => ?_)
    · exact eqJ_X10_lock_48 hF
    · refine itc (fun _ => ?_) (fun _ => ?_)
      · exact eqJ_X10_lock_48 hF
      · refine itc (fun _ => ?_) (fun _ => ?_)
        · exact eqJ_X10_lock_48 hF
        · refine itc (fun _ => ?_) (fun _ => ?_)
          · exact eqJ_X10_lock_48 hF
          · exact eqJ_X10_lock_49 hF
def S_X10_bill (v1 : Int32) (M : Mem) : Option (Int32 × Mem) :=
  (S_X10_voyageOf v1 M).bind fun w1 =>
  if w1.1 = none then
  (some ((-1 : Int32), w1.2))
  else
  ((fI w1.2 9 2 w1.1).bind fun x2 =>
  if ¬ x2 = 0 then
  ((S_X3_charge w1.1 w1.2).bind fun w3 =>
  if ¬ w3.1 = 0 then
  (some (w3.1, si w3.2 0 8 ((gi w3.2 0 8) + (1 : Int32))))
  else
  (some (w3.1, si w3.2 0 7 ((gi w3.2 0 7) + (1 : Int32)))))
  else
  (some ((-1 : Int32), w1.2)))
theorem eqS_X10_bill {M : Mem} {v1 : Int32} (hF : FSC M) : L_X10_bill (some 0) v1 M = S_X10_bill v1 M := by
  unfold L_X10_bill S_X10_bill
  refine (bi_ck (hF.hk 0)).trans ?_
  refine bdc (eqS_X10_voyageOf hF) (fun w1 hw => ?_)
  have hF := hF.kc (keep_X10_voyageOf hw)
  refine itc (fun _ => ?_) (fun _ => ?_)
  · rfl
  · refine bdc rfl (fun x2 _ => ?_)
    refine itc (fun _ => ?_) (fun _ => ?_)
    · refine (bi_fR (hF.hk 0) (hF.hg 0 4 144)).trans ?_
      refine (bi_ck (hF.hk 144)).trans ?_
      refine bdc (eqS_X3_charge hF) (fun w3 hw => ?_)
      have hF := hF.kc (keep_X3_charge hw)
      refine itc (fun _ => ?_) (fun _ => ?_)
      · refine (bi_fI (hF.hk 0)).trans ?_
        refine (bi_pI (hF.hk 0)).trans ?_
        have hF : FSC (si w3.2 0 8 ((gi w3.2 0 8) + (1 : Int32))) := hF.kc kc_si
        rfl
      · refine (bi_fI (hF.hk 0)).trans ?_
        refine (bi_pI (hF.hk 0)).trans ?_
        have hF : FSC (si w3.2 0 7 ((gi w3.2 0 7) + (1 : Int32))) := hF.kc kc_si
        rfl
    · rfl
def S_X10_line (v1 : Int32) (v2 : Int32) (M : Mem) : Option (Int64 × Mem) :=
  (S_X10_voyageOf v1 M).bind fun w1 =>
  if w1.1 = none then
  (some ((-2000000000000000 : Int64), w1.2))
  else
  (if v2 < 0 then
  (some ((-2000000000000000 : Int64), w1.2))
  else
  ((fI w1.2 9 8 w1.1).bind fun x2 =>
  if x2 < v2 then
  (some ((-2000000000000000 : Int64), w1.2))
  else
  ((fI w1.2 9 8 w1.1).bind fun x3 =>
  if ¬ x3 = 0 then
  (if ¬ v2 = 0 then
  ((fR w1.2 9 6 w1.1).bind fun x4 =>
  (aL w1.2 21 x4 (v2 - (1 : Int32))).bind fun x5 =>
  some (x5, w1.2))
  else
  ((fL w1.2 9 7 w1.1).bind fun x6 =>
  some (x6, w1.2)))
  else
  (some ((-2000000000000000 : Int64), w1.2)))))
theorem eqS_X10_line {M : Mem} {v1 : Int32} {v2 : Int32} (hF : FSC M) : L_X10_line (some 0) v1 v2 M = S_X10_line v1 v2 M := by
  unfold L_X10_line S_X10_line
  refine (bi_ck (hF.hk 0)).trans ?_
  refine bdc (eqS_X10_voyageOf hF) (fun w1 hw => ?_)
  have hF := hF.kc (keep_X10_voyageOf hw)
  refine itc (fun _ => ?_) (fun _ => ?_)
  · rfl
  · refine itc (fun _ => ?_) (fun _ => ?_)
    · rfl
    · refine bdc rfl (fun x2 _ => ?_)
      refine itc (fun _ => ?_) (fun _ => ?_)
      · rfl
      · refine bdc rfl (fun x3 _ => ?_)
        refine itc (fun _ => ?_) (fun _ => ?_)
        · refine itc (fun _ => ?_) (fun _ => ?_)
          · refine bdc rfl (fun x4 _ => ?_)
            refine bdc rfl (fun x5 _ => ?_)
            rfl
          · refine bdc rfl (fun x6 _ => ?_)
            rfl
        · rfl
def S_X10_count (v1 : Int32) (M : Mem) : Option (Int32 × Mem) :=
  if v1 = 0 then
  (some (gi M 18 3, M))
  else
  if v1 = 1 then
  (some (gi M 144 8, M))
  else
  if v1 = 2 then
  (some (gi M 0 7, M))
  else
  if v1 = 3 then
  (some (gi M 0 8, M))
  else
  if v1 = 4 then
  (some (gi M 0 6, M))
  else
  (some ((-1 : Int32), M))
theorem eqS_X10_count {M : Mem} {v1 : Int32} (hF : FSC M) : L_X10_count (some 0) v1 M = S_X10_count v1 M := by
  unfold L_X10_count S_X10_count
  refine itc (fun _ => ?_) (fun _ => ?_)
  · refine (bi_fR (hF.hk 0) (hF.hg 0 2 18)).trans ?_
    refine (bi_fI (hF.hk 18)).trans ?_
    rfl
  refine itc (fun _ => ?_) (fun _ => ?_)
  · refine (bi_fR (hF.hk 0) (hF.hg 0 4 144)).trans ?_
    refine (bi_fI (hF.hk 144)).trans ?_
    rfl
  refine itc (fun _ => ?_) (fun _ => ?_)
  · refine (bi_fI (hF.hk 0)).trans ?_
    rfl
  refine itc (fun _ => ?_) (fun _ => ?_)
  · refine (bi_fI (hF.hk 0)).trans ?_
    rfl
  refine itc (fun _ => ?_) (fun _ => ?_)
  · refine (bi_fI (hF.hk 0)).trans ?_
    rfl
  rfl
