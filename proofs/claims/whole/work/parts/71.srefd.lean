def SJ_X11_worksConstants_134 (k_44 : Int32 → Mem → Option (Unit × Mem)) (k_52 : Int32 → Int32 → Mem → Option (Unit × Mem)) (v1 : Int32) (v2 : Int32) (M : Mem) : Option (Unit × Mem) :=
  k_52 v1 (v2 + 1) M
theorem eqJ_X11_worksConstants_134 {M : Mem} {k_44 : Option Nat → Int32 → Mem → Option (Unit × Mem)} {q_44 : Int32 → Mem → Option (Unit × Mem)} (hk_44 : ∀ (v1 : Int32) (Ma : Mem), FSR Ma → k_44 (some 181) v1 Ma = q_44 v1 Ma) {k_52 : Option Nat → Int32 → Int32 → Mem → Option (Unit × Mem)} {q_52 : Int32 → Int32 → Mem → Option (Unit × Mem)} (hk_52 : ∀ (v1 : Int32) (v2 : Int32) (Ma : Mem), FSR Ma → k_52 (some 181) v1 v2 Ma = q_52 v1 v2 Ma) (hF : FSR M) {v1 : Int32} {v2 : Int32} : J_X11_worksConstants_134 k_44 k_52 (some 181) v1 v2 M = SJ_X11_worksConstants_134 q_44 q_52 v1 v2 M := by
  unfold J_X11_worksConstants_134 SJ_X11_worksConstants_134
  exact hk_52 _ _ _ hF
theorem keepJ_X11_worksConstants_134 {M : Mem} {z : Unit × Mem} {k_44 : Option Nat → Int32 → Mem → Option (Unit × Mem)} (hk_44 : ∀ (v0 : Option Nat) (v1 : Int32) (Ma : Mem), k_44 v0 v1 Ma = some z → KG Ma z.2) {k_52 : Option Nat → Int32 → Int32 → Mem → Option (Unit × Mem)} (hk_52 : ∀ (v0 : Option Nat) (v1 : Int32) (v2 : Int32) (Ma : Mem), k_52 v0 v1 v2 Ma = some z → KG Ma z.2) {v0 : Option Nat} {v1 : Int32} {v2 : Int32} (h : J_X11_worksConstants_134 k_44 k_52 v0 v1 v2 M = some z) : KG M z.2 := by
  unfold J_X11_worksConstants_134 at h
  have hg : KG M M := KG.rf
  exact hg.trans (hk_52 _ _ _ _ h)
def SJ_X11_worksConstants_133 (k_44 : Int32 → Mem → Option (Unit × Mem)) (k_52 : Int32 → Int32 → Mem → Option (Unit × Mem)) (v2 : Int32) (s0 : Int32) (M : Mem) : Option (Unit × Mem) :=
  SJ_X11_worksConstants_134 k_44 k_52 s0 v2 M
theorem eqJ_X11_worksConstants_133 {M : Mem} {k_44 : Option Nat → Int32 → Mem → Option (Unit × Mem)} {q_44 : Int32 → Mem → Option (Unit × Mem)} (hk_44 : ∀ (v1 : Int32) (Ma : Mem), FSR Ma → k_44 (some 181) v1 Ma = q_44 v1 Ma) {k_52 : Option Nat → Int32 → Int32 → Mem → Option (Unit × Mem)} {q_52 : Int32 → Int32 → Mem → Option (Unit × Mem)} (hk_52 : ∀ (v1 : Int32) (v2 : Int32) (Ma : Mem), FSR Ma → k_52 (some 181) v1 v2 Ma = q_52 v1 v2 Ma) (hF : FSR M) {v2 : Int32} {s0 : Int32} : J_X11_worksConstants_133 k_44 k_52 (some 181) v2 s0 M = SJ_X11_worksConstants_133 q_44 q_52 v2 s0 M := by
  unfold J_X11_worksConstants_133 SJ_X11_worksConstants_133
  exact eqJ_X11_worksConstants_134 hk_44 hk_52 hF
theorem keepJ_X11_worksConstants_133 {M : Mem} {z : Unit × Mem} {k_44 : Option Nat → Int32 → Mem → Option (Unit × Mem)} (hk_44 : ∀ (v0 : Option Nat) (v1 : Int32) (Ma : Mem), k_44 v0 v1 Ma = some z → KG Ma z.2) {k_52 : Option Nat → Int32 → Int32 → Mem → Option (Unit × Mem)} (hk_52 : ∀ (v0 : Option Nat) (v1 : Int32) (v2 : Int32) (Ma : Mem), k_52 v0 v1 v2 Ma = some z → KG Ma z.2) {v0 : Option Nat} {v2 : Int32} {s0 : Int32} (h : J_X11_worksConstants_133 k_44 k_52 v0 v2 s0 M = some z) : KG M z.2 := by
  unfold J_X11_worksConstants_133 at h
  have hg : KG M M := KG.rf
  exact hg.trans (keepJ_X11_worksConstants_134 hk_44 hk_52 h)
def SJ_X11_worksConstants_128 (k_44 : Int32 → Mem → Option (Unit × Mem)) (k_52 : Int32 → Int32 → Mem → Option (Unit × Mem)) (v2 : Int32) (M : Mem) : Option (Unit × Mem) :=
  SJ_X11_worksConstants_133 k_44 k_52 v2 (1 : Int32) M
theorem eqJ_X11_worksConstants_128 {M : Mem} {k_44 : Option Nat → Int32 → Mem → Option (Unit × Mem)} {q_44 : Int32 → Mem → Option (Unit × Mem)} (hk_44 : ∀ (v1 : Int32) (Ma : Mem), FSR Ma → k_44 (some 181) v1 Ma = q_44 v1 Ma) {k_52 : Option Nat → Int32 → Int32 → Mem → Option (Unit × Mem)} {q_52 : Int32 → Int32 → Mem → Option (Unit × Mem)} (hk_52 : ∀ (v1 : Int32) (v2 : Int32) (Ma : Mem), FSR Ma → k_52 (some 181) v1 v2 Ma = q_52 v1 v2 Ma) (hF : FSR M) {v2 : Int32} : J_X11_worksConstants_128 k_44 k_52 (some 181) v2 M = SJ_X11_worksConstants_128 q_44 q_52 v2 M := by
  unfold J_X11_worksConstants_128 SJ_X11_worksConstants_128
  exact eqJ_X11_worksConstants_133 hk_44 hk_52 hF
theorem keepJ_X11_worksConstants_128 {M : Mem} {z : Unit × Mem} {k_44 : Option Nat → Int32 → Mem → Option (Unit × Mem)} (hk_44 : ∀ (v0 : Option Nat) (v1 : Int32) (Ma : Mem), k_44 v0 v1 Ma = some z → KG Ma z.2) {k_52 : Option Nat → Int32 → Int32 → Mem → Option (Unit × Mem)} (hk_52 : ∀ (v0 : Option Nat) (v1 : Int32) (v2 : Int32) (Ma : Mem), k_52 v0 v1 v2 Ma = some z → KG Ma z.2) {v0 : Option Nat} {v2 : Int32} (h : J_X11_worksConstants_128 k_44 k_52 v0 v2 M = some z) : KG M z.2 := by
  unfold J_X11_worksConstants_128 at h
  have hg : KG M M := KG.rf
  exact hg.trans (keepJ_X11_worksConstants_133 hk_44 hk_52 h)
def SJ_X11_worksConstants_52 (k_44 : Int32 → Mem → Option (Unit × Mem)) : Nat → Int32 → Int32 → Mem → Option (Unit × Mem)
  | 0 => fun _ _ _ => none
  | n + 1 => fun v1 v2 M =>
  if (240 : Int32) ≤ v2 then
  (k_44 v1 M)
  else
  (gd (inb v2 240) (
  if ¬ (gi M 217 v2.toNatClampNeg) = 0 then
  (SJ_X11_worksConstants_134 k_44 (SJ_X11_worksConstants_52 k_44 n) v1 v2 M)
  else
  (gd (inb ((30 : Int32) + (v2 / (8 : Int32))) 60) (
  if (gi M 194 ((30 : Int32) + (v2 / (8 : Int32))).toNatClampNeg) = 0 then
  (SJ_X11_worksConstants_134 k_44 (SJ_X11_worksConstants_52 k_44 n) v1 v2 M)
  else
  (gd (inb ((30 : Int32) + (v2 / (8 : Int32))) 60) (
  if (v2 - v2 / (8 : Int32) * (8 : Int32)) < (gi M 197 ((30 : Int32) + (v2 / (8 : Int32))).toNatClampNeg) then
  ((S_X11_comesOut v2 M).bind fun w1 =>
  gd (inb v2 240) (
  if ¬ v1 = 0 then
  (SJ_X11_worksConstants_128 k_44 (SJ_X11_worksConstants_52 k_44 n) v2 (si w1.2 217 v2.toNatClampNeg (vp_nar (aty 24) w1.1)))
  else
  (gd (inb v2 240) (
  if (gi (si w1.2 217 v2.toNatClampNeg (vp_nar (aty 24) w1.1)) 217 v2.toNatClampNeg) = 0 then
  (SJ_X11_worksConstants_133 k_44 (SJ_X11_worksConstants_52 k_44 n) v2 (0 : Int32) (si w1.2 217 v2.toNatClampNeg (vp_nar (aty 24) w1.1)))
  else
  (SJ_X11_worksConstants_128 k_44 (SJ_X11_worksConstants_52 k_44 n) v2 (si w1.2 217 v2.toNatClampNeg (vp_nar (aty 24) w1.1)))))))
  else
  (SJ_X11_worksConstants_134 k_44 (SJ_X11_worksConstants_52 k_44 n) v1 v2 M)))))))
theorem eqJ_X11_worksConstants_52 {k_44 : Option Nat → Int32 → Mem → Option (Unit × Mem)} {q_44 : Int32 → Mem → Option (Unit × Mem)} (hk_44 : ∀ (v1 : Int32) (Ma : Mem), FSR Ma → k_44 (some 181) v1 Ma = q_44 v1 Ma) : ∀ (n : Nat) (v1 : Int32) (v2 : Int32) (M : Mem), FSR M → J_X11_worksConstants_52 k_44 n (some 181) v1 v2 M = SJ_X11_worksConstants_52 q_44 n v1 v2 M := by
  intro n
  induction n with
  | zero => intro v1 v2 M hF; rfl
  | succ n ih =>
    intro v1 v2 M hF
    unfold J_X11_worksConstants_52 SJ_X11_worksConstants_52
    refine itc (fun _ => ?_) (fun _ => ?_)
    · exact hk_44 _ _ hF
    · refine (if_neg (by decide)).trans ?_
      refine (bi_fR (hF.kd 181) (hF.gr 60)).trans ?_
      refine (bi_aI (hF.kd 217) (hF.ln 217)).trans ?_
      refine gd_congr (fun _ => ?_)
      refine itc (fun _ => ?_) (fun _ => ?_)
      · exact eqJ_X11_worksConstants_134 hk_44 ih hF
      · refine (bi_fR (hF.kd 181) (hF.gr 36)).trans ?_
        refine (bi_aI (hF.kd 194) (hF.ln 194)).trans ?_
        refine gd_congr (fun _ => ?_)
        refine itc (fun _ => ?_) (fun _ => ?_)
        · exact eqJ_X11_worksConstants_134 hk_44 ih hF
        · refine (if_neg (by decide)).trans ?_
          refine (bi_fR (hF.kd 181) (hF.gr 39)).trans ?_
          refine (bi_aI (hF.kd 197) (hF.ln 197)).trans ?_
          refine gd_congr (fun _ => ?_)
          refine itc (fun _ => ?_) (fun _ => ?_)
          · refine (bi_fR (hF.kd 181) (hF.gr 60)).trans ?_
            refine (bi_ck (hF.kd 181)).trans ?_
            refine bdc (eqS_X11_comesOut hF) (fun w1 hw => ?_)
            have hF := hF.kg (keep_X11_comesOut hw)
            refine (bi_uN (hF.kd 217) (hF.ln 217)).trans ?_
            refine gd_congr (fun _ => ?_)
            have hF : FSR (si w1.2 217 v2.toNatClampNeg (vp_nar (aty 24) w1.1)) := hF.kg ⟨rfl, rfl, rfl⟩
            refine itc (fun _ => ?_) (fun _ => ?_)
            · exact eqJ_X11_worksConstants_128 hk_44 ih hF
            · refine (bi_fR (hF.kd 181) (hF.gr 60)).trans ?_
              refine (bi_aI (hF.kd 217) (hF.ln 217)).trans ?_
              refine gd_congr (fun _ => ?_)
              refine itc (fun _ => ?_) (fun _ => ?_)
              · exact eqJ_X11_worksConstants_133 hk_44 ih hF
              · exact eqJ_X11_worksConstants_128 hk_44 ih hF
          · exact eqJ_X11_worksConstants_134 hk_44 ih hF
theorem keepJ_X11_worksConstants_52 {z : Unit × Mem} {k_44 : Option Nat → Int32 → Mem → Option (Unit × Mem)} (hk_44 : ∀ (v0 : Option Nat) (v1 : Int32) (Ma : Mem), k_44 v0 v1 Ma = some z → KG Ma z.2) : ∀ (n : Nat) (v0 : Option Nat) (v1 : Int32) (v2 : Int32) (M : Mem), J_X11_worksConstants_52 k_44 n v0 v1 v2 M = some z → KG M z.2 := by
  intro n
  induction n with
  | zero => intro v0 v1 v2 M h; exact nomatch h
  | succ n ih =>
    intro v0 v1 v2 M h
    unfold J_X11_worksConstants_52 at h
    have hg : KG M M := KG.rf
    rcases itor h with h | h
    · exact hg.trans (hk_44 _ _ _ h)
    · have h := nnz h
      obtain ⟨_, -, h⟩ := bnd h
      obtain ⟨_, -, h⟩ := bnd h
      rcases itor h with h | h
      · exact hg.trans (keepJ_X11_worksConstants_134 hk_44 ih h)
      · obtain ⟨_, -, h⟩ := bnd h
        obtain ⟨_, -, h⟩ := bnd h
        rcases itor h with h | h
        · exact hg.trans (keepJ_X11_worksConstants_134 hk_44 ih h)
        · have h := nnz h
          obtain ⟨_, -, h⟩ := bnd h
          obtain ⟨_, -, h⟩ := bnd h
          rcases itor h with h | h
          · obtain ⟨_, -, h⟩ := bnd h
            obtain ⟨_, -, h⟩ := bnd h
            obtain ⟨w1, hw, h⟩ := bnd h
            have hg := hg.trans (keep_X11_comesOut hw)
            obtain ⟨_, hw, h⟩ := bnd h
            have hg := hg.trans (kg_uN hw)
            rcases itor h with h | h
            · exact hg.trans (keepJ_X11_worksConstants_128 hk_44 ih h)
            · obtain ⟨_, -, h⟩ := bnd h
              obtain ⟨_, -, h⟩ := bnd h
              rcases itor h with h | h
              · exact hg.trans (keepJ_X11_worksConstants_133 hk_44 ih h)
              · exact hg.trans (keepJ_X11_worksConstants_128 hk_44 ih h)
          · exact hg.trans (keepJ_X11_worksConstants_134 hk_44 ih h)
def SJ_X11_worksConstants_44 : Nat → Int32 → Mem → Option (Unit × Mem)
  | 0 => fun _ _ => none
  | n + 1 => fun v1 M =>
  if v1 = 0 then
  (some ((), M))
  else
  (SJ_X11_worksConstants_52 (SJ_X11_worksConstants_44 n) FU (0 : Int32) (0 : Int32) M)
theorem eqJ_X11_worksConstants_44 : ∀ (n : Nat) (v1 : Int32) (M : Mem), FSR M → J_X11_worksConstants_44 n (some 181) v1 M = SJ_X11_worksConstants_44 n v1 M := by
  intro n
  induction n with
  | zero => intro v1 M hF; rfl
  | succ n ih =>
    intro v1 M hF
    unfold J_X11_worksConstants_44 SJ_X11_worksConstants_44
    refine itc (fun _ => ?_) (fun _ => ?_)
    · rfl
    · exact eqJ_X11_worksConstants_52 ih FU _ _ _ hF
theorem keepJ_X11_worksConstants_44 {z : Unit × Mem} : ∀ (n : Nat) (v0 : Option Nat) (v1 : Int32) (M : Mem), J_X11_worksConstants_44 n v0 v1 M = some z → KG M z.2 := by
  intro n
  induction n with
  | zero => intro v0 v1 M h; exact nomatch h
  | succ n ih =>
    intro v0 v1 M h
    unfold J_X11_worksConstants_44 at h
    have hg : KG M M := KG.rf
    rcases itor h with h | h
    · cases h; exact hg
    · exact hg.trans (keepJ_X11_worksConstants_52 ih FU _ _ _ _ h)
def SJ_X11_worksConstants_22 : Nat → Int32 → Mem → Option (Unit × Mem)
  | 0 => fun _ _ => none
  | n + 1 => fun v1 M =>
  if (240 : Int32) ≤ v1 then
  (SJ_X11_worksConstants_44 FU (1 : Int32) M)
  else
  (gd (inb v1 240) (
  SJ_X11_worksConstants_22 n (v1 + 1) (si M 217 v1.toNatClampNeg (vp_nar (aty 24) (0 : Int32)))))
theorem eqJ_X11_worksConstants_22 : ∀ (n : Nat) (v1 : Int32) (M : Mem), FSR M → J_X11_worksConstants_22 n (some 181) v1 M = SJ_X11_worksConstants_22 n v1 M := by
  intro n
  induction n with
  | zero => intro v1 M hF; rfl
  | succ n ih =>
    intro v1 M hF
    unfold J_X11_worksConstants_22 SJ_X11_worksConstants_22
    refine itc (fun _ => ?_) (fun _ => ?_)
    · exact eqJ_X11_worksConstants_44 FU _ _ hF
    · refine (bi_fR (hF.kd 181) (hF.gr 60)).trans ?_
      refine (bi_uN (hF.kd 217) (hF.ln 217)).trans ?_
      refine gd_congr (fun _ => ?_)
      have hF : FSR (si M 217 v1.toNatClampNeg (vp_nar (aty 24) (0 : Int32))) := hF.kg ⟨rfl, rfl, rfl⟩
      exact ih _ _ hF
theorem keepJ_X11_worksConstants_22 {z : Unit × Mem} : ∀ (n : Nat) (v0 : Option Nat) (v1 : Int32) (M : Mem), J_X11_worksConstants_22 n v0 v1 M = some z → KG M z.2 := by
  intro n
  induction n with
  | zero => intro v0 v1 M h; exact nomatch h
  | succ n ih =>
    intro v0 v1 M h
    unfold J_X11_worksConstants_22 at h
    have hg : KG M M := KG.rf
    rcases itor h with h | h
    · exact hg.trans (keepJ_X11_worksConstants_44 FU _ _ _ h)
    · obtain ⟨_, -, h⟩ := bnd h
      obtain ⟨_, hw, h⟩ := bnd h
      have hg := hg.trans (kg_uN hw)
      exact hg.trans (ih _ _ _ h)
def S_X11_worksConstants  (M : Mem) : Option (Unit × Mem) :=
  if ¬ (gi M 181 64) = (gi M 181 59) then
  (SJ_X11_worksConstants_22 FU (0 : Int32) (si M 181 64 (gi M 181 59)))
  else
  (some ((), M))
theorem eqS_X11_worksConstants {M : Mem} (hF : FSR M) : L_X11_worksConstants (some 181) M = S_X11_worksConstants  M := by
  unfold L_X11_worksConstants S_X11_worksConstants
  refine (bi_fI (hF.kd 181)).trans ?_
  refine (bi_fI (hF.kd 181)).trans ?_
  refine itc (fun _ => ?_) (fun _ => ?_)
  · refine (bi_fI (hF.kd 181)).trans ?_
    refine (bi_pI (hF.kd 181)).trans ?_
    have hF : FSR (si M 181 64 (gi M 181 59)) := hF.kg ⟨rfl, rfl, rfl⟩
    exact eqJ_X11_worksConstants_22 FU _ _ hF
  · rfl
theorem keep_X11_worksConstants {M : Mem} {z : Unit × Mem} {v0 : Option Nat} (h : L_X11_worksConstants v0 M = some z) : KG M z.2 := by
  unfold L_X11_worksConstants at h
  have hg : KG M M := KG.rf
  obtain ⟨_, -, h⟩ := bnd h
  obtain ⟨_, -, h⟩ := bnd h
  rcases itor h with h | h
  · obtain ⟨_, -, h⟩ := bnd h
    obtain ⟨_, hw, h⟩ := bnd h
    have hg := hg.trans (kg_pI hw)
    exact hg.trans (keepJ_X11_worksConstants_22 FU _ _ _ h)
  · cases h; exact hg
def S_X11_constant (v1 : Int32) (v2 : Int32) (M : Mem) : Option (Int64 × Mem) :=
  (L_X11_isYear v1 M).bind fun w1 =>
  if w1.1 = 0 then
  (some ((-2000000000000000 : Int64), w1.2))
  else
  (gd (inb (((30 : Int32) + v1) - (1700 : Int32)) 60) (
  if (gi w1.2 194 (((30 : Int32) + v1) - (1700 : Int32)).toNatClampNeg) = 0 then
  (some ((-2000000000000000 : Int64), w1.2))
  else
  (gd (inb (((30 : Int32) + v1) - (1700 : Int32)) 60) (
  (L_X11_isIn v2 (gi w1.2 197 (((30 : Int32) + v1) - (1700 : Int32)).toNatClampNeg) w1.2).bind fun w2 =>
  if ¬ w2.1 = 0 then
  ((S_X11_worksConstants w2.2).bind fun w3 =>
  gd (inb (((8 : Int32) * (v1 - (1700 : Int32))) + v2) 240) (
  if (gi w3.2 217 (((8 : Int32) * (v1 - (1700 : Int32))) + v2).toNatClampNeg) = 0 then
  (some ((-2000000000000000 : Int64), w3.2))
  else
  (gd (inb (((8 : Int32) * (v1 - (1700 : Int32))) + v2) 240) (
  some (gl w3.2 218 (((8 : Int32) * (v1 - (1700 : Int32))) + v2).toNatClampNeg, w3.2)))))
  else
  (some ((-2000000000000000 : Int64), w2.2))))))
theorem eqS_X11_constant {M : Mem} (hF : FSR M) {v1 : Int32} {v2 : Int32} : L_X11_constant (some 181) v1 v2 M = S_X11_constant v1 v2 M := by
  unfold L_X11_constant S_X11_constant
  refine bdc rfl (fun w1 hw => ?_)
  have hF := hF.kg (keep_X11_isYear hw)
  refine itc (fun _ => ?_) (fun _ => ?_)
  · rfl
  · refine (bi_fR (hF.kd 181) (hF.gr 36)).trans ?_
    refine (bi_aI (hF.kd 194) (hF.ln 194)).trans ?_
    refine gd_congr (fun _ => ?_)
    refine itc (fun _ => ?_) (fun _ => ?_)
    · rfl
    · refine (bi_fR (hF.kd 181) (hF.gr 39)).trans ?_
      refine (bi_aI (hF.kd 197) (hF.ln 197)).trans ?_
      refine gd_congr (fun _ => ?_)
      refine bdc rfl (fun w2 hw => ?_)
      have hF := hF.kg (keep_X11_isIn hw)
      refine itc (fun _ => ?_) (fun _ => ?_)
      · refine (bi_ck (hF.kd 181)).trans ?_
        refine bdc (eqS_X11_worksConstants hF) (fun w3 hw => ?_)
        have hF := hF.kg (keep_X11_worksConstants hw)
        refine (bi_fR (hF.kd 181) (hF.gr 60)).trans ?_
        refine (bi_aI (hF.kd 217) (hF.ln 217)).trans ?_
        refine gd_congr (fun _ => ?_)
        refine itc (fun _ => ?_) (fun _ => ?_)
        · rfl
        · refine (bi_fR (hF.kd 181) (hF.gr 61)).trans ?_
          refine (bi_aL (hF.kd 218) (hF.ln 218)).trans ?_
          refine gd_congr (fun _ => ?_)
          rfl
      · rfl
theorem keep_X11_constant {M : Mem} {z : Int64 × Mem} {v0 : Option Nat} {v1 : Int32} {v2 : Int32} (h : L_X11_constant v0 v1 v2 M = some z) : KG M z.2 := by
  unfold L_X11_constant at h
  have hg : KG M M := KG.rf
  obtain ⟨w1, hw, h⟩ := bnd h
  have hg := hg.trans (keep_X11_isYear hw)
  rcases itor h with h | h
  · cases h; exact hg
  · obtain ⟨_, -, h⟩ := bnd h
    obtain ⟨_, -, h⟩ := bnd h
    rcases itor h with h | h
    · cases h; exact hg
    · obtain ⟨_, -, h⟩ := bnd h
      obtain ⟨_, -, h⟩ := bnd h
      obtain ⟨w2, hw, h⟩ := bnd h
      have hg := hg.trans (keep_X11_isIn hw)
      rcases itor h with h | h
      · obtain ⟨_, -, h⟩ := bnd h
        obtain ⟨w3, hw, h⟩ := bnd h
        have hg := hg.trans (keep_X11_worksConstants hw)
        obtain ⟨_, -, h⟩ := bnd h
        obtain ⟨_, -, h⟩ := bnd h
        rcases itor h with h | h
        · cases h; exact hg
        · obtain ⟨_, -, h⟩ := bnd h
          obtain ⟨_, -, h⟩ := bnd h
          cases h; exact hg
      · cases h; exact hg
def S_X11_entry (v1 : Int32) (v2 : Int32) (v3 : Int32) (M : Mem) : Option (Int64 × Mem) :=
  (L_X11_isYear v1 M).bind fun w1 =>
  if w1.1 = 0 then
  (some ((-2000000000000000 : Int64), w1.2))
  else
  (gd (inb (((30 : Int32) + v1) - (1700 : Int32)) 60) (
  if ¬ (gi w1.2 194 (((30 : Int32) + v1) - (1700 : Int32)).toNatClampNeg) = 0 then
  (gd (inb (((30 : Int32) + v1) - (1700 : Int32)) 60) (
  (L_X11_isIn v2 (gi w1.2 200 (((30 : Int32) + v1) - (1700 : Int32)).toNatClampNeg) w1.2).bind fun w2 =>
  if w2.1 = 0 then
  (some ((-2000000000000000 : Int64), w2.2))
  else
  (gd (inb (((6 : Int32) * (((30 : Int32) + v1) - (1700 : Int32))) + v2) 360) (
  (L_X11_isIn v3 (gi w2.2 202 (((6 : Int32) * (((30 : Int32) + v1) - (1700 : Int32))) + v2).toNatClampNeg) w2.2).bind fun w3 =>
  if ¬ w3.1 = 0 then
  (gd (inb ((((72 : Int32) * (v1 - (1700 : Int32))) + ((12 : Int32) * v2)) + v3) 2160) (
  some (gl w3.2 216 ((((72 : Int32) * (v1 - (1700 : Int32))) + ((12 : Int32) * v2)) + v3).toNatClampNeg, w3.2)))
  else
  (some ((-2000000000000000 : Int64), w3.2))))))
  else
  (some ((-2000000000000000 : Int64), w1.2))))
theorem eqS_X11_entry {M : Mem} (hF : FSR M) {v1 : Int32} {v2 : Int32} {v3 : Int32} : L_X11_entry (some 181) v1 v2 v3 M = S_X11_entry v1 v2 v3 M := by
  unfold L_X11_entry S_X11_entry
  refine bdc rfl (fun w1 hw => ?_)
  have hF := hF.kg (keep_X11_isYear hw)
  refine itc (fun _ => ?_) (fun _ => ?_)
  · rfl
  · refine (bi_fR (hF.kd 181) (hF.gr 36)).trans ?_
    refine (bi_aI (hF.kd 194) (hF.ln 194)).trans ?_
    refine gd_congr (fun _ => ?_)
    refine itc (fun _ => ?_) (fun _ => ?_)
    · refine (bi_fR (hF.kd 181) (hF.gr 42)).trans ?_
      refine (bi_aI (hF.kd 200) (hF.ln 200)).trans ?_
      refine gd_congr (fun _ => ?_)
      refine bdc rfl (fun w2 hw => ?_)
      have hF := hF.kg (keep_X11_isIn hw)
      refine itc (fun _ => ?_) (fun _ => ?_)
      · rfl
      · refine (bi_fR (hF.kd 181) (hF.gr 44)).trans ?_
        refine (bi_aI (hF.kd 202) (hF.ln 202)).trans ?_
        refine gd_congr (fun _ => ?_)
        refine bdc rfl (fun w3 hw => ?_)
        have hF := hF.kg (keep_X11_isIn hw)
        refine itc (fun _ => ?_) (fun _ => ?_)
        · refine (bi_fR (hF.kd 181) (hF.gr 58)).trans ?_
          refine (bi_aL (hF.kd 216) (hF.ln 216)).trans ?_
          refine gd_congr (fun _ => ?_)
          rfl
        · rfl
    · rfl
theorem keep_X11_entry {M : Mem} {z : Int64 × Mem} {v0 : Option Nat} {v1 : Int32} {v2 : Int32} {v3 : Int32} (h : L_X11_entry v0 v1 v2 v3 M = some z) : KG M z.2 := by
  unfold L_X11_entry at h
  have hg : KG M M := KG.rf
  obtain ⟨w1, hw, h⟩ := bnd h
  have hg := hg.trans (keep_X11_isYear hw)
  rcases itor h with h | h
  · cases h; exact hg
  · obtain ⟨_, -, h⟩ := bnd h
    obtain ⟨_, -, h⟩ := bnd h
    rcases itor h with h | h
    · obtain ⟨_, -, h⟩ := bnd h
      obtain ⟨_, -, h⟩ := bnd h
      obtain ⟨w2, hw, h⟩ := bnd h
      have hg := hg.trans (keep_X11_isIn hw)
      rcases itor h with h | h
      · cases h; exact hg
      · obtain ⟨_, -, h⟩ := bnd h
        obtain ⟨_, -, h⟩ := bnd h
        obtain ⟨w3, hw, h⟩ := bnd h
        have hg := hg.trans (keep_X11_isIn hw)
        rcases itor h with h | h
        · obtain ⟨_, -, h⟩ := bnd h
          obtain ⟨_, -, h⟩ := bnd h
          cases h; exact hg
        · cases h; exact hg
    · cases h; exact hg
def S_X11_told (v1 : Int32) (v2 : Int32) (M : Mem) : Option (Int64 × Mem) :=
  if v1 = 1 then
  (some (v2.toInt64, M))
  else
  if v1 = 2 then
  (some ((gi M 181 67).toInt64, M))
  else
  if v1 = 3 then
  (some ((gi M 181 68).toInt64, M))
  else
  if v1 = 4 then
  (some ((gi M 181 69).toInt64, M))
  else
  (some ((gi M 181 70).toInt64, M))
theorem eqS_X11_told {M : Mem} (hF : FSR M) {v1 : Int32} {v2 : Int32} : L_X11_told (some 181) v1 v2 M = S_X11_told v1 v2 M := by
  unfold L_X11_told S_X11_told
  refine itc (fun _ => ?_) (fun _ => ?_)
  · rfl
  refine itc (fun _ => ?_) (fun _ => ?_)
  · refine (bi_fI (hF.kd 181)).trans ?_
    rfl
  refine itc (fun _ => ?_) (fun _ => ?_)
  · refine (bi_fI (hF.kd 181)).trans ?_
    rfl
  refine itc (fun _ => ?_) (fun _ => ?_)
  · refine (bi_fI (hF.kd 181)).trans ?_
    rfl
  refine (bi_fI (hF.kd 181)).trans ?_
  rfl
theorem keep_X11_told {M : Mem} {z : Int64 × Mem} {v0 : Option Nat} {v1 : Int32} {v2 : Int32} (h : L_X11_told v0 v1 v2 M = some z) : KG M z.2 := by
  unfold L_X11_told at h
  have hg : KG M M := KG.rf
  rcases itor h with h | h
  · cases h; exact hg
  rcases itor h with h | h
  · obtain ⟨_, -, h⟩ := bnd h
    cases h; exact hg
  rcases itor h with h | h
  · obtain ⟨_, -, h⟩ := bnd h
    cases h; exact hg
  rcases itor h with h | h
  · obtain ⟨_, -, h⟩ := bnd h
    cases h; exact hg
  obtain ⟨_, -, h⟩ := bnd h
  cases h; exact hg
def SJ_X11_tableOf_41 (k_6 : Int64 → Int32 → Int32 → Mem → Option (Int32 × Mem)) : Nat → Int64 → Int32 → Int32 → Int32 → Int32 → Mem → Option (Int32 × Mem)
  | 0 => fun _ _ _ _ _ _ => none
  | n + 1 => fun v2 v4 v5 v6 v7 M =>
  gd (inb v6 60) (
  if (gi M 200 v6.toNatClampNeg) ≤ v7 then
  (gd (inb v6 60) (
  k_6 v2 (gi M 195 v6.toNatClampNeg) (v5 + 1) M))
  else
  (gd (inb (((6 : Int32) * v6) + v7) 360) (
  if ¬ (gl M 201 (((6 : Int32) * v6) + v7).toNatClampNeg) = v2 then
  (SJ_X11_tableOf_41 k_6 n v2 v4 v5 v6 (v7 + 1) M)
  else
  (some (((6 : Int32) * v4) + v7, M)))))
theorem eqJ_X11_tableOf_41 {k_6 : Option Nat → Int64 → Int32 → Int32 → Mem → Option (Int32 × Mem)} {q_6 : Int64 → Int32 → Int32 → Mem → Option (Int32 × Mem)} (hk_6 : ∀ (v2 : Int64) (v4 : Int32) (v5 : Int32) (Ma : Mem), FSR Ma → k_6 (some 181) v2 v4 v5 Ma = q_6 v2 v4 v5 Ma) : ∀ (n : Nat) (v2 : Int64) (v4 : Int32) (v5 : Int32) (v6 : Int32) (v7 : Int32) (M : Mem), FSR M → J_X11_tableOf_41 k_6 n (some 181) v2 v4 v5 v6 v7 M = SJ_X11_tableOf_41 q_6 n v2 v4 v5 v6 v7 M := by
  intro n
  induction n with
  | zero => intro v2 v4 v5 v6 v7 M hF; rfl
  | succ n ih =>
    intro v2 v4 v5 v6 v7 M hF
    unfold J_X11_tableOf_41 SJ_X11_tableOf_41
    refine (bi_fR (hF.kd 181) (hF.gr 42)).trans ?_
    refine (bi_aI (hF.kd 200) (hF.ln 200)).trans ?_
    refine gd_congr (fun _ => ?_)
    refine itc (fun _ => ?_) (fun _ => ?_)
    · refine (bi_fR (hF.kd 181) (hF.gr 37)).trans ?_
      refine (bi_aI (hF.kd 195) (hF.ln 195)).trans ?_
      refine gd_congr (fun _ => ?_)
      exact hk_6 _ _ _ _ hF
    · refine (bi_fR (hF.kd 181) (hF.gr 43)).trans ?_
      refine (bi_aL (hF.kd 201) (hF.ln 201)).trans ?_
      refine gd_congr (fun _ => ?_)
      refine itc (fun _ => ?_) (fun _ => ?_)
      · exact ih _ _ _ _ _ _ hF
      · rfl
theorem keepJ_X11_tableOf_41 {z : Int32 × Mem} {k_6 : Option Nat → Int64 → Int32 → Int32 → Mem → Option (Int32 × Mem)} (hk_6 : ∀ (v0 : Option Nat) (v2 : Int64) (v4 : Int32) (v5 : Int32) (Ma : Mem), k_6 v0 v2 v4 v5 Ma = some z → KG Ma z.2) : ∀ (n : Nat) (v0 : Option Nat) (v2 : Int64) (v4 : Int32) (v5 : Int32) (v6 : Int32) (v7 : Int32) (M : Mem), J_X11_tableOf_41 k_6 n v0 v2 v4 v5 v6 v7 M = some z → KG M z.2 := by
  intro n
  induction n with
  | zero => intro v0 v2 v4 v5 v6 v7 M h; exact nomatch h
  | succ n ih =>
    intro v0 v2 v4 v5 v6 v7 M h
    unfold J_X11_tableOf_41 at h
    have hg : KG M M := KG.rf
    obtain ⟨_, -, h⟩ := bnd h
    obtain ⟨_, -, h⟩ := bnd h
    rcases itor h with h | h
    · obtain ⟨_, -, h⟩ := bnd h
      obtain ⟨_, -, h⟩ := bnd h
      exact hg.trans (hk_6 _ _ _ _ _ h)
    · obtain ⟨_, -, h⟩ := bnd h
      obtain ⟨_, -, h⟩ := bnd h
      rcases itor h with h | h
      · exact hg.trans (ih _ _ _ _ _ _ _ h)
      · cases h; exact hg
def SJ_X11_tableOf_6 : Nat → Int64 → Int32 → Int32 → Mem → Option (Int32 × Mem)
  | 0 => fun _ _ _ _ => none
  | n + 1 => fun v2 v4 v5 M =>
  if (30 : Int32) < v5 then
  (some ((-1 : Int32), M))
  else
  (if v4 < 0 then
  (some ((-1 : Int32), M))
  else
  (gd (inb ((30 : Int32) + v4) 60) (
  if (gi M 194 ((30 : Int32) + v4).toNatClampNeg) = 0 then
  (some ((-1 : Int32), M))
  else
  (SJ_X11_tableOf_41 (SJ_X11_tableOf_6 n) FU v2 v4 v5 ((30 : Int32) + v4) (0 : Int32) M))))
theorem eqJ_X11_tableOf_6 : ∀ (n : Nat) (v2 : Int64) (v4 : Int32) (v5 : Int32) (M : Mem), FSR M → J_X11_tableOf_6 n (some 181) v2 v4 v5 M = SJ_X11_tableOf_6 n v2 v4 v5 M := by
  intro n
  induction n with
  | zero => intro v2 v4 v5 M hF; rfl
  | succ n ih =>
    intro v2 v4 v5 M hF
    unfold J_X11_tableOf_6 SJ_X11_tableOf_6
    refine itc (fun _ => ?_) (fun _ => ?_)
    · rfl
    · refine itc (fun _ => ?_) (fun _ => ?_)
      · rfl
      · refine (bi_fR (hF.kd 181) (hF.gr 36)).trans ?_
        refine (bi_aI (hF.kd 194) (hF.ln 194)).trans ?_
        refine gd_congr (fun _ => ?_)
        refine itc (fun _ => ?_) (fun _ => ?_)
        · rfl
        · exact eqJ_X11_tableOf_41 ih FU _ _ _ _ _ _ hF
theorem keepJ_X11_tableOf_6 {z : Int32 × Mem} : ∀ (n : Nat) (v0 : Option Nat) (v2 : Int64) (v4 : Int32) (v5 : Int32) (M : Mem), J_X11_tableOf_6 n v0 v2 v4 v5 M = some z → KG M z.2 := by
  intro n
  induction n with
  | zero => intro v0 v2 v4 v5 M h; exact nomatch h
  | succ n ih =>
    intro v0 v2 v4 v5 M h
    unfold J_X11_tableOf_6 at h
    have hg : KG M M := KG.rf
    rcases itor h with h | h
    · cases h; exact hg
    · rcases itor h with h | h
      · cases h; exact hg
      · obtain ⟨_, -, h⟩ := bnd h
        obtain ⟨_, -, h⟩ := bnd h
        rcases itor h with h | h
        · cases h; exact hg
        · exact hg.trans (keepJ_X11_tableOf_41 ih FU _ _ _ _ _ _ _ h)
def S_X11_tableOf (v1 : Int32) (v2 : Int64) (M : Mem) : Option (Int32 × Mem) :=
  SJ_X11_tableOf_6 FU v2 v1 (0 : Int32) M
theorem eqS_X11_tableOf {M : Mem} (hF : FSR M) {v1 : Int32} {v2 : Int64} : L_X11_tableOf (some 181) v1 v2 M = S_X11_tableOf v1 v2 M := by
  unfold L_X11_tableOf S_X11_tableOf
  exact eqJ_X11_tableOf_6 FU _ _ _ _ hF
theorem keep_X11_tableOf {M : Mem} {z : Int32 × Mem} {v0 : Option Nat} {v1 : Int32} {v2 : Int64} (h : L_X11_tableOf v0 v1 v2 M = some z) : KG M z.2 := by
  unfold L_X11_tableOf at h
  have hg : KG M M := KG.rf
  exact hg.trans (keepJ_X11_tableOf_6 FU _ _ _ _ _ h)
def SJ_X11_looks_146 (rS : Int32 → Mem → Option (Int32 × Mem)) (v5 : Int64) (v8 : Int32) (v9 : Int32) (M : Mem) : Option (Int32 × Mem) :=
  gd (inb ((((72 : Int32) * v9) + ((12 : Int32) * (v8 - v8 / (6 : Int32) * (6 : Int32)))) + v5.toInt32) 2160) (
  some ((0 : Int32), sl M 181 71 (gl M 216 ((((72 : Int32) * v9) + ((12 : Int32) * (v8 - v8 / (6 : Int32) * (6 : Int32)))) + v5.toInt32).toNatClampNeg)))
theorem eqJ_X11_looks_146 {M : Mem} {rF : Option Nat → Int32 → Mem → Option (Int32 × Mem)} {rS : Int32 → Mem → Option (Int32 × Mem)} (hrS : ∀ (a1 : Int32) (Ma : Mem), FSR Ma → rF (some 181) a1 Ma = rS a1 Ma) (hrK : ∀ (a0 : Option Nat) (a1 : Int32) (Ma : Mem) (w : Int32 × Mem), rF a0 a1 Ma = some w → KG Ma w.2) (hF : FSR M) {v5 : Int64} {v8 : Int32} {v9 : Int32} : J_X11_looks_146 rF (some 181) v5 v8 v9 M = SJ_X11_looks_146 rS v5 v8 v9 M := by
  unfold J_X11_looks_146 SJ_X11_looks_146
  refine (bi_fR (hF.kd 181) (hF.gr 58)).trans ?_
  refine (if_neg (by decide)).trans ?_
  refine (bi_aL (hF.kd 216) (hF.ln 216)).trans ?_
  refine gd_congr (fun _ => ?_)
  refine (bi_pL (hF.kd 181)).trans ?_
  have hF : FSR (sl M 181 71 (gl M 216 ((((72 : Int32) * v9) + ((12 : Int32) * (v8 - v8 / (6 : Int32) * (6 : Int32)))) + v5.toInt32).toNatClampNeg)) := hF.kg ⟨rfl, rfl, rfl⟩
  rfl
theorem keepJ_X11_looks_146 {M : Mem} {z : Int32 × Mem} {rF : Option Nat → Int32 → Mem → Option (Int32 × Mem)} (hrK : ∀ (a0 : Option Nat) (a1 : Int32) (Ma : Mem) (w : Int32 × Mem), rF a0 a1 Ma = some w → KG Ma w.2) {v0 : Option Nat} {v5 : Int64} {v8 : Int32} {v9 : Int32} (h : J_X11_looks_146 rF v0 v5 v8 v9 M = some z) : KG M z.2 := by
  unfold J_X11_looks_146 at h
  have hg : KG M M := KG.rf
  obtain ⟨_, -, h⟩ := bnd h
  have h := nnz h
  obtain ⟨_, -, h⟩ := bnd h
  obtain ⟨_, hw, h⟩ := bnd h
  have hg := hg.trans (kg_pL hw)
  cases h; exact hg
def SJ_X11_looks_71 (rS : Int32 → Mem → Option (Int32 × Mem)) (v1 : Int32) (v5 : Int64) (v8 : Int32) (v9 : Int32) (s0 : Int32) (M : Mem) : Option (Int32 × Mem) :=
  if s0 = 0 then
  (if v5 < (0 : Int64) then
  (some ((805 : Int32), M))
  else
  (gd (inb (((6 : Int32) * ((30 : Int32) + v9)) + (v8 - v8 / (6 : Int32) * (6 : Int32))) 360) (
  if v5 < ((gi M 202 (((6 : Int32) * ((30 : Int32) + v9)) + (v8 - v8 / (6 : Int32) * (6 : Int32))).toNatClampNeg).toInt64) then
  (gd (inb v9 30) (
  if ¬ (gi M 212 v9.toNatClampNeg) = (4 : Int32) then
  (SJ_X11_looks_146 rS v5 v8 v9 M)
  else
  (if v9 = v1 then
  (SJ_X11_looks_146 rS v5 v8 v9 M)
  else
  (gd (inb v9 30) (
  gd (inb v9 30) (
  SJ_X11_looks_146 rS v5 v8 v9 (si M 215 v9.toNatClampNeg ((gi M 215 v9.toNatClampNeg) + (1 : Int32)))))))))
  else
  (some ((805 : Int32), M)))))
  else
  (some (s0, M))
theorem eqJ_X11_looks_71 {M : Mem} {rF : Option Nat → Int32 → Mem → Option (Int32 × Mem)} {rS : Int32 → Mem → Option (Int32 × Mem)} (hrS : ∀ (a1 : Int32) (Ma : Mem), FSR Ma → rF (some 181) a1 Ma = rS a1 Ma) (hrK : ∀ (a0 : Option Nat) (a1 : Int32) (Ma : Mem) (w : Int32 × Mem), rF a0 a1 Ma = some w → KG Ma w.2) (hF : FSR M) {v1 : Int32} {v5 : Int64} {v8 : Int32} {v9 : Int32} {s0 : Int32} : J_X11_looks_71 rF (some 181) v1 v5 v8 v9 s0 M = SJ_X11_looks_71 rS v1 v5 v8 v9 s0 M := by
  unfold J_X11_looks_71 SJ_X11_looks_71
  refine itc (fun _ => ?_) (fun _ => ?_)
  · refine itc (fun _ => ?_) (fun _ => ?_)
    · rfl
    · refine (bi_fR (hF.kd 181) (hF.gr 44)).trans ?_
      refine (if_neg (by decide)).trans ?_
      refine (bi_aI (hF.kd 202) (hF.ln 202)).trans ?_
      refine gd_congr (fun _ => ?_)
      refine itc (fun _ => ?_) (fun _ => ?_)
      · refine (bi_fR (hF.kd 181) (hF.gr 54)).trans ?_
        refine (bi_aI (hF.kd 212) (hF.ln 212)).trans ?_
        refine gd_congr (fun _ => ?_)
        refine itc (fun _ => ?_) (fun _ => ?_)
        · exact eqJ_X11_looks_146 hrS hrK hF
        · refine itc (fun _ => ?_) (fun _ => ?_)
          · exact eqJ_X11_looks_146 hrS hrK hF
          · refine (bi_fR (hF.kd 181) (hF.gr 57)).trans ?_
            refine (bi_aI (hF.kd 215) (hF.ln 215)).trans ?_
            refine gd_congr (fun _ => ?_)
            refine (bi_uI (hF.kd 215) (hF.ln 215)).trans ?_
            refine gd_congr (fun _ => ?_)
            have hF : FSR (si M 215 v9.toNatClampNeg ((gi M 215 v9.toNatClampNeg) + (1 : Int32))) := hF.kg ⟨rfl, rfl, rfl⟩
            exact eqJ_X11_looks_146 hrS hrK hF
      · rfl
  · rfl
theorem keepJ_X11_looks_71 {M : Mem} {z : Int32 × Mem} {rF : Option Nat → Int32 → Mem → Option (Int32 × Mem)} (hrK : ∀ (a0 : Option Nat) (a1 : Int32) (Ma : Mem) (w : Int32 × Mem), rF a0 a1 Ma = some w → KG Ma w.2) {v0 : Option Nat} {v1 : Int32} {v5 : Int64} {v8 : Int32} {v9 : Int32} {s0 : Int32} (h : J_X11_looks_71 rF v0 v1 v5 v8 v9 s0 M = some z) : KG M z.2 := by
  unfold J_X11_looks_71 at h
  have hg : KG M M := KG.rf
  rcases itor h with h | h
  · rcases itor h with h | h
    · cases h; exact hg
    · obtain ⟨_, -, h⟩ := bnd h
      have h := nnz h
      obtain ⟨_, -, h⟩ := bnd h
      rcases itor h with h | h
      · obtain ⟨_, -, h⟩ := bnd h
        obtain ⟨_, -, h⟩ := bnd h
        rcases itor h with h | h
        · exact hg.trans (keepJ_X11_looks_146 hrK h)
        · rcases itor h with h | h
          · exact hg.trans (keepJ_X11_looks_146 hrK h)
          · obtain ⟨_, -, h⟩ := bnd h
            obtain ⟨_, -, h⟩ := bnd h
            obtain ⟨_, hw, h⟩ := bnd h
            have hg := hg.trans (kg_uI hw)
            exact hg.trans (keepJ_X11_looks_146 hrK h)
      · cases h; exact hg
  · cases h; exact hg
def SJ_X11_looks_33 (rS : Int32 → Mem → Option (Int32 × Mem)) (v1 : Int32) (v3 : Int64) (v5 : Int64) (s1 : Int32) (M : Mem) : Option (Int32 × Mem) :=
  (S_X11_tableOf s1 v3 M).bind fun w1 =>
  if 0 ≤ w1.1 then
  (if (w1.1 / (6 : Int32)) = v1 then
  (SJ_X11_looks_71 rS v1 v5 w1.1 (w1.1 / (6 : Int32)) (0 : Int32) w1.2)
  else
  ((rS (w1.1 / (6 : Int32)) w1.2).bind fun w2 =>
  SJ_X11_looks_71 rS v1 v5 w1.1 (w1.1 / (6 : Int32)) w2.1 w2.2))
  else
  (some ((802 : Int32), w1.2))
theorem eqJ_X11_looks_33 {M : Mem} {rF : Option Nat → Int32 → Mem → Option (Int32 × Mem)} {rS : Int32 → Mem → Option (Int32 × Mem)} (hrS : ∀ (a1 : Int32) (Ma : Mem), FSR Ma → rF (some 181) a1 Ma = rS a1 Ma) (hrK : ∀ (a0 : Option Nat) (a1 : Int32) (Ma : Mem) (w : Int32 × Mem), rF a0 a1 Ma = some w → KG Ma w.2) (hF : FSR M) {v1 : Int32} {v3 : Int64} {v5 : Int64} {s1 : Int32} : J_X11_looks_33 rF (some 181) v1 v3 v5 (some 181) s1 M = SJ_X11_looks_33 rS v1 v3 v5 s1 M := by
  unfold J_X11_looks_33 SJ_X11_looks_33
  refine (bi_ck (hF.kd 181)).trans ?_
  refine bdc (eqS_X11_tableOf hF) (fun w1 hw => ?_)
  have hF := hF.kg (keep_X11_tableOf hw)
  refine itc (fun _ => ?_) (fun _ => ?_)
  · refine (if_neg (by decide)).trans ?_
    refine itc (fun _ => ?_) (fun _ => ?_)
    · exact eqJ_X11_looks_71 hrS hrK hF
    · refine (bi_ck (hF.kd 181)).trans ?_
      refine bdc (hrS _ _ hF) (fun w2 hw => ?_)
      have hF := hF.kg (hrK _ _ _ _ hw)
      exact eqJ_X11_looks_71 hrS hrK hF
  · rfl
theorem keepJ_X11_looks_33 {M : Mem} {z : Int32 × Mem} {rF : Option Nat → Int32 → Mem → Option (Int32 × Mem)} (hrK : ∀ (a0 : Option Nat) (a1 : Int32) (Ma : Mem) (w : Int32 × Mem), rF a0 a1 Ma = some w → KG Ma w.2) {v0 : Option Nat} {v1 : Int32} {v3 : Int64} {v5 : Int64} {s0 : Option Nat} {s1 : Int32} (h : J_X11_looks_33 rF v0 v1 v3 v5 s0 s1 M = some z) : KG M z.2 := by
  unfold J_X11_looks_33 at h
  have hg : KG M M := KG.rf
  obtain ⟨_, -, h⟩ := bnd h
  obtain ⟨w1, hw, h⟩ := bnd h
  have hg := hg.trans (keep_X11_tableOf hw)
  rcases itor h with h | h
  · have h := nnz h
    rcases itor h with h | h
    · exact hg.trans (keepJ_X11_looks_71 hrK h)
    · obtain ⟨_, -, h⟩ := bnd h
      obtain ⟨w2, hw, h⟩ := bnd h
      have hg := hg.trans (hrK _ _ _ _ hw)
      exact hg.trans (keepJ_X11_looks_71 hrK h)
  · cases h; exact hg
def SJ_X11_looks_13 (rS : Int32 → Mem → Option (Int32 × Mem)) (v1 : Int32) (v2 : Int32) (v3 : Int64) (v5 : Int64) (s0 : Int32) (M : Mem) : Option (Int32 × Mem) :=
  if s0 = 0 then
  (if v2 < 0 then
  (SJ_X11_looks_33 rS v1 v3 v5 v1 M)
  else
  (SJ_X11_looks_33 rS v1 v3 v5 v2 M))
  else
  (some (s0, M))
theorem eqJ_X11_looks_13 {M : Mem} {rF : Option Nat → Int32 → Mem → Option (Int32 × Mem)} {rS : Int32 → Mem → Option (Int32 × Mem)} (hrS : ∀ (a1 : Int32) (Ma : Mem), FSR Ma → rF (some 181) a1 Ma = rS a1 Ma) (hrK : ∀ (a0 : Option Nat) (a1 : Int32) (Ma : Mem) (w : Int32 × Mem), rF a0 a1 Ma = some w → KG Ma w.2) (hF : FSR M) {v1 : Int32} {v2 : Int32} {v3 : Int64} {v5 : Int64} {s0 : Int32} : J_X11_looks_13 rF (some 181) v1 v2 v3 v5 s0 M = SJ_X11_looks_13 rS v1 v2 v3 v5 s0 M := by
  unfold J_X11_looks_13 SJ_X11_looks_13
  refine itc (fun _ => ?_) (fun _ => ?_)
  · refine itc (fun _ => ?_) (fun _ => ?_)
    · exact eqJ_X11_looks_33 hrS hrK hF
    · exact eqJ_X11_looks_33 hrS hrK hF
  · rfl
theorem keepJ_X11_looks_13 {M : Mem} {z : Int32 × Mem} {rF : Option Nat → Int32 → Mem → Option (Int32 × Mem)} (hrK : ∀ (a0 : Option Nat) (a1 : Int32) (Ma : Mem) (w : Int32 × Mem), rF a0 a1 Ma = some w → KG Ma w.2) {v0 : Option Nat} {v1 : Int32} {v2 : Int32} {v3 : Int64} {v5 : Int64} {s0 : Int32} (h : J_X11_looks_13 rF v0 v1 v2 v3 v5 s0 M = some z) : KG M z.2 := by
  unfold J_X11_looks_13 at h
  have hg : KG M M := KG.rf
  rcases itor h with h | h
  · rcases itor h with h | h
    · exact hg.trans (keepJ_X11_looks_33 hrK h)
    · exact hg.trans (keepJ_X11_looks_33 hrK h)
  · cases h; exact hg
def S_X11_looks (rS : Int32 → Mem → Option (Int32 × Mem)) (v1 : Int32) (v2 : Int32) (v3 : Int64) (v5 : Int64) (M : Mem) : Option (Int32 × Mem) :=
  if v2 < 0 then
  (SJ_X11_looks_13 rS v1 v2 v3 v5 (0 : Int32) M)
  else
  ((rS v2 M).bind fun w3 =>
  SJ_X11_looks_13 rS v1 v2 v3 v5 w3.1 w3.2)
theorem eqS_X11_looks {M : Mem} {rF : Option Nat → Int32 → Mem → Option (Int32 × Mem)} {rS : Int32 → Mem → Option (Int32 × Mem)} (hrS : ∀ (a1 : Int32) (Ma : Mem), FSR Ma → rF (some 181) a1 Ma = rS a1 Ma) (hrK : ∀ (a0 : Option Nat) (a1 : Int32) (Ma : Mem) (w : Int32 × Mem), rF a0 a1 Ma = some w → KG Ma w.2) (hF : FSR M) {v1 : Int32} {v2 : Int32} {v3 : Int64} {v5 : Int64} : L_X11_looks rF (some 181) v1 v2 v3 v5 M = S_X11_looks rS v1 v2 v3 v5 M := by
  unfold L_X11_looks S_X11_looks
  refine itc (fun _ => ?_) (fun _ => ?_)
  · exact eqJ_X11_looks_13 hrS hrK hF
  · refine (bi_ck (hF.kd 181)).trans ?_
    refine bdc (hrS _ _ hF) (fun w3 hw => ?_)
    have hF := hF.kg (hrK _ _ _ _ hw)
    exact eqJ_X11_looks_13 hrS hrK hF
theorem keep_X11_looks {M : Mem} {z : Int32 × Mem} {rF : Option Nat → Int32 → Mem → Option (Int32 × Mem)} (hrK : ∀ (a0 : Option Nat) (a1 : Int32) (Ma : Mem) (w : Int32 × Mem), rF a0 a1 Ma = some w → KG Ma w.2) {v0 : Option Nat} {v1 : Int32} {v2 : Int32} {v3 : Int64} {v5 : Int64} (h : L_X11_looks rF v0 v1 v2 v3 v5 M = some z) : KG M z.2 := by
  unfold L_X11_looks at h
  have hg : KG M M := KG.rf
  rcases itor h with h | h
  · exact hg.trans (keepJ_X11_looks_13 hrK h)
  · obtain ⟨_, -, h⟩ := bnd h
    obtain ⟨w3, hw, h⟩ := bnd h
    have hg := hg.trans (hrK _ _ _ _ hw)
    exact hg.trans (keepJ_X11_looks_13 hrK h)
def SJ_X11_acted_185 (v1 : Int64) (v3 : Int64) (M : Mem) : Option (Int64 × Mem) :=
  if v1 ≤ v3 then
  (some ((0 : Int64), M))
  else
  (some ((1 : Int64), M))
theorem eqJ_X11_acted_185 {M : Mem} (hF : FSR M) {v1 : Int64} {v3 : Int64} : J_X11_acted_185 v1 v3 M = SJ_X11_acted_185 v1 v3 M := by
  unfold J_X11_acted_185 SJ_X11_acted_185
  refine itc (fun _ => ?_) (fun _ => ?_)
  · rfl
  · rfl
theorem keepJ_X11_acted_185 {M : Mem} {z : Int64 × Mem} {v1 : Int64} {v3 : Int64} (h : J_X11_acted_185 v1 v3 M = some z) : KG M z.2 := by
  unfold J_X11_acted_185 at h
  have hg : KG M M := KG.rf
  rcases itor h with h | h
  · cases h; exact hg
  · cases h; exact hg
def S_X11_acted (v0 : Int32) (v1 : Int64) (v3 : Int64) (M : Mem) : Option (Int64 × Mem) :=
  if v0 = 37 then
  (if ¬ v3 = (-1 : Int64) then
  (if v3 = 0 then none else
  some (v1 - v1 / v3 * v3, M))
  else
  (some ((0 : Int64), M)))
  else
  if v0 = 42 then
  (some (v1 * v3, M))
  else
  if v0 = 43 then
  (some (v1 + v3, M))
  else
  if v0 = 45 then
  (some (v1 - v3, M))
  else
  if v0 = 47 then
  (if ¬ v3 = (-1 : Int64) then
  (if v3 = 0 then none else
  some (v1 / v3, M))
  else
  (some (-v1, M)))
  else
  if v0 = 60 then
  (if v3 ≤ v1 then
  (some ((0 : Int64), M))
  else
  (some ((1 : Int64), M)))
  else
  if v0 = 61 then
  (if ¬ v1 = v3 then
  (some ((0 : Int64), M))
  else
  (some ((1 : Int64), M)))
  else
  (SJ_X11_acted_185 v1 v3 M)
theorem eqS_X11_acted {M : Mem} (hF : FSR M) {v0 : Int32} {v1 : Int64} {v3 : Int64} : L_X11_acted v0 v1 v3 M = S_X11_acted v0 v1 v3 M := by
  unfold L_X11_acted S_X11_acted
  refine itc (fun _ => ?_) (fun _ => ?_)
  · refine itc (fun _ => ?_) (fun _ => ?_)
    · refine itc (fun _ => rfl) (fun _ => ?_)
      rfl
    · rfl
  refine itc (fun _ => ?_) (fun _ => ?_)
  · rfl
  refine itc (fun _ => ?_) (fun _ => ?_)
  · rfl
  refine itc (fun _ => ?_) (fun _ => ?_)
  · rfl
  refine itc (fun _ => ?_) (fun _ => ?_)
  · refine itc (fun _ => ?_) (fun _ => ?_)
    · refine itc (fun _ => rfl) (fun _ => ?_)
      rfl
    · rfl
  refine itc (fun _ => ?_) (fun _ => ?_)
  · refine itc (fun _ => ?_) (fun _ => ?_)
    · rfl
    · rfl
  refine itc (fun _ => ?_) (fun _ => ?_)
  · refine itc (fun _ => ?_) (fun _ => ?_)
    · rfl
    · rfl
  exact eqJ_X11_acted_185 hF
theorem keep_X11_acted {M : Mem} {z : Int64 × Mem} {v0 : Int32} {v1 : Int64} {v3 : Int64} (h : L_X11_acted v0 v1 v3 M = some z) : KG M z.2 := by
  unfold L_X11_acted at h
  have hg : KG M M := KG.rf
  rcases itor h with h | h
  · rcases itor h with h | h
    · have h := nnz h
      cases h; exact hg
    · cases h; exact hg
  rcases itor h with h | h
  · cases h; exact hg
  rcases itor h with h | h
  · cases h; exact hg
  rcases itor h with h | h
  · cases h; exact hg
  rcases itor h with h | h
  · rcases itor h with h | h
    · have h := nnz h
      cases h; exact hg
    · cases h; exact hg
  rcases itor h with h | h
  · rcases itor h with h | h
    · cases h; exact hg
    · cases h; exact hg
  rcases itor h with h | h
  · rcases itor h with h | h
    · cases h; exact hg
    · cases h; exact hg
  exact hg.trans (keepJ_X11_acted_185 h)
def SJ_X11_works_439 (rS : Int32 → Mem → Option (Int32 × Mem)) (k_22 : Int32 → Int32 → Int32 → Int32 → Int32 → Int32 → Mem → Option (Int32 × Mem)) (v1 : Int32) (v3 : Int32) (v4 : Int32) (v5 : Int32) (v6 : Int32) (v7 : Int32) (M : Mem) : Option (Int32 × Mem) :=
  k_22 v1 v3 v4 v5 v6 v7 M
theorem eqJ_X11_works_439 {M : Mem} {rF : Option Nat → Int32 → Mem → Option (Int32 × Mem)} {rS : Int32 → Mem → Option (Int32 × Mem)} (hrS : ∀ (a1 : Int32) (Ma : Mem), FSR Ma → rF (some 181) a1 Ma = rS a1 Ma) (hrK : ∀ (a0 : Option Nat) (a1 : Int32) (Ma : Mem) (w : Int32 × Mem), rF a0 a1 Ma = some w → KG Ma w.2) {k_22 : Option Nat → Int32 → Int32 → Int32 → Int32 → Int32 → Int32 → Mem → Option (Int32 × Mem)} {q_22 : Int32 → Int32 → Int32 → Int32 → Int32 → Int32 → Mem → Option (Int32 × Mem)} (hk_22 : ∀ (v1 : Int32) (v3 : Int32) (v4 : Int32) (v5 : Int32) (v6 : Int32) (v7 : Int32) (Ma : Mem), FSR Ma → k_22 (some 181) v1 v3 v4 v5 v6 v7 Ma = q_22 v1 v3 v4 v5 v6 v7 Ma) (hF : FSR M) {v1 : Int32} {v3 : Int32} {v4 : Int32} {v5 : Int32} {v6 : Int32} {v7 : Int32} : J_X11_works_439 rF k_22 (some 181) v1 v3 v4 v5 v6 v7 M = SJ_X11_works_439 rS q_22 v1 v3 v4 v5 v6 v7 M := by
  unfold J_X11_works_439 SJ_X11_works_439
  exact hk_22 _ _ _ _ _ _ _ hF
theorem keepJ_X11_works_439 {M : Mem} {z : Int32 × Mem} {rF : Option Nat → Int32 → Mem → Option (Int32 × Mem)} (hrK : ∀ (a0 : Option Nat) (a1 : Int32) (Ma : Mem) (w : Int32 × Mem), rF a0 a1 Ma = some w → KG Ma w.2) {k_22 : Option Nat → Int32 → Int32 → Int32 → Int32 → Int32 → Int32 → Mem → Option (Int32 × Mem)} (hk_22 : ∀ (v0 : Option Nat) (v1 : Int32) (v3 : Int32) (v4 : Int32) (v5 : Int32) (v6 : Int32) (v7 : Int32) (Ma : Mem), k_22 v0 v1 v3 v4 v5 v6 v7 Ma = some z → KG Ma z.2) {v0 : Option Nat} {v1 : Int32} {v3 : Int32} {v4 : Int32} {v5 : Int32} {v6 : Int32} {v7 : Int32} (h : J_X11_works_439 rF k_22 v0 v1 v3 v4 v5 v6 v7 M = some z) : KG M z.2 := by
  unfold J_X11_works_439 at h
  have hg : KG M M := KG.rf
  exact hg.trans (hk_22 _ _ _ _ _ _ _ _ h)
def SJ_X11_works_123 (rS : Int32 → Mem → Option (Int32 × Mem)) (k_22 : Int32 → Int32 → Int32 → Int32 → Int32 → Int32 → Mem → Option (Int32 × Mem)) (v1 : Int32) (v3 : Int32) (v4 : Int32) (v5 : Int32) (v6 : Int32) (v7 : Int32) (s1 : Int32) (s2 : Int64) (M : Mem) : Option (Int32 × Mem) :=
  gd (inb s1 4000) (
  SJ_X11_works_439 rS k_22 v1 v3 v4 v5 v6 v7 (si (sl M 219 s1.toNatClampNeg s2) 181 63 ((gi (sl M 219 s1.toNatClampNeg s2) 181 63) + (1 : Int32))))
theorem eqJ_X11_works_123 {M : Mem} {rF : Option Nat → Int32 → Mem → Option (Int32 × Mem)} {rS : Int32 → Mem → Option (Int32 × Mem)} (hrS : ∀ (a1 : Int32) (Ma : Mem), FSR Ma → rF (some 181) a1 Ma = rS a1 Ma) (hrK : ∀ (a0 : Option Nat) (a1 : Int32) (Ma : Mem) (w : Int32 × Mem), rF a0 a1 Ma = some w → KG Ma w.2) {k_22 : Option Nat → Int32 → Int32 → Int32 → Int32 → Int32 → Int32 → Mem → Option (Int32 × Mem)} {q_22 : Int32 → Int32 → Int32 → Int32 → Int32 → Int32 → Mem → Option (Int32 × Mem)} (hk_22 : ∀ (v1 : Int32) (v3 : Int32) (v4 : Int32) (v5 : Int32) (v6 : Int32) (v7 : Int32) (Ma : Mem), FSR Ma → k_22 (some 181) v1 v3 v4 v5 v6 v7 Ma = q_22 v1 v3 v4 v5 v6 v7 Ma) (hF : FSR M) {v1 : Int32} {v3 : Int32} {v4 : Int32} {v5 : Int32} {v6 : Int32} {v7 : Int32} {s1 : Int32} {s2 : Int64} : J_X11_works_123 rF k_22 (some 181) v1 v3 v4 v5 v6 v7 (some 219) s1 s2 M = SJ_X11_works_123 rS q_22 v1 v3 v4 v5 v6 v7 s1 s2 M := by
  unfold J_X11_works_123 SJ_X11_works_123
  refine (bi_uL (hF.kd 219) (hF.ln 219)).trans ?_
  refine gd_congr (fun _ => ?_)
  have hF : FSR (sl M 219 s1.toNatClampNeg s2) := hF.kg ⟨rfl, rfl, rfl⟩
  refine (bi_fI (hF.kd 181)).trans ?_
  refine (bi_pI (hF.kd 181)).trans ?_
  have hF : FSR (si (sl M 219 s1.toNatClampNeg s2) 181 63 ((gi (sl M 219 s1.toNatClampNeg s2) 181 63) + (1 : Int32))) := hF.kg ⟨rfl, rfl, rfl⟩
  exact eqJ_X11_works_439 hrS hrK hk_22 hF
theorem keepJ_X11_works_123 {M : Mem} {z : Int32 × Mem} {rF : Option Nat → Int32 → Mem → Option (Int32 × Mem)} (hrK : ∀ (a0 : Option Nat) (a1 : Int32) (Ma : Mem) (w : Int32 × Mem), rF a0 a1 Ma = some w → KG Ma w.2) {k_22 : Option Nat → Int32 → Int32 → Int32 → Int32 → Int32 → Int32 → Mem → Option (Int32 × Mem)} (hk_22 : ∀ (v0 : Option Nat) (v1 : Int32) (v3 : Int32) (v4 : Int32) (v5 : Int32) (v6 : Int32) (v7 : Int32) (Ma : Mem), k_22 v0 v1 v3 v4 v5 v6 v7 Ma = some z → KG Ma z.2) {v0 : Option Nat} {v1 : Int32} {v3 : Int32} {v4 : Int32} {v5 : Int32} {v6 : Int32} {v7 : Int32} {s0 : Option Nat} {s1 : Int32} {s2 : Int64} (h : J_X11_works_123 rF k_22 v0 v1 v3 v4 v5 v6 v7 s0 s1 s2 M = some z) : KG M z.2 := by
  unfold J_X11_works_123 at h
  have hg : KG M M := KG.rf
  obtain ⟨_, hw, h⟩ := bnd h
  have hg := hg.trans (kg_uL hw)
  obtain ⟨_, -, h⟩ := bnd h
  obtain ⟨_, hw, h⟩ := bnd h
  have hg := hg.trans (kg_pI hw)
  exact hg.trans (keepJ_X11_works_439 hrK hk_22 h)
def SJ_X11_works_98 (rS : Int32 → Mem → Option (Int32 × Mem)) (k_22 : Int32 → Int32 → Int32 → Int32 → Int32 → Int32 → Mem → Option (Int32 × Mem)) (v1 : Int32) (v3 : Int32) (v4 : Int32) (v5 : Int32) (v6 : Int32) (v7 : Int32) (v8 : Int32) (v9 : Int64) (M : Mem) : Option (Int32 × Mem) :=
  if ¬ v8 = 0 then
  ((S_X11_told v8 v3 M).bind fun w1 =>
  SJ_X11_works_123 rS k_22 v1 v3 v4 v5 v6 v7 (gi M 181 63) w1.1 w1.2)
  else
  (SJ_X11_works_123 rS k_22 v1 v3 v4 v5 v6 v7 (gi M 181 63) v9 M)
theorem eqJ_X11_works_98 {M : Mem} {rF : Option Nat → Int32 → Mem → Option (Int32 × Mem)} {rS : Int32 → Mem → Option (Int32 × Mem)} (hrS : ∀ (a1 : Int32) (Ma : Mem), FSR Ma → rF (some 181) a1 Ma = rS a1 Ma) (hrK : ∀ (a0 : Option Nat) (a1 : Int32) (Ma : Mem) (w : Int32 × Mem), rF a0 a1 Ma = some w → KG Ma w.2) {k_22 : Option Nat → Int32 → Int32 → Int32 → Int32 → Int32 → Int32 → Mem → Option (Int32 × Mem)} {q_22 : Int32 → Int32 → Int32 → Int32 → Int32 → Int32 → Mem → Option (Int32 × Mem)} (hk_22 : ∀ (v1 : Int32) (v3 : Int32) (v4 : Int32) (v5 : Int32) (v6 : Int32) (v7 : Int32) (Ma : Mem), FSR Ma → k_22 (some 181) v1 v3 v4 v5 v6 v7 Ma = q_22 v1 v3 v4 v5 v6 v7 Ma) (hF : FSR M) {v1 : Int32} {v3 : Int32} {v4 : Int32} {v5 : Int32} {v6 : Int32} {v7 : Int32} {v8 : Int32} {v9 : Int64} : J_X11_works_98 rF k_22 (some 181) v1 v3 v4 v5 v6 v7 v8 v9 M = SJ_X11_works_98 rS q_22 v1 v3 v4 v5 v6 v7 v8 v9 M := by
  unfold J_X11_works_98 SJ_X11_works_98
  refine (bi_fR (hF.kd 181) (hF.gr 62)).trans ?_
  refine (bi_fI (hF.kd 181)).trans ?_
  refine itc (fun _ => ?_) (fun _ => ?_)
  · refine (bi_ck (hF.kd 181)).trans ?_
    refine bdc (eqS_X11_told hF) (fun w1 hw => ?_)
    have hF := hF.kg (keep_X11_told hw)
    exact eqJ_X11_works_123 hrS hrK hk_22 hF
  · exact eqJ_X11_works_123 hrS hrK hk_22 hF
theorem keepJ_X11_works_98 {M : Mem} {z : Int32 × Mem} {rF : Option Nat → Int32 → Mem → Option (Int32 × Mem)} (hrK : ∀ (a0 : Option Nat) (a1 : Int32) (Ma : Mem) (w : Int32 × Mem), rF a0 a1 Ma = some w → KG Ma w.2) {k_22 : Option Nat → Int32 → Int32 → Int32 → Int32 → Int32 → Int32 → Mem → Option (Int32 × Mem)} (hk_22 : ∀ (v0 : Option Nat) (v1 : Int32) (v3 : Int32) (v4 : Int32) (v5 : Int32) (v6 : Int32) (v7 : Int32) (Ma : Mem), k_22 v0 v1 v3 v4 v5 v6 v7 Ma = some z → KG Ma z.2) {v0 : Option Nat} {v1 : Int32} {v3 : Int32} {v4 : Int32} {v5 : Int32} {v6 : Int32} {v7 : Int32} {v8 : Int32} {v9 : Int64} (h : J_X11_works_98 rF k_22 v0 v1 v3 v4 v5 v6 v7 v8 v9 M = some z) : KG M z.2 := by
  unfold J_X11_works_98 at h
  have hg : KG M M := KG.rf
  obtain ⟨_, -, h⟩ := bnd h
  obtain ⟨_, -, h⟩ := bnd h
  rcases itor h with h | h
  · obtain ⟨_, -, h⟩ := bnd h
    obtain ⟨w1, hw, h⟩ := bnd h
    have hg := hg.trans (keep_X11_told hw)
    exact hg.trans (keepJ_X11_works_123 hrK hk_22 h)
  · exact hg.trans (keepJ_X11_works_123 hrK hk_22 h)
def SJ_X11_works_216 (rS : Int32 → Mem → Option (Int32 × Mem)) (k_22 : Int32 → Int32 → Int32 → Int32 → Int32 → Int32 → Mem → Option (Int32 × Mem)) (v1 : Int32) (v3 : Int32) (v4 : Int32) (v5 : Int32) (v6 : Int32) (v7 : Int32) (M : Mem) : Option (Int32 × Mem) :=
  SJ_X11_works_439 rS k_22 v1 v3 v4 v5 v6 v7 M
theorem eqJ_X11_works_216 {M : Mem} {rF : Option Nat → Int32 → Mem → Option (Int32 × Mem)} {rS : Int32 → Mem → Option (Int32 × Mem)} (hrS : ∀ (a1 : Int32) (Ma : Mem), FSR Ma → rF (some 181) a1 Ma = rS a1 Ma) (hrK : ∀ (a0 : Option Nat) (a1 : Int32) (Ma : Mem) (w : Int32 × Mem), rF a0 a1 Ma = some w → KG Ma w.2) {k_22 : Option Nat → Int32 → Int32 → Int32 → Int32 → Int32 → Int32 → Mem → Option (Int32 × Mem)} {q_22 : Int32 → Int32 → Int32 → Int32 → Int32 → Int32 → Mem → Option (Int32 × Mem)} (hk_22 : ∀ (v1 : Int32) (v3 : Int32) (v4 : Int32) (v5 : Int32) (v6 : Int32) (v7 : Int32) (Ma : Mem), FSR Ma → k_22 (some 181) v1 v3 v4 v5 v6 v7 Ma = q_22 v1 v3 v4 v5 v6 v7 Ma) (hF : FSR M) {v1 : Int32} {v3 : Int32} {v4 : Int32} {v5 : Int32} {v6 : Int32} {v7 : Int32} : J_X11_works_216 rF k_22 (some 181) v1 v3 v4 v5 v6 v7 M = SJ_X11_works_216 rS q_22 v1 v3 v4 v5 v6 v7 M := by
  unfold J_X11_works_216 SJ_X11_works_216
  exact eqJ_X11_works_439 hrS hrK hk_22 hF
theorem keepJ_X11_works_216 {M : Mem} {z : Int32 × Mem} {rF : Option Nat → Int32 → Mem → Option (Int32 × Mem)} (hrK : ∀ (a0 : Option Nat) (a1 : Int32) (Ma : Mem) (w : Int32 × Mem), rF a0 a1 Ma = some w → KG Ma w.2) {k_22 : Option Nat → Int32 → Int32 → Int32 → Int32 → Int32 → Int32 → Mem → Option (Int32 × Mem)} (hk_22 : ∀ (v0 : Option Nat) (v1 : Int32) (v3 : Int32) (v4 : Int32) (v5 : Int32) (v6 : Int32) (v7 : Int32) (Ma : Mem), k_22 v0 v1 v3 v4 v5 v6 v7 Ma = some z → KG Ma z.2) {v0 : Option Nat} {v1 : Int32} {v3 : Int32} {v4 : Int32} {v5 : Int32} {v6 : Int32} {v7 : Int32} (h : J_X11_works_216 rF k_22 v0 v1 v3 v4 v5 v6 v7 M = some z) : KG M z.2 := by
  unfold J_X11_works_216 at h
  have hg : KG M M := KG.rf
  exact hg.trans (keepJ_X11_works_439 hrK hk_22 h)
def SJ_X11_works_182 (rS : Int32 → Mem → Option (Int32 × Mem)) (k_22 : Int32 → Int32 → Int32 → Int32 → Int32 → Int32 → Mem → Option (Int32 × Mem)) (v1 : Int32) (v3 : Int32) (v4 : Int32) (v5 : Int32) (v7 : Int32) (M : Mem) : Option (Int32 × Mem) :=
  SJ_X11_works_216 rS k_22 v1 v3 v4 v5 (802 : Int32) v7 M
theorem eqJ_X11_works_182 {M : Mem} {rF : Option Nat → Int32 → Mem → Option (Int32 × Mem)} {rS : Int32 → Mem → Option (Int32 × Mem)} (hrS : ∀ (a1 : Int32) (Ma : Mem), FSR Ma → rF (some 181) a1 Ma = rS a1 Ma) (hrK : ∀ (a0 : Option Nat) (a1 : Int32) (Ma : Mem) (w : Int32 × Mem), rF a0 a1 Ma = some w → KG Ma w.2) {k_22 : Option Nat → Int32 → Int32 → Int32 → Int32 → Int32 → Int32 → Mem → Option (Int32 × Mem)} {q_22 : Int32 → Int32 → Int32 → Int32 → Int32 → Int32 → Mem → Option (Int32 × Mem)} (hk_22 : ∀ (v1 : Int32) (v3 : Int32) (v4 : Int32) (v5 : Int32) (v6 : Int32) (v7 : Int32) (Ma : Mem), FSR Ma → k_22 (some 181) v1 v3 v4 v5 v6 v7 Ma = q_22 v1 v3 v4 v5 v6 v7 Ma) (hF : FSR M) {v1 : Int32} {v3 : Int32} {v4 : Int32} {v5 : Int32} {v7 : Int32} : J_X11_works_182 rF k_22 (some 181) v1 v3 v4 v5 v7 M = SJ_X11_works_182 rS q_22 v1 v3 v4 v5 v7 M := by
  unfold J_X11_works_182 SJ_X11_works_182
  exact eqJ_X11_works_216 hrS hrK hk_22 hF
theorem keepJ_X11_works_182 {M : Mem} {z : Int32 × Mem} {rF : Option Nat → Int32 → Mem → Option (Int32 × Mem)} (hrK : ∀ (a0 : Option Nat) (a1 : Int32) (Ma : Mem) (w : Int32 × Mem), rF a0 a1 Ma = some w → KG Ma w.2) {k_22 : Option Nat → Int32 → Int32 → Int32 → Int32 → Int32 → Int32 → Mem → Option (Int32 × Mem)} (hk_22 : ∀ (v0 : Option Nat) (v1 : Int32) (v3 : Int32) (v4 : Int32) (v5 : Int32) (v6 : Int32) (v7 : Int32) (Ma : Mem), k_22 v0 v1 v3 v4 v5 v6 v7 Ma = some z → KG Ma z.2) {v0 : Option Nat} {v1 : Int32} {v3 : Int32} {v4 : Int32} {v5 : Int32} {v7 : Int32} (h : J_X11_works_182 rF k_22 v0 v1 v3 v4 v5 v7 M = some z) : KG M z.2 := by
  unfold J_X11_works_182 at h
  have hg : KG M M := KG.rf
  exact hg.trans (keepJ_X11_works_216 hrK hk_22 h)
def SJ_X11_works_160 (rS : Int32 → Mem → Option (Int32 × Mem)) (k_22 : Int32 → Int32 → Int32 → Int32 → Int32 → Int32 → Mem → Option (Int32 × Mem)) (v1 : Int32) (v3 : Int32) (v4 : Int32) (v5 : Int32) (v6 : Int32) (v7 : Int32) (v9 : Int64) (s1 : Int32) (M : Mem) : Option (Int32 × Mem) :=
  (S_X11_constOf s1 v9 M).bind fun w2 =>
  if w2.1 < 0 then
  (SJ_X11_works_182 rS k_22 v1 v3 v4 v5 v7 w2.2)
  else
  (gd (inb w2.1 240) (
  if ¬ (gi w2.2 217 w2.1.toNatClampNeg) = 0 then
  (gd (inb w2.1 240) (
  gd (inb (gi w2.2 181 63) 4000) (
  SJ_X11_works_216 rS k_22 v1 v3 v4 v5 v6 v7 (si (sl w2.2 219 (gi w2.2 181 63).toNatClampNeg (gl w2.2 218 w2.1.toNatClampNeg)) 181 63 ((gi (sl w2.2 219 (gi w2.2 181 63).toNatClampNeg (gl w2.2 218 w2.1.toNatClampNeg)) 181 63) + (1 : Int32))))))
  else
  (SJ_X11_works_182 rS k_22 v1 v3 v4 v5 v7 w2.2)))
theorem eqJ_X11_works_160 {M : Mem} {rF : Option Nat → Int32 → Mem → Option (Int32 × Mem)} {rS : Int32 → Mem → Option (Int32 × Mem)} (hrS : ∀ (a1 : Int32) (Ma : Mem), FSR Ma → rF (some 181) a1 Ma = rS a1 Ma) (hrK : ∀ (a0 : Option Nat) (a1 : Int32) (Ma : Mem) (w : Int32 × Mem), rF a0 a1 Ma = some w → KG Ma w.2) {k_22 : Option Nat → Int32 → Int32 → Int32 → Int32 → Int32 → Int32 → Mem → Option (Int32 × Mem)} {q_22 : Int32 → Int32 → Int32 → Int32 → Int32 → Int32 → Mem → Option (Int32 × Mem)} (hk_22 : ∀ (v1 : Int32) (v3 : Int32) (v4 : Int32) (v5 : Int32) (v6 : Int32) (v7 : Int32) (Ma : Mem), FSR Ma → k_22 (some 181) v1 v3 v4 v5 v6 v7 Ma = q_22 v1 v3 v4 v5 v6 v7 Ma) (hF : FSR M) {v1 : Int32} {v3 : Int32} {v4 : Int32} {v5 : Int32} {v6 : Int32} {v7 : Int32} {v9 : Int64} {s1 : Int32} : J_X11_works_160 rF k_22 (some 181) v1 v3 v4 v5 v6 v7 v9 (some 181) s1 M = SJ_X11_works_160 rS q_22 v1 v3 v4 v5 v6 v7 v9 s1 M := by
  unfold J_X11_works_160 SJ_X11_works_160
  refine (bi_ck (hF.kd 181)).trans ?_
  refine bdc (eqS_X11_constOf hF) (fun w2 hw => ?_)
  have hF := hF.kg (keep_X11_constOf hw)
  refine itc (fun _ => ?_) (fun _ => ?_)
  · exact eqJ_X11_works_182 hrS hrK hk_22 hF
  · refine (bi_fR (hF.kd 181) (hF.gr 60)).trans ?_
    refine (bi_aI (hF.kd 217) (hF.ln 217)).trans ?_
    refine gd_congr (fun _ => ?_)
    refine itc (fun _ => ?_) (fun _ => ?_)
    · refine (bi_fR (hF.kd 181) (hF.gr 62)).trans ?_
      refine (bi_fI (hF.kd 181)).trans ?_
      refine (bi_fR (hF.kd 181) (hF.gr 61)).trans ?_
      refine (bi_aL (hF.kd 218) (hF.ln 218)).trans ?_
      refine gd_congr (fun _ => ?_)
      refine (bi_uL (hF.kd 219) (hF.ln 219)).trans ?_
      refine gd_congr (fun _ => ?_)
      have hF : FSR (sl w2.2 219 (gi w2.2 181 63).toNatClampNeg (gl w2.2 218 w2.1.toNatClampNeg)) := hF.kg ⟨rfl, rfl, rfl⟩
      refine (bi_fI (hF.kd 181)).trans ?_
      refine (bi_pI (hF.kd 181)).trans ?_
      have hF : FSR (si (sl w2.2 219 (gi w2.2 181 63).toNatClampNeg (gl w2.2 218 w2.1.toNatClampNeg)) 181 63 ((gi (sl w2.2 219 (gi w2.2 181 63).toNatClampNeg (gl w2.2 218 w2.1.toNatClampNeg)) 181 63) + (1 : Int32))) := hF.kg ⟨rfl, rfl, rfl⟩
      exact eqJ_X11_works_216 hrS hrK hk_22 hF
    · exact eqJ_X11_works_182 hrS hrK hk_22 hF
theorem keepJ_X11_works_160 {M : Mem} {z : Int32 × Mem} {rF : Option Nat → Int32 → Mem → Option (Int32 × Mem)} (hrK : ∀ (a0 : Option Nat) (a1 : Int32) (Ma : Mem) (w : Int32 × Mem), rF a0 a1 Ma = some w → KG Ma w.2) {k_22 : Option Nat → Int32 → Int32 → Int32 → Int32 → Int32 → Int32 → Mem → Option (Int32 × Mem)} (hk_22 : ∀ (v0 : Option Nat) (v1 : Int32) (v3 : Int32) (v4 : Int32) (v5 : Int32) (v6 : Int32) (v7 : Int32) (Ma : Mem), k_22 v0 v1 v3 v4 v5 v6 v7 Ma = some z → KG Ma z.2) {v0 : Option Nat} {v1 : Int32} {v3 : Int32} {v4 : Int32} {v5 : Int32} {v6 : Int32} {v7 : Int32} {v9 : Int64} {s0 : Option Nat} {s1 : Int32} (h : J_X11_works_160 rF k_22 v0 v1 v3 v4 v5 v6 v7 v9 s0 s1 M = some z) : KG M z.2 := by
  unfold J_X11_works_160 at h
  have hg : KG M M := KG.rf
  obtain ⟨_, -, h⟩ := bnd h
  obtain ⟨w2, hw, h⟩ := bnd h
  have hg := hg.trans (keep_X11_constOf hw)
  rcases itor h with h | h
  · exact hg.trans (keepJ_X11_works_182 hrK hk_22 h)
  · obtain ⟨_, -, h⟩ := bnd h
    obtain ⟨_, -, h⟩ := bnd h
    rcases itor h with h | h
    · obtain ⟨_, -, h⟩ := bnd h
      obtain ⟨_, -, h⟩ := bnd h
      obtain ⟨_, -, h⟩ := bnd h
      obtain ⟨_, -, h⟩ := bnd h
      obtain ⟨_, hw, h⟩ := bnd h
      have hg := hg.trans (kg_uL hw)
      obtain ⟨_, -, h⟩ := bnd h
      obtain ⟨_, hw, h⟩ := bnd h
      have hg := hg.trans (kg_pI hw)
      exact hg.trans (keepJ_X11_works_216 hrK hk_22 h)
    · exact hg.trans (keepJ_X11_works_182 hrK hk_22 h)
def SJ_X11_works_403 (rS : Int32 → Mem → Option (Int32 × Mem)) (k_22 : Int32 → Int32 → Int32 → Int32 → Int32 → Int32 → Mem → Option (Int32 × Mem)) (v1 : Int32) (v3 : Int32) (v4 : Int32) (v5 : Int32) (v6 : Int32) (v7 : Int32) (v8 : Int32) (M : Mem) : Option (Int32 × Mem) :=
  gd (inb ((gi M 181 63) - (1 : Int32)) 4000) (
  gd (inb (gi M 181 63) 4000) (
  (L_X11_acted v8 (gl M 219 ((gi M 181 63) - (1 : Int32)).toNatClampNeg) (gl M 219 (gi M 181 63).toNatClampNeg) M).bind fun w3 =>
  gd (inb ((gi M 181 63) - (1 : Int32)) 4000) (
  SJ_X11_works_439 rS k_22 v1 v3 v4 v5 v6 v7 (sl w3.2 219 ((gi M 181 63) - (1 : Int32)).toNatClampNeg w3.1))))
theorem eqJ_X11_works_403 {M : Mem} {rF : Option Nat → Int32 → Mem → Option (Int32 × Mem)} {rS : Int32 → Mem → Option (Int32 × Mem)} (hrS : ∀ (a1 : Int32) (Ma : Mem), FSR Ma → rF (some 181) a1 Ma = rS a1 Ma) (hrK : ∀ (a0 : Option Nat) (a1 : Int32) (Ma : Mem) (w : Int32 × Mem), rF a0 a1 Ma = some w → KG Ma w.2) {k_22 : Option Nat → Int32 → Int32 → Int32 → Int32 → Int32 → Int32 → Mem → Option (Int32 × Mem)} {q_22 : Int32 → Int32 → Int32 → Int32 → Int32 → Int32 → Mem → Option (Int32 × Mem)} (hk_22 : ∀ (v1 : Int32) (v3 : Int32) (v4 : Int32) (v5 : Int32) (v6 : Int32) (v7 : Int32) (Ma : Mem), FSR Ma → k_22 (some 181) v1 v3 v4 v5 v6 v7 Ma = q_22 v1 v3 v4 v5 v6 v7 Ma) (hF : FSR M) {v1 : Int32} {v3 : Int32} {v4 : Int32} {v5 : Int32} {v6 : Int32} {v7 : Int32} {v8 : Int32} : J_X11_works_403 rF k_22 (some 181) v1 v3 v4 v5 v6 v7 v8 M = SJ_X11_works_403 rS q_22 v1 v3 v4 v5 v6 v7 v8 M := by
  unfold J_X11_works_403 SJ_X11_works_403
  refine (bi_fR (hF.kd 181) (hF.gr 62)).trans ?_
  refine (bi_fI (hF.kd 181)).trans ?_
  refine (bi_fR (hF.kd 181) (hF.gr 62)).trans ?_
  refine (bi_fI (hF.kd 181)).trans ?_
  refine (bi_aL (hF.kd 219) (hF.ln 219)).trans ?_
  refine gd_congr (fun _ => ?_)
  refine (bi_fR (hF.kd 181) (hF.gr 62)).trans ?_
  refine (bi_fI (hF.kd 181)).trans ?_
  refine (bi_aL (hF.kd 219) (hF.ln 219)).trans ?_
  refine gd_congr (fun _ => ?_)
  refine bdc rfl (fun w3 hw => ?_)
  have hF := hF.kg (keep_X11_acted hw)
  refine (bi_uL (hF.kd 219) (hF.ln 219)).trans ?_
  refine gd_congr (fun _ => ?_)
  have hF : FSR (sl w3.2 219 ((gi M 181 63) - (1 : Int32)).toNatClampNeg w3.1) := hF.kg ⟨rfl, rfl, rfl⟩
  exact eqJ_X11_works_439 hrS hrK hk_22 hF
theorem keepJ_X11_works_403 {M : Mem} {z : Int32 × Mem} {rF : Option Nat → Int32 → Mem → Option (Int32 × Mem)} (hrK : ∀ (a0 : Option Nat) (a1 : Int32) (Ma : Mem) (w : Int32 × Mem), rF a0 a1 Ma = some w → KG Ma w.2) {k_22 : Option Nat → Int32 → Int32 → Int32 → Int32 → Int32 → Int32 → Mem → Option (Int32 × Mem)} (hk_22 : ∀ (v0 : Option Nat) (v1 : Int32) (v3 : Int32) (v4 : Int32) (v5 : Int32) (v6 : Int32) (v7 : Int32) (Ma : Mem), k_22 v0 v1 v3 v4 v5 v6 v7 Ma = some z → KG Ma z.2) {v0 : Option Nat} {v1 : Int32} {v3 : Int32} {v4 : Int32} {v5 : Int32} {v6 : Int32} {v7 : Int32} {v8 : Int32} (h : J_X11_works_403 rF k_22 v0 v1 v3 v4 v5 v6 v7 v8 M = some z) : KG M z.2 := by
  unfold J_X11_works_403 at h
  have hg : KG M M := KG.rf
  obtain ⟨_, -, h⟩ := bnd h
  obtain ⟨_, -, h⟩ := bnd h
  obtain ⟨_, -, h⟩ := bnd h
  obtain ⟨_, -, h⟩ := bnd h
  obtain ⟨_, -, h⟩ := bnd h
  obtain ⟨_, -, h⟩ := bnd h
  obtain ⟨_, -, h⟩ := bnd h
  obtain ⟨_, -, h⟩ := bnd h
  obtain ⟨w3, hw, h⟩ := bnd h
  have hg := hg.trans (keep_X11_acted hw)
  obtain ⟨_, hw, h⟩ := bnd h
  have hg := hg.trans (kg_uL hw)
  exact hg.trans (keepJ_X11_works_439 hrK hk_22 h)
def SJ_X11_works_381 (rS : Int32 → Mem → Option (Int32 × Mem)) (k_22 : Int32 → Int32 → Int32 → Int32 → Int32 → Int32 → Mem → Option (Int32 × Mem)) (v1 : Int32) (v3 : Int32) (v4 : Int32) (v5 : Int32) (v6 : Int32) (v7 : Int32) (v8 : Int32) (M : Mem) : Option (Int32 × Mem) :=
  gd (inb (gi M 181 63) 4000) (
  if ¬ (gl M 219 (gi M 181 63).toNatClampNeg) = (0 : Int64) then
  (SJ_X11_works_403 rS k_22 v1 v3 v4 v5 v6 v7 v8 M)
  else
  (SJ_X11_works_439 rS k_22 v1 v3 v4 v5 (801 : Int32) v7 M))
theorem eqJ_X11_works_381 {M : Mem} {rF : Option Nat → Int32 → Mem → Option (Int32 × Mem)} {rS : Int32 → Mem → Option (Int32 × Mem)} (hrS : ∀ (a1 : Int32) (Ma : Mem), FSR Ma → rF (some 181) a1 Ma = rS a1 Ma) (hrK : ∀ (a0 : Option Nat) (a1 : Int32) (Ma : Mem) (w : Int32 × Mem), rF a0 a1 Ma = some w → KG Ma w.2) {k_22 : Option Nat → Int32 → Int32 → Int32 → Int32 → Int32 → Int32 → Mem → Option (Int32 × Mem)} {q_22 : Int32 → Int32 → Int32 → Int32 → Int32 → Int32 → Mem → Option (Int32 × Mem)} (hk_22 : ∀ (v1 : Int32) (v3 : Int32) (v4 : Int32) (v5 : Int32) (v6 : Int32) (v7 : Int32) (Ma : Mem), FSR Ma → k_22 (some 181) v1 v3 v4 v5 v6 v7 Ma = q_22 v1 v3 v4 v5 v6 v7 Ma) (hF : FSR M) {v1 : Int32} {v3 : Int32} {v4 : Int32} {v5 : Int32} {v6 : Int32} {v7 : Int32} {v8 : Int32} : J_X11_works_381 rF k_22 (some 181) v1 v3 v4 v5 v6 v7 v8 M = SJ_X11_works_381 rS q_22 v1 v3 v4 v5 v6 v7 v8 M := by
  unfold J_X11_works_381 SJ_X11_works_381
  refine (bi_fR (hF.kd 181) (hF.gr 62)).trans ?_
  refine (bi_fI (hF.kd 181)).trans ?_
  refine (bi_aL (hF.kd 219) (hF.ln 219)).trans ?_
  refine gd_congr (fun _ => ?_)
  refine itc (fun _ => ?_) (fun _ => ?_)
  · exact eqJ_X11_works_403 hrS hrK hk_22 hF
  · exact eqJ_X11_works_439 hrS hrK hk_22 hF
theorem keepJ_X11_works_381 {M : Mem} {z : Int32 × Mem} {rF : Option Nat → Int32 → Mem → Option (Int32 × Mem)} (hrK : ∀ (a0 : Option Nat) (a1 : Int32) (Ma : Mem) (w : Int32 × Mem), rF a0 a1 Ma = some w → KG Ma w.2) {k_22 : Option Nat → Int32 → Int32 → Int32 → Int32 → Int32 → Int32 → Mem → Option (Int32 × Mem)} (hk_22 : ∀ (v0 : Option Nat) (v1 : Int32) (v3 : Int32) (v4 : Int32) (v5 : Int32) (v6 : Int32) (v7 : Int32) (Ma : Mem), k_22 v0 v1 v3 v4 v5 v6 v7 Ma = some z → KG Ma z.2) {v0 : Option Nat} {v1 : Int32} {v3 : Int32} {v4 : Int32} {v5 : Int32} {v6 : Int32} {v7 : Int32} {v8 : Int32} (h : J_X11_works_381 rF k_22 v0 v1 v3 v4 v5 v6 v7 v8 M = some z) : KG M z.2 := by
  unfold J_X11_works_381 at h
  have hg : KG M M := KG.rf
  obtain ⟨_, -, h⟩ := bnd h
  obtain ⟨_, -, h⟩ := bnd h
  obtain ⟨_, -, h⟩ := bnd h
  rcases itor h with h | h
  · exact hg.trans (keepJ_X11_works_403 hrK hk_22 h)
  · exact hg.trans (keepJ_X11_works_439 hrK hk_22 h)
def SJ_X11_works_137 (rS : Int32 → Mem → Option (Int32 × Mem)) (k_22 : Int32 → Int32 → Int32 → Int32 → Int32 → Int32 → Mem → Option (Int32 × Mem)) (v1 : Int32) (v3 : Int32) (v4 : Int32) (v5 : Int32) (v6 : Int32) (v7 : Int32) (v8 : Int32) (v9 : Int64) (v11 : Int32) (M : Mem) : Option (Int32 × Mem) :=
  if ¬ v8 = (6 : Int32) then
  (if ¬ v8 = (7 : Int32) then
  (if ¬ v8 = (8 : Int32) then
  (if ¬ v8 = (10 : Int32) then
  (if ¬ v8 = (9 : Int32) then
  (if v8 = (47 : Int32) then
  (SJ_X11_works_381 rS k_22 v1 v3 v4 v5 v6 v7 v8 (si M 181 63 ((gi M 181 63) - (1 : Int32))))
  else
  (if ¬ v8 = (37 : Int32) then
  (SJ_X11_works_403 rS k_22 v1 v3 v4 v5 v6 v7 v8 (si M 181 63 ((gi M 181 63) - (1 : Int32))))
  else
  (SJ_X11_works_381 rS k_22 v1 v3 v4 v5 v6 v7 v8 (si M 181 63 ((gi M 181 63) - (1 : Int32))))))
  else
  (gd (inb (gi (si M 181 63 ((gi M 181 63) - (1 : Int32))) 181 63) 4000) (
  if ¬ (gl (si M 181 63 ((gi M 181 63) - (1 : Int32))) 219 (gi (si M 181 63 ((gi M 181 63) - (1 : Int32))) 181 63).toNatClampNeg) = (0 : Int64) then
  (SJ_X11_works_439 rS k_22 v1 v3 v4 v5 v6 v7 (si M 181 63 ((gi M 181 63) - (1 : Int32))))
  else
  (SJ_X11_works_439 rS k_22 v1 v3 v4 v5 v6 v9.toInt32 (si M 181 63 ((gi M 181 63) - (1 : Int32)))))))
  else
  (SJ_X11_works_439 rS k_22 v1 v3 v4 v5 v6 v9.toInt32 M))
  else
  (gd (inb ((gi M 181 63) - (1 : Int32)) 4000) (
  gd (inb ((gi M 181 63) - (1 : Int32)) 4000) (
  SJ_X11_works_439 rS k_22 v1 v3 v4 v5 v6 v7 (sl M 219 ((gi M 181 63) - (1 : Int32)).toNatClampNeg (-(gl M 219 ((gi M 181 63) - (1 : Int32)).toNatClampNeg)))))))
  else
  (gd (inb ((gi M 181 63) - (1 : Int32)) 4000) (
  (S_X11_looks rS v1 v11 v9 (gl M 219 ((gi M 181 63) - (1 : Int32)).toNatClampNeg) M).bind fun w4 =>
  gd (inb ((gi w4.2 181 63) - (1 : Int32)) 4000) (
  SJ_X11_works_439 rS k_22 v1 v3 v4 v5 w4.1 v7 (sl w4.2 219 ((gi w4.2 181 63) - (1 : Int32)).toNatClampNeg (gl w4.2 181 71))))))
  else
  ((S_X11_worksConstants M).bind fun w5 =>
  if 0 ≤ v11 then
  (SJ_X11_works_160 rS k_22 v1 v3 v4 v5 v6 v7 v9 v11 w5.2)
  else
  (SJ_X11_works_160 rS k_22 v1 v3 v4 v5 v6 v7 v9 v1 w5.2))
theorem eqJ_X11_works_137 {M : Mem} {rF : Option Nat → Int32 → Mem → Option (Int32 × Mem)} {rS : Int32 → Mem → Option (Int32 × Mem)} (hrS : ∀ (a1 : Int32) (Ma : Mem), FSR Ma → rF (some 181) a1 Ma = rS a1 Ma) (hrK : ∀ (a0 : Option Nat) (a1 : Int32) (Ma : Mem) (w : Int32 × Mem), rF a0 a1 Ma = some w → KG Ma w.2) {k_22 : Option Nat → Int32 → Int32 → Int32 → Int32 → Int32 → Int32 → Mem → Option (Int32 × Mem)} {q_22 : Int32 → Int32 → Int32 → Int32 → Int32 → Int32 → Mem → Option (Int32 × Mem)} (hk_22 : ∀ (v1 : Int32) (v3 : Int32) (v4 : Int32) (v5 : Int32) (v6 : Int32) (v7 : Int32) (Ma : Mem), FSR Ma → k_22 (some 181) v1 v3 v4 v5 v6 v7 Ma = q_22 v1 v3 v4 v5 v6 v7 Ma) (hF : FSR M) {v1 : Int32} {v3 : Int32} {v4 : Int32} {v5 : Int32} {v6 : Int32} {v7 : Int32} {v8 : Int32} {v9 : Int64} {v11 : Int32} : J_X11_works_137 rF k_22 (some 181) v1 v3 v4 v5 v6 v7 v8 v9 v11 M = SJ_X11_works_137 rS q_22 v1 v3 v4 v5 v6 v7 v8 v9 v11 M := by
  unfold J_X11_works_137 SJ_X11_works_137
  refine itc (fun _ => ?_) (fun _ => ?_)
  · refine itc (fun _ => ?_) (fun _ => ?_)
    · refine itc (fun _ => ?_) (fun _ => ?_)
      · refine itc (fun _ => ?_) (fun _ => ?_)
        · refine itc (fun _ => ?_) (fun _ => ?_)
          · refine (bi_fI (hF.kd 181)).trans ?_
            refine (bi_pI (hF.kd 181)).trans ?_
            have hF : FSR (si M 181 63 ((gi M 181 63) - (1 : Int32))) := hF.kg ⟨rfl, rfl, rfl⟩
            refine itc (fun _ => ?_) (fun _ => ?_)
            · exact eqJ_X11_works_381 hrS hrK hk_22 hF
            · refine itc (fun _ => ?_) (fun _ => ?_)
              · exact eqJ_X11_works_403 hrS hrK hk_22 hF
              · exact eqJ_X11_works_381 hrS hrK hk_22 hF
          · refine (bi_fI (hF.kd 181)).trans ?_
            refine (bi_pI (hF.kd 181)).trans ?_
            have hF : FSR (si M 181 63 ((gi M 181 63) - (1 : Int32))) := hF.kg ⟨rfl, rfl, rfl⟩
            refine (bi_fR (hF.kd 181) (hF.gr 62)).trans ?_
            refine (bi_fI (hF.kd 181)).trans ?_
            refine (bi_aL (hF.kd 219) (hF.ln 219)).trans ?_
            refine gd_congr (fun _ => ?_)
            refine itc (fun _ => ?_) (fun _ => ?_)
            · exact eqJ_X11_works_439 hrS hrK hk_22 hF
            · exact eqJ_X11_works_439 hrS hrK hk_22 hF
        · exact eqJ_X11_works_439 hrS hrK hk_22 hF
      · refine (bi_fR (hF.kd 181) (hF.gr 62)).trans ?_
        refine (bi_fI (hF.kd 181)).trans ?_
        refine (bi_fR (hF.kd 181) (hF.gr 62)).trans ?_
        refine (bi_fI (hF.kd 181)).trans ?_
        refine (bi_aL (hF.kd 219) (hF.ln 219)).trans ?_
        refine gd_congr (fun _ => ?_)
        refine (bi_uL (hF.kd 219) (hF.ln 219)).trans ?_
        refine gd_congr (fun _ => ?_)
        have hF : FSR (sl M 219 ((gi M 181 63) - (1 : Int32)).toNatClampNeg (-(gl M 219 ((gi M 181 63) - (1 : Int32)).toNatClampNeg))) := hF.kg ⟨rfl, rfl, rfl⟩
        exact eqJ_X11_works_439 hrS hrK hk_22 hF
    · refine (bi_fR (hF.kd 181) (hF.gr 62)).trans ?_
      refine (bi_fI (hF.kd 181)).trans ?_
      refine (bi_aL (hF.kd 219) (hF.ln 219)).trans ?_
      refine gd_congr (fun _ => ?_)
      refine (bi_ck (hF.kd 181)).trans ?_
      refine bdc (eqS_X11_looks hrS hrK hF) (fun w4 hw => ?_)
      have hF := hF.kg (keep_X11_looks hrK hw)
      refine (bi_fR (hF.kd 181) (hF.gr 62)).trans ?_
      refine (bi_fI (hF.kd 181)).trans ?_
      refine (bi_fL (hF.kd 181)).trans ?_
      refine (bi_uL (hF.kd 219) (hF.ln 219)).trans ?_
      refine gd_congr (fun _ => ?_)
      have hF : FSR (sl w4.2 219 ((gi w4.2 181 63) - (1 : Int32)).toNatClampNeg (gl w4.2 181 71)) := hF.kg ⟨rfl, rfl, rfl⟩
      exact eqJ_X11_works_439 hrS hrK hk_22 hF
  · refine (bi_ck (hF.kd 181)).trans ?_
    refine bdc (eqS_X11_worksConstants hF) (fun w5 hw => ?_)
    have hF := hF.kg (keep_X11_worksConstants hw)
    refine itc (fun _ => ?_) (fun _ => ?_)
    · exact eqJ_X11_works_160 hrS hrK hk_22 hF
    · exact eqJ_X11_works_160 hrS hrK hk_22 hF
theorem keepJ_X11_works_137 {M : Mem} {z : Int32 × Mem} {rF : Option Nat → Int32 → Mem → Option (Int32 × Mem)} (hrK : ∀ (a0 : Option Nat) (a1 : Int32) (Ma : Mem) (w : Int32 × Mem), rF a0 a1 Ma = some w → KG Ma w.2) {k_22 : Option Nat → Int32 → Int32 → Int32 → Int32 → Int32 → Int32 → Mem → Option (Int32 × Mem)} (hk_22 : ∀ (v0 : Option Nat) (v1 : Int32) (v3 : Int32) (v4 : Int32) (v5 : Int32) (v6 : Int32) (v7 : Int32) (Ma : Mem), k_22 v0 v1 v3 v4 v5 v6 v7 Ma = some z → KG Ma z.2) {v0 : Option Nat} {v1 : Int32} {v3 : Int32} {v4 : Int32} {v5 : Int32} {v6 : Int32} {v7 : Int32} {v8 : Int32} {v9 : Int64} {v11 : Int32} (h : J_X11_works_137 rF k_22 v0 v1 v3 v4 v5 v6 v7 v8 v9 v11 M = some z) : KG M z.2 := by
  unfold J_X11_works_137 at h
  have hg : KG M M := KG.rf
  rcases itor h with h | h
  · rcases itor h with h | h
    · rcases itor h with h | h
      · rcases itor h with h | h
        · rcases itor h with h | h
          · obtain ⟨_, -, h⟩ := bnd h
            obtain ⟨_, hw, h⟩ := bnd h
            have hg := hg.trans (kg_pI hw)
            rcases itor h with h | h
            · exact hg.trans (keepJ_X11_works_381 hrK hk_22 h)
            · rcases itor h with h | h
              · exact hg.trans (keepJ_X11_works_403 hrK hk_22 h)
              · exact hg.trans (keepJ_X11_works_381 hrK hk_22 h)
          · obtain ⟨_, -, h⟩ := bnd h
            obtain ⟨_, hw, h⟩ := bnd h
            have hg := hg.trans (kg_pI hw)
            obtain ⟨_, -, h⟩ := bnd h
            obtain ⟨_, -, h⟩ := bnd h
            obtain ⟨_, -, h⟩ := bnd h
            rcases itor h with h | h
            · exact hg.trans (keepJ_X11_works_439 hrK hk_22 h)
            · exact hg.trans (keepJ_X11_works_439 hrK hk_22 h)
        · exact hg.trans (keepJ_X11_works_439 hrK hk_22 h)
      · obtain ⟨_, -, h⟩ := bnd h
        obtain ⟨_, -, h⟩ := bnd h
        obtain ⟨_, -, h⟩ := bnd h
        obtain ⟨_, -, h⟩ := bnd h
        obtain ⟨_, -, h⟩ := bnd h
        obtain ⟨_, hw, h⟩ := bnd h
        have hg := hg.trans (kg_uL hw)
        exact hg.trans (keepJ_X11_works_439 hrK hk_22 h)
    · obtain ⟨_, -, h⟩ := bnd h
      obtain ⟨_, -, h⟩ := bnd h
      obtain ⟨_, -, h⟩ := bnd h
      obtain ⟨_, -, h⟩ := bnd h
      obtain ⟨w4, hw, h⟩ := bnd h
      have hg := hg.trans (keep_X11_looks hrK hw)
      obtain ⟨_, -, h⟩ := bnd h
      obtain ⟨_, -, h⟩ := bnd h
      obtain ⟨_, -, h⟩ := bnd h
      obtain ⟨_, hw, h⟩ := bnd h
      have hg := hg.trans (kg_uL hw)
      exact hg.trans (keepJ_X11_works_439 hrK hk_22 h)
  · obtain ⟨_, -, h⟩ := bnd h
    obtain ⟨w5, hw, h⟩ := bnd h
    have hg := hg.trans (keep_X11_worksConstants hw)
    rcases itor h with h | h
    · exact hg.trans (keepJ_X11_works_160 hrK hk_22 h)
    · exact hg.trans (keepJ_X11_works_160 hrK hk_22 h)
def SJ_X11_works_462 (rS : Int32 → Mem → Option (Int32 × Mem)) (v5 : Int32) (v6 : Int32) (M : Mem) : Option (Int32 × Mem) :=
  some (v6, si M 181 63 v5)
theorem eqJ_X11_works_462 {M : Mem} {rF : Option Nat → Int32 → Mem → Option (Int32 × Mem)} {rS : Int32 → Mem → Option (Int32 × Mem)} (hrS : ∀ (a1 : Int32) (Ma : Mem), FSR Ma → rF (some 181) a1 Ma = rS a1 Ma) (hrK : ∀ (a0 : Option Nat) (a1 : Int32) (Ma : Mem) (w : Int32 × Mem), rF a0 a1 Ma = some w → KG Ma w.2) (hF : FSR M) {v5 : Int32} {v6 : Int32} : J_X11_works_462 rF (some 181) v5 v6 M = SJ_X11_works_462 rS v5 v6 M := by
  unfold J_X11_works_462 SJ_X11_works_462
  refine (bi_pI (hF.kd 181)).trans ?_
  have hF : FSR (si M 181 63 v5) := hF.kg ⟨rfl, rfl, rfl⟩
  rfl
theorem keepJ_X11_works_462 {M : Mem} {z : Int32 × Mem} {rF : Option Nat → Int32 → Mem → Option (Int32 × Mem)} (hrK : ∀ (a0 : Option Nat) (a1 : Int32) (Ma : Mem) (w : Int32 × Mem), rF a0 a1 Ma = some w → KG Ma w.2) {v0 : Option Nat} {v5 : Int32} {v6 : Int32} (h : J_X11_works_462 rF v0 v5 v6 M = some z) : KG M z.2 := by
  unfold J_X11_works_462 at h
  have hg : KG M M := KG.rf
  obtain ⟨_, hw, h⟩ := bnd h
  have hg := hg.trans (kg_pI hw)
  cases h; exact hg
def SJ_X11_works_442 (rS : Int32 → Mem → Option (Int32 × Mem)) (v5 : Int32) (v6 : Int32) (M : Mem) : Option (Int32 × Mem) :=
  if ¬ v6 = 0 then
  (SJ_X11_works_462 rS v5 v6 M)
  else
  (gd (inb ((gi M 181 63) - (1 : Int32)) 4000) (
  SJ_X11_works_462 rS v5 v6 (sl M 181 71 (gl M 219 ((gi M 181 63) - (1 : Int32)).toNatClampNeg))))
theorem eqJ_X11_works_442 {M : Mem} {rF : Option Nat → Int32 → Mem → Option (Int32 × Mem)} {rS : Int32 → Mem → Option (Int32 × Mem)} (hrS : ∀ (a1 : Int32) (Ma : Mem), FSR Ma → rF (some 181) a1 Ma = rS a1 Ma) (hrK : ∀ (a0 : Option Nat) (a1 : Int32) (Ma : Mem) (w : Int32 × Mem), rF a0 a1 Ma = some w → KG Ma w.2) (hF : FSR M) {v5 : Int32} {v6 : Int32} : J_X11_works_442 rF (some 181) v5 v6 M = SJ_X11_works_442 rS v5 v6 M := by
  unfold J_X11_works_442 SJ_X11_works_442
  refine itc (fun _ => ?_) (fun _ => ?_)
  · exact eqJ_X11_works_462 hrS hrK hF
  · refine (bi_fR (hF.kd 181) (hF.gr 62)).trans ?_
    refine (bi_fI (hF.kd 181)).trans ?_
    refine (bi_aL (hF.kd 219) (hF.ln 219)).trans ?_
    refine gd_congr (fun _ => ?_)
    refine (bi_pL (hF.kd 181)).trans ?_
    have hF : FSR (sl M 181 71 (gl M 219 ((gi M 181 63) - (1 : Int32)).toNatClampNeg)) := hF.kg ⟨rfl, rfl, rfl⟩
    exact eqJ_X11_works_462 hrS hrK hF
theorem keepJ_X11_works_442 {M : Mem} {z : Int32 × Mem} {rF : Option Nat → Int32 → Mem → Option (Int32 × Mem)} (hrK : ∀ (a0 : Option Nat) (a1 : Int32) (Ma : Mem) (w : Int32 × Mem), rF a0 a1 Ma = some w → KG Ma w.2) {v0 : Option Nat} {v5 : Int32} {v6 : Int32} (h : J_X11_works_442 rF v0 v5 v6 M = some z) : KG M z.2 := by
  unfold J_X11_works_442 at h
  have hg : KG M M := KG.rf
  rcases itor h with h | h
  · exact hg.trans (keepJ_X11_works_462 hrK h)
  · obtain ⟨_, -, h⟩ := bnd h
    obtain ⟨_, -, h⟩ := bnd h
    obtain ⟨_, -, h⟩ := bnd h
    obtain ⟨_, hw, h⟩ := bnd h
    have hg := hg.trans (kg_pL hw)
    exact hg.trans (keepJ_X11_works_462 hrK h)
def SJ_X11_works_22 (rS : Int32 → Mem → Option (Int32 × Mem)) : Nat → Int32 → Int32 → Int32 → Int32 → Int32 → Int32 → Mem → Option (Int32 × Mem)
  | 0 => fun _ _ _ _ _ _ _ => none
  | n + 1 => fun v1 v3 v4 v5 v6 v7 M =>
  gd (inb (v4 + v7) 72000) (
  if (gi M 208 (v4 + v7).toNatClampNeg) = (11 : Int32) then
  (SJ_X11_works_442 rS v5 v6 M)
  else
  (if ¬ v6 = 0 then
  (SJ_X11_works_442 rS v5 v6 M)
  else
  (gd (inb (v4 + v7) 72000) (
  gd (inb (v4 + v7) 72000) (
  gd (inb (v4 + v7) 72000) (
  if (gi M 208 (v4 + v7).toNatClampNeg) = 0 then
  (SJ_X11_works_98 rS (SJ_X11_works_22 rS n) v1 v3 v4 v5 v6 (v7 + 1) (gi M 208 (v4 + v7).toNatClampNeg) (gl M 209 (v4 + v7).toNatClampNeg) M)
  else
  (if (gi M 208 (v4 + v7).toNatClampNeg) < (1 : Int32) then
  (SJ_X11_works_137 rS (SJ_X11_works_22 rS n) v1 v3 v4 v5 v6 (v7 + 1) (gi M 208 (v4 + v7).toNatClampNeg) (gl M 209 (v4 + v7).toNatClampNeg) (gi M 210 (v4 + v7).toNatClampNeg) M)
  else
  (if (5 : Int32) < (gi M 208 (v4 + v7).toNatClampNeg) then
  (SJ_X11_works_137 rS (SJ_X11_works_22 rS n) v1 v3 v4 v5 v6 (v7 + 1) (gi M 208 (v4 + v7).toNatClampNeg) (gl M 209 (v4 + v7).toNatClampNeg) (gi M 210 (v4 + v7).toNatClampNeg) M)
  else
  (SJ_X11_works_98 rS (SJ_X11_works_22 rS n) v1 v3 v4 v5 v6 (v7 + 1) (gi M 208 (v4 + v7).toNatClampNeg) (gl M 209 (v4 + v7).toNatClampNeg) M)))))))))
theorem eqJ_X11_works_22 {rF : Option Nat → Int32 → Mem → Option (Int32 × Mem)} {rS : Int32 → Mem → Option (Int32 × Mem)} (hrS : ∀ (a1 : Int32) (Ma : Mem), FSR Ma → rF (some 181) a1 Ma = rS a1 Ma) (hrK : ∀ (a0 : Option Nat) (a1 : Int32) (Ma : Mem) (w : Int32 × Mem), rF a0 a1 Ma = some w → KG Ma w.2) : ∀ (n : Nat) (v1 : Int32) (v3 : Int32) (v4 : Int32) (v5 : Int32) (v6 : Int32) (v7 : Int32) (M : Mem), FSR M → J_X11_works_22 rF n (some 181) v1 v3 v4 v5 v6 v7 M = SJ_X11_works_22 rS n v1 v3 v4 v5 v6 v7 M := by
  intro n
  induction n with
  | zero => intro v1 v3 v4 v5 v6 v7 M hF; rfl
  | succ n ih =>
    intro v1 v3 v4 v5 v6 v7 M hF
    unfold J_X11_works_22 SJ_X11_works_22
    refine (bi_fR (hF.kd 181) (hF.gr 50)).trans ?_
    refine (bi_aI (hF.kd 208) (hF.ln 208)).trans ?_
    refine gd_congr (fun _ => ?_)
    refine itc (fun _ => ?_) (fun _ => ?_)
    · exact eqJ_X11_works_442 hrS hrK hF
    · refine itc (fun _ => ?_) (fun _ => ?_)
      · exact eqJ_X11_works_442 hrS hrK hF
      · refine (bi_fR (hF.kd 181) (hF.gr 50)).trans ?_
        refine (bi_aI (hF.kd 208) (hF.ln 208)).trans ?_
        refine gd_congr (fun _ => ?_)
        refine (bi_fR (hF.kd 181) (hF.gr 51)).trans ?_
        refine (bi_aL (hF.kd 209) (hF.ln 209)).trans ?_
        refine gd_congr (fun _ => ?_)
        refine (bi_fR (hF.kd 181) (hF.gr 52)).trans ?_
        refine (bi_aI (hF.kd 210) (hF.ln 210)).trans ?_
        refine gd_congr (fun _ => ?_)
        refine itc (fun _ => ?_) (fun _ => ?_)
        · exact eqJ_X11_works_98 hrS hrK ih hF
        · refine itc (fun _ => ?_) (fun _ => ?_)
          · exact eqJ_X11_works_137 hrS hrK ih hF
          · refine itc (fun _ => ?_) (fun _ => ?_)
            · exact eqJ_X11_works_137 hrS hrK ih hF
            · exact eqJ_X11_works_98 hrS hrK ih hF
theorem keepJ_X11_works_22 {z : Int32 × Mem} {rF : Option Nat → Int32 → Mem → Option (Int32 × Mem)} (hrK : ∀ (a0 : Option Nat) (a1 : Int32) (Ma : Mem) (w : Int32 × Mem), rF a0 a1 Ma = some w → KG Ma w.2) : ∀ (n : Nat) (v0 : Option Nat) (v1 : Int32) (v3 : Int32) (v4 : Int32) (v5 : Int32) (v6 : Int32) (v7 : Int32) (M : Mem), J_X11_works_22 rF n v0 v1 v3 v4 v5 v6 v7 M = some z → KG M z.2 := by
  intro n
  induction n with
  | zero => intro v0 v1 v3 v4 v5 v6 v7 M h; exact nomatch h
  | succ n ih =>
    intro v0 v1 v3 v4 v5 v6 v7 M h
    unfold J_X11_works_22 at h
    have hg : KG M M := KG.rf
    obtain ⟨_, -, h⟩ := bnd h
    obtain ⟨_, -, h⟩ := bnd h
    rcases itor h with h | h
    · exact hg.trans (keepJ_X11_works_442 hrK h)
    · rcases itor h with h | h
      · exact hg.trans (keepJ_X11_works_442 hrK h)
      · obtain ⟨_, -, h⟩ := bnd h
        obtain ⟨_, -, h⟩ := bnd h
        obtain ⟨_, -, h⟩ := bnd h
        obtain ⟨_, -, h⟩ := bnd h
        obtain ⟨_, -, h⟩ := bnd h
        obtain ⟨_, -, h⟩ := bnd h
        rcases itor h with h | h
        · exact hg.trans (keepJ_X11_works_98 hrK ih h)
        · rcases itor h with h | h
          · exact hg.trans (keepJ_X11_works_137 hrK ih h)
          · rcases itor h with h | h
            · exact hg.trans (keepJ_X11_works_137 hrK ih h)
            · exact hg.trans (keepJ_X11_works_98 hrK ih h)
def S_X11_works (rS : Int32 → Mem → Option (Int32 × Mem)) (v1 : Int32) (v2 : Int32) (v3 : Int32) (M : Mem) : Option (Int32 × Mem) :=
  SJ_X11_works_22 rS FU v1 v3 ((1200 : Int32) * ((30 : Int32) + v1)) (gi M 181 63) (0 : Int32) v2 M
theorem eqS_X11_works {M : Mem} {rF : Option Nat → Int32 → Mem → Option (Int32 × Mem)} {rS : Int32 → Mem → Option (Int32 × Mem)} (hrS : ∀ (a1 : Int32) (Ma : Mem), FSR Ma → rF (some 181) a1 Ma = rS a1 Ma) (hrK : ∀ (a0 : Option Nat) (a1 : Int32) (Ma : Mem) (w : Int32 × Mem), rF a0 a1 Ma = some w → KG Ma w.2) (hF : FSR M) {v1 : Int32} {v2 : Int32} {v3 : Int32} : L_X11_works rF (some 181) v1 v2 v3 M = S_X11_works rS v1 v2 v3 M := by
  unfold L_X11_works S_X11_works
  refine (bi_fI (hF.kd 181)).trans ?_
  exact eqJ_X11_works_22 hrS hrK FU _ _ _ _ _ _ _ hF
theorem keep_X11_works {M : Mem} {z : Int32 × Mem} {rF : Option Nat → Int32 → Mem → Option (Int32 × Mem)} (hrK : ∀ (a0 : Option Nat) (a1 : Int32) (Ma : Mem) (w : Int32 × Mem), rF a0 a1 Ma = some w → KG Ma w.2) {v0 : Option Nat} {v1 : Int32} {v2 : Int32} {v3 : Int32} (h : L_X11_works rF v0 v1 v2 v3 M = some z) : KG M z.2 := by
  unfold L_X11_works at h
  have hg : KG M M := KG.rf
  obtain ⟨_, -, h⟩ := bnd h
  exact hg.trans (keepJ_X11_works_22 hrK FU _ _ _ _ _ _ _ _ h)
def SJ_X11_builds_19 (rS : Int32 → Mem → Option (Int32 × Mem)) : Nat → Int32 → Int32 → Int32 → Int32 → Int32 → Mem → Option (Int32 × Mem)
  | 0 => fun _ _ _ _ _ _ => none
  | n + 1 => fun v1 v2 v3 v4 v5 M =>
  if v4 ≤ v5 then
  (some ((0 : Int32), M))
  else
  ((S_X11_works rS v1 v3 v5 M).bind fun w1 =>
  if w1.1 = 0 then
  (gd (inb ((((72 : Int32) * v1) + ((12 : Int32) * v2)) + v5) 2160) (
  SJ_X11_builds_19 rS n v1 v2 v3 v4 (v5 + 1) (sl w1.2 216 ((((72 : Int32) * v1) + ((12 : Int32) * v2)) + v5).toNatClampNeg (gl w1.2 181 71))))
  else
  (some (w1.1, w1.2)))
theorem eqJ_X11_builds_19 {rF : Option Nat → Int32 → Mem → Option (Int32 × Mem)} {rS : Int32 → Mem → Option (Int32 × Mem)} (hrS : ∀ (a1 : Int32) (Ma : Mem), FSR Ma → rF (some 181) a1 Ma = rS a1 Ma) (hrK : ∀ (a0 : Option Nat) (a1 : Int32) (Ma : Mem) (w : Int32 × Mem), rF a0 a1 Ma = some w → KG Ma w.2) : ∀ (n : Nat) (v1 : Int32) (v2 : Int32) (v3 : Int32) (v4 : Int32) (v5 : Int32) (M : Mem), FSR M → J_X11_builds_19 rF n (some 181) v1 v2 v3 v4 v5 M = SJ_X11_builds_19 rS n v1 v2 v3 v4 v5 M := by
  intro n
  induction n with
  | zero => intro v1 v2 v3 v4 v5 M hF; rfl
  | succ n ih =>
    intro v1 v2 v3 v4 v5 M hF
    unfold J_X11_builds_19 SJ_X11_builds_19
    refine itc (fun _ => ?_) (fun _ => ?_)
    · rfl
    · refine (bi_ck (hF.kd 181)).trans ?_
      refine bdc (eqS_X11_works hrS hrK hF) (fun w1 hw => ?_)
      have hF := hF.kg (keep_X11_works hrK hw)
      refine itc (fun _ => ?_) (fun _ => ?_)
      · refine (bi_fR (hF.kd 181) (hF.gr 58)).trans ?_
        refine (bi_fL (hF.kd 181)).trans ?_
        refine (bi_uL (hF.kd 216) (hF.ln 216)).trans ?_
        refine gd_congr (fun _ => ?_)
        have hF : FSR (sl w1.2 216 ((((72 : Int32) * v1) + ((12 : Int32) * v2)) + v5).toNatClampNeg (gl w1.2 181 71)) := hF.kg ⟨rfl, rfl, rfl⟩
        exact ih _ _ _ _ _ _ hF
      · rfl
theorem keepJ_X11_builds_19 {z : Int32 × Mem} {rF : Option Nat → Int32 → Mem → Option (Int32 × Mem)} (hrK : ∀ (a0 : Option Nat) (a1 : Int32) (Ma : Mem) (w : Int32 × Mem), rF a0 a1 Ma = some w → KG Ma w.2) : ∀ (n : Nat) (v0 : Option Nat) (v1 : Int32) (v2 : Int32) (v3 : Int32) (v4 : Int32) (v5 : Int32) (M : Mem), J_X11_builds_19 rF n v0 v1 v2 v3 v4 v5 M = some z → KG M z.2 := by
  intro n
  induction n with
  | zero => intro v0 v1 v2 v3 v4 v5 M h; exact nomatch h
  | succ n ih =>
    intro v0 v1 v2 v3 v4 v5 M h
    unfold J_X11_builds_19 at h
    have hg : KG M M := KG.rf
    rcases itor h with h | h
    · cases h; exact hg
    · obtain ⟨_, -, h⟩ := bnd h
      obtain ⟨w1, hw, h⟩ := bnd h
      have hg := hg.trans (keep_X11_works hrK hw)
      rcases itor h with h | h
      · obtain ⟨_, -, h⟩ := bnd h
        obtain ⟨_, -, h⟩ := bnd h
        obtain ⟨_, hw, h⟩ := bnd h
        have hg := hg.trans (kg_uL hw)
        exact hg.trans (ih _ _ _ _ _ _ _ h)
      · cases h; exact hg
def S_X11_builds (rS : Int32 → Mem → Option (Int32 × Mem)) (v1 : Int32) (v2 : Int32) (v3 : Int32) (M : Mem) : Option (Int32 × Mem) :=
  gd (inb (((6 : Int32) * ((30 : Int32) + v1)) + v2) 360) (
  SJ_X11_builds_19 rS FU v1 v2 v3 (gi M 202 (((6 : Int32) * ((30 : Int32) + v1)) + v2).toNatClampNeg) (0 : Int32) M)
theorem eqS_X11_builds {M : Mem} {rF : Option Nat → Int32 → Mem → Option (Int32 × Mem)} {rS : Int32 → Mem → Option (Int32 × Mem)} (hrS : ∀ (a1 : Int32) (Ma : Mem), FSR Ma → rF (some 181) a1 Ma = rS a1 Ma) (hrK : ∀ (a0 : Option Nat) (a1 : Int32) (Ma : Mem) (w : Int32 × Mem), rF a0 a1 Ma = some w → KG Ma w.2) (hF : FSR M) {v1 : Int32} {v2 : Int32} {v3 : Int32} : L_X11_builds rF (some 181) v1 v2 v3 M = S_X11_builds rS v1 v2 v3 M := by
  unfold L_X11_builds S_X11_builds
  refine (bi_fR (hF.kd 181) (hF.gr 44)).trans ?_
  refine (bi_aI (hF.kd 202) (hF.ln 202)).trans ?_
  refine gd_congr (fun _ => ?_)
  exact eqJ_X11_builds_19 hrS hrK FU _ _ _ _ _ _ hF
theorem keep_X11_builds {M : Mem} {z : Int32 × Mem} {rF : Option Nat → Int32 → Mem → Option (Int32 × Mem)} (hrK : ∀ (a0 : Option Nat) (a1 : Int32) (Ma : Mem) (w : Int32 × Mem), rF a0 a1 Ma = some w → KG Ma w.2) {v0 : Option Nat} {v1 : Int32} {v2 : Int32} {v3 : Int32} (h : L_X11_builds rF v0 v1 v2 v3 M = some z) : KG M z.2 := by
  unfold L_X11_builds at h
  have hg : KG M M := KG.rf
  obtain ⟨_, -, h⟩ := bnd h
  obtain ⟨_, -, h⟩ := bnd h
  exact hg.trans (keepJ_X11_builds_19 hrK FU _ _ _ _ _ _ _ h)
def SJ_X11_does_225 (rS : Int32 → Mem → Option (Int32 × Mem)) (k_24 : Int32 → Int32 → Int32 → Int32 → Int32 → Mem → Option (Int32 × Mem)) (v1 : Int32) (v2 : Int32) (v3 : Int32) (v4 : Int32) (v7 : Int32) (M : Mem) : Option (Int32 × Mem) :=
  k_24 v1 v2 v3 v4 v7 M
theorem eqJ_X11_does_225 {M : Mem} {rF : Option Nat → Int32 → Mem → Option (Int32 × Mem)} {rS : Int32 → Mem → Option (Int32 × Mem)} (hrS : ∀ (a1 : Int32) (Ma : Mem), FSR Ma → rF (some 181) a1 Ma = rS a1 Ma) (hrK : ∀ (a0 : Option Nat) (a1 : Int32) (Ma : Mem) (w : Int32 × Mem), rF a0 a1 Ma = some w → KG Ma w.2) {k_24 : Option Nat → Int32 → Int32 → Int32 → Int32 → Int32 → Mem → Option (Int32 × Mem)} {q_24 : Int32 → Int32 → Int32 → Int32 → Int32 → Mem → Option (Int32 × Mem)} (hk_24 : ∀ (v1 : Int32) (v2 : Int32) (v3 : Int32) (v4 : Int32) (v5 : Int32) (Ma : Mem), FSR Ma → k_24 (some 181) v1 v2 v3 v4 v5 Ma = q_24 v1 v2 v3 v4 v5 Ma) (hF : FSR M) {v1 : Int32} {v2 : Int32} {v3 : Int32} {v4 : Int32} {v7 : Int32} : J_X11_does_225 rF k_24 (some 181) v1 v2 v3 v4 v7 M = SJ_X11_does_225 rS q_24 v1 v2 v3 v4 v7 M := by
  unfold J_X11_does_225 SJ_X11_does_225
  exact hk_24 _ _ _ _ _ _ hF
theorem keepJ_X11_does_225 {M : Mem} {z : Int32 × Mem} {rF : Option Nat → Int32 → Mem → Option (Int32 × Mem)} (hrK : ∀ (a0 : Option Nat) (a1 : Int32) (Ma : Mem) (w : Int32 × Mem), rF a0 a1 Ma = some w → KG Ma w.2) {k_24 : Option Nat → Int32 → Int32 → Int32 → Int32 → Int32 → Mem → Option (Int32 × Mem)} (hk_24 : ∀ (v0 : Option Nat) (v1 : Int32) (v2 : Int32) (v3 : Int32) (v4 : Int32) (v5 : Int32) (Ma : Mem), k_24 v0 v1 v2 v3 v4 v5 Ma = some z → KG Ma z.2) {v0 : Option Nat} {v1 : Int32} {v2 : Int32} {v3 : Int32} {v4 : Int32} {v7 : Int32} (h : J_X11_does_225 rF k_24 v0 v1 v2 v3 v4 v7 M = some z) : KG M z.2 := by
  unfold J_X11_does_225 at h
  have hg : KG M M := KG.rf
  exact hg.trans (hk_24 _ _ _ _ _ _ _ h)
def SJ_X11_does_196 (rS : Int32 → Mem → Option (Int32 × Mem)) (k_24 : Int32 → Int32 → Int32 → Int32 → Int32 → Mem → Option (Int32 × Mem)) (v1 : Int32) (v2 : Int32) (v3 : Int32) (v4 : Int32) (v6 : Int32) (v7 : Int32) (M : Mem) : Option (Int32 × Mem) :=
  if v6 = 0 then
  (SJ_X11_does_225 rS k_24 v1 v2 v3 v4 v7 M)
  else
  (if ¬ v4 = 0 then
  (gd (inb (((3 : Int32) * v1) + (v4 + (-1))) 90) (
  SJ_X11_does_225 rS k_24 v1 v2 v3 (v4 + (-1)) (gi M 221 (((3 : Int32) * v1) + (v4 + (-1))).toNatClampNeg) M))
  else
  (some (v6, M)))
theorem eqJ_X11_does_196 {M : Mem} {rF : Option Nat → Int32 → Mem → Option (Int32 × Mem)} {rS : Int32 → Mem → Option (Int32 × Mem)} (hrS : ∀ (a1 : Int32) (Ma : Mem), FSR Ma → rF (some 181) a1 Ma = rS a1 Ma) (hrK : ∀ (a0 : Option Nat) (a1 : Int32) (Ma : Mem) (w : Int32 × Mem), rF a0 a1 Ma = some w → KG Ma w.2) {k_24 : Option Nat → Int32 → Int32 → Int32 → Int32 → Int32 → Mem → Option (Int32 × Mem)} {q_24 : Int32 → Int32 → Int32 → Int32 → Int32 → Mem → Option (Int32 × Mem)} (hk_24 : ∀ (v1 : Int32) (v2 : Int32) (v3 : Int32) (v4 : Int32) (v5 : Int32) (Ma : Mem), FSR Ma → k_24 (some 181) v1 v2 v3 v4 v5 Ma = q_24 v1 v2 v3 v4 v5 Ma) (hF : FSR M) {v1 : Int32} {v2 : Int32} {v3 : Int32} {v4 : Int32} {v6 : Int32} {v7 : Int32} : J_X11_does_196 rF k_24 (some 181) v1 v2 v3 v4 v6 v7 M = SJ_X11_does_196 rS q_24 v1 v2 v3 v4 v6 v7 M := by
  unfold J_X11_does_196 SJ_X11_does_196
  refine itc (fun _ => ?_) (fun _ => ?_)
  · exact eqJ_X11_does_225 hrS hrK hk_24 hF
  · refine itc (fun _ => ?_) (fun _ => ?_)
    · refine (bi_fR (hF.kd 181) (hF.gr 72)).trans ?_
      refine (bi_aI (hF.kd 221) (hF.ln 221)).trans ?_
      refine gd_congr (fun _ => ?_)
      exact eqJ_X11_does_225 hrS hrK hk_24 hF
    · rfl
theorem keepJ_X11_does_196 {M : Mem} {z : Int32 × Mem} {rF : Option Nat → Int32 → Mem → Option (Int32 × Mem)} (hrK : ∀ (a0 : Option Nat) (a1 : Int32) (Ma : Mem) (w : Int32 × Mem), rF a0 a1 Ma = some w → KG Ma w.2) {k_24 : Option Nat → Int32 → Int32 → Int32 → Int32 → Int32 → Mem → Option (Int32 × Mem)} (hk_24 : ∀ (v0 : Option Nat) (v1 : Int32) (v2 : Int32) (v3 : Int32) (v4 : Int32) (v5 : Int32) (Ma : Mem), k_24 v0 v1 v2 v3 v4 v5 Ma = some z → KG Ma z.2) {v0 : Option Nat} {v1 : Int32} {v2 : Int32} {v3 : Int32} {v4 : Int32} {v6 : Int32} {v7 : Int32} (h : J_X11_does_196 rF k_24 v0 v1 v2 v3 v4 v6 v7 M = some z) : KG M z.2 := by
  unfold J_X11_does_196 at h
  have hg : KG M M := KG.rf
  rcases itor h with h | h
  · exact hg.trans (keepJ_X11_does_225 hrK hk_24 h)
  · rcases itor h with h | h
    · obtain ⟨_, -, h⟩ := bnd h
      obtain ⟨_, -, h⟩ := bnd h
      exact hg.trans (keepJ_X11_does_225 hrK hk_24 h)
    · cases h; exact hg
def SJ_X11_does_24 (rS : Int32 → Mem → Option (Int32 × Mem)) : Nat → Int32 → Int32 → Int32 → Int32 → Int32 → Mem → Option (Int32 × Mem)
  | 0 => fun _ _ _ _ _ _ => none
  | n + 1 => fun v1 v2 v3 v4 v5 M =>
  if v3 ≤ v5 then
  (some ((0 : Int32), M))
  else
  (gd (inb (v2 + v5) 7200) (
  if (gi M 204 (v2 + v5).toNatClampNeg) = 0 then
  (gd (inb (v2 + v5) 7200) (
  gd (inb (v2 + v5) 7200) (
  (S_X11_builds rS v1 (gi M 206 (v2 + v5).toNatClampNeg) (gi M 205 (v2 + v5).toNatClampNeg) M).bind fun w1 =>
  SJ_X11_does_196 rS (SJ_X11_does_24 rS n) v1 v2 v3 v4 w1.1 (v5 + (1 : Int32)) w1.2)))
  else
  if (gi M 204 (v2 + v5).toNatClampNeg) = 1 then
  (gd (inb (v2 + v5) 7200) (
  (S_X11_works rS v1 (gi M 205 (v2 + v5).toNatClampNeg) (0 : Int32) M).bind fun w2 =>
  if ¬ w2.1 = 0 then
  (SJ_X11_does_196 rS (SJ_X11_does_24 rS n) v1 v2 v3 v4 w2.1 (v5 + (1 : Int32)) w2.2)
  else
  (if ¬ (gl w2.2 181 71) = (0 : Int64) then
  (SJ_X11_does_196 rS (SJ_X11_does_24 rS n) v1 v2 v3 v4 w2.1 (v5 + (1 : Int32)) w2.2)
  else
  (gd (inb (v2 + v5) 7200) (
  SJ_X11_does_196 rS (SJ_X11_does_24 rS n) v1 v2 v3 v4 (gi w2.2 206 (v2 + v5).toNatClampNeg) (v5 + (1 : Int32)) w2.2)))))
  else
  if (gi M 204 (v2 + v5).toNatClampNeg) = 2 then
  (gd (inb (v2 + v5) 7200) (
  gd (inb (((3 : Int32) * v1) + v4) 90) (
  SJ_X11_does_196 rS (SJ_X11_does_24 rS n) v1 v2 v3 (v4 + 1) (0 : Int32) (v5 + (1 : Int32)) (si M 221 (((3 : Int32) * v1) + v4).toNatClampNeg (gi M 206 (v2 + v5).toNatClampNeg)))))
  else
  if (gi M 204 (v2 + v5).toNatClampNeg) = 3 then
  (gd (inb (v2 + v5) 7200) (
  SJ_X11_does_196 rS (SJ_X11_does_24 rS n) v1 v2 v3 (v4 + (-1)) (0 : Int32) (gi M 206 (v2 + v5).toNatClampNeg) M))
  else
  (SJ_X11_does_196 rS (SJ_X11_does_24 rS n) v1 v2 v3 v4 (0 : Int32) (v5 + (1 : Int32)) M)))
theorem eqJ_X11_does_24 {rF : Option Nat → Int32 → Mem → Option (Int32 × Mem)} {rS : Int32 → Mem → Option (Int32 × Mem)} (hrS : ∀ (a1 : Int32) (Ma : Mem), FSR Ma → rF (some 181) a1 Ma = rS a1 Ma) (hrK : ∀ (a0 : Option Nat) (a1 : Int32) (Ma : Mem) (w : Int32 × Mem), rF a0 a1 Ma = some w → KG Ma w.2) : ∀ (n : Nat) (v1 : Int32) (v2 : Int32) (v3 : Int32) (v4 : Int32) (v5 : Int32) (M : Mem), FSR M → J_X11_does_24 rF n (some 181) v1 v2 v3 v4 v5 M = SJ_X11_does_24 rS n v1 v2 v3 v4 v5 M := by
  intro n
  induction n with
  | zero => intro v1 v2 v3 v4 v5 M hF; rfl
  | succ n ih =>
    intro v1 v2 v3 v4 v5 M hF
    unfold J_X11_does_24 SJ_X11_does_24
    refine itc (fun _ => ?_) (fun _ => ?_)
    · rfl
    · refine (bi_fR (hF.kd 181) (hF.gr 46)).trans ?_
      refine (bi_aI (hF.kd 204) (hF.ln 204)).trans ?_
      refine gd_congr (fun _ => ?_)
      refine itc (fun _ => ?_) (fun _ => ?_)
      · refine (bi_fR (hF.kd 181) (hF.gr 48)).trans ?_
        refine (bi_aI (hF.kd 206) (hF.ln 206)).trans ?_
        refine gd_congr (fun _ => ?_)
        refine (bi_fR (hF.kd 181) (hF.gr 47)).trans ?_
        refine (bi_aI (hF.kd 205) (hF.ln 205)).trans ?_
        refine gd_congr (fun _ => ?_)
        refine (bi_ck (hF.kd 181)).trans ?_
        refine bdc (eqS_X11_builds hrS hrK hF) (fun w1 hw => ?_)
        have hF := hF.kg (keep_X11_builds hrK hw)
        exact eqJ_X11_does_196 hrS hrK ih hF
      refine itc (fun _ => ?_) (fun _ => ?_)
      · refine (bi_fR (hF.kd 181) (hF.gr 47)).trans ?_
        refine (bi_aI (hF.kd 205) (hF.ln 205)).trans ?_
        refine gd_congr (fun _ => ?_)
        refine (bi_ck (hF.kd 181)).trans ?_
        refine bdc (eqS_X11_works hrS hrK hF) (fun w2 hw => ?_)
        have hF := hF.kg (keep_X11_works hrK hw)
        refine itc (fun _ => ?_) (fun _ => ?_)
        · exact eqJ_X11_does_196 hrS hrK ih hF
        · refine (bi_fL (hF.kd 181)).trans ?_
          refine itc (fun _ => ?_) (fun _ => ?_)
          · exact eqJ_X11_does_196 hrS hrK ih hF
          · refine (bi_fR (hF.kd 181) (hF.gr 48)).trans ?_
            refine (bi_aI (hF.kd 206) (hF.ln 206)).trans ?_
            refine gd_congr (fun _ => ?_)
            exact eqJ_X11_does_196 hrS hrK ih hF
      refine itc (fun _ => ?_) (fun _ => ?_)
      · refine (bi_fR (hF.kd 181) (hF.gr 72)).trans ?_
        refine (bi_fR (hF.kd 181) (hF.gr 48)).trans ?_
        refine (bi_aI (hF.kd 206) (hF.ln 206)).trans ?_
        refine gd_congr (fun _ => ?_)
        refine (bi_uI (hF.kd 221) (hF.ln 221)).trans ?_
        refine gd_congr (fun _ => ?_)
        have hF : FSR (si M 221 (((3 : Int32) * v1) + v4).toNatClampNeg (gi M 206 (v2 + v5).toNatClampNeg)) := hF.kg ⟨rfl, rfl, rfl⟩
        exact eqJ_X11_does_196 hrS hrK ih hF
      refine itc (fun _ => ?_) (fun _ => ?_)
      · refine (bi_fR (hF.kd 181) (hF.gr 48)).trans ?_
        refine (bi_aI (hF.kd 206) (hF.ln 206)).trans ?_
        refine gd_congr (fun _ => ?_)
        exact eqJ_X11_does_196 hrS hrK ih hF
      exact eqJ_X11_does_196 hrS hrK ih hF
theorem keepJ_X11_does_24 {z : Int32 × Mem} {rF : Option Nat → Int32 → Mem → Option (Int32 × Mem)} (hrK : ∀ (a0 : Option Nat) (a1 : Int32) (Ma : Mem) (w : Int32 × Mem), rF a0 a1 Ma = some w → KG Ma w.2) : ∀ (n : Nat) (v0 : Option Nat) (v1 : Int32) (v2 : Int32) (v3 : Int32) (v4 : Int32) (v5 : Int32) (M : Mem), J_X11_does_24 rF n v0 v1 v2 v3 v4 v5 M = some z → KG M z.2 := by
  intro n
  induction n with
  | zero => intro v0 v1 v2 v3 v4 v5 M h; exact nomatch h
  | succ n ih =>
    intro v0 v1 v2 v3 v4 v5 M h
    unfold J_X11_does_24 at h
    have hg : KG M M := KG.rf
    rcases itor h with h | h
    · cases h; exact hg
    · obtain ⟨_, -, h⟩ := bnd h
      obtain ⟨_, -, h⟩ := bnd h
      rcases itor h with h | h
      · obtain ⟨_, -, h⟩ := bnd h
        obtain ⟨_, -, h⟩ := bnd h
        obtain ⟨_, -, h⟩ := bnd h
        obtain ⟨_, -, h⟩ := bnd h
        obtain ⟨_, -, h⟩ := bnd h
        obtain ⟨w1, hw, h⟩ := bnd h
        have hg := hg.trans (keep_X11_builds hrK hw)
        exact hg.trans (keepJ_X11_does_196 hrK ih h)
      rcases itor h with h | h
      · obtain ⟨_, -, h⟩ := bnd h
        obtain ⟨_, -, h⟩ := bnd h
        obtain ⟨_, -, h⟩ := bnd h
        obtain ⟨w2, hw, h⟩ := bnd h
        have hg := hg.trans (keep_X11_works hrK hw)
        rcases itor h with h | h
        · exact hg.trans (keepJ_X11_does_196 hrK ih h)
        · obtain ⟨_, -, h⟩ := bnd h
          rcases itor h with h | h
          · exact hg.trans (keepJ_X11_does_196 hrK ih h)
          · obtain ⟨_, -, h⟩ := bnd h
            obtain ⟨_, -, h⟩ := bnd h
            exact hg.trans (keepJ_X11_does_196 hrK ih h)
      rcases itor h with h | h
      · obtain ⟨_, -, h⟩ := bnd h
        obtain ⟨_, -, h⟩ := bnd h
        obtain ⟨_, -, h⟩ := bnd h
        obtain ⟨_, hw, h⟩ := bnd h
        have hg := hg.trans (kg_uI hw)
        exact hg.trans (keepJ_X11_does_196 hrK ih h)
      rcases itor h with h | h
      · obtain ⟨_, -, h⟩ := bnd h
        obtain ⟨_, -, h⟩ := bnd h
        exact hg.trans (keepJ_X11_does_196 hrK ih h)
      exact hg.trans (keepJ_X11_does_196 hrK ih h)
def S_X11_does (rS : Int32 → Mem → Option (Int32 × Mem)) (v1 : Int32) (M : Mem) : Option (Int32 × Mem) :=
  gd (inb ((30 : Int32) + v1) 60) (
  SJ_X11_does_24 rS FU v1 ((120 : Int32) * ((30 : Int32) + v1)) (gi M 203 ((30 : Int32) + v1).toNatClampNeg) (0 : Int32) (0 : Int32) M)
theorem eqS_X11_does {M : Mem} {rF : Option Nat → Int32 → Mem → Option (Int32 × Mem)} {rS : Int32 → Mem → Option (Int32 × Mem)} (hrS : ∀ (a1 : Int32) (Ma : Mem), FSR Ma → rF (some 181) a1 Ma = rS a1 Ma) (hrK : ∀ (a0 : Option Nat) (a1 : Int32) (Ma : Mem) (w : Int32 × Mem), rF a0 a1 Ma = some w → KG Ma w.2) (hF : FSR M) {v1 : Int32} : L_X11_does rF (some 181) v1 M = S_X11_does rS v1 M := by
  unfold L_X11_does S_X11_does
  refine (bi_fR (hF.kd 181) (hF.gr 45)).trans ?_
  refine (bi_aI (hF.kd 203) (hF.ln 203)).trans ?_
  refine gd_congr (fun _ => ?_)
  exact eqJ_X11_does_24 hrS hrK FU _ _ _ _ _ _ hF
theorem keep_X11_does {M : Mem} {z : Int32 × Mem} {rF : Option Nat → Int32 → Mem → Option (Int32 × Mem)} (hrK : ∀ (a0 : Option Nat) (a1 : Int32) (Ma : Mem) (w : Int32 × Mem), rF a0 a1 Ma = some w → KG Ma w.2) {v0 : Option Nat} {v1 : Int32} (h : L_X11_does rF v0 v1 M = some z) : KG M z.2 := by
  unfold L_X11_does at h
  have hg : KG M M := KG.rf
  obtain ⟨_, -, h⟩ := bnd h
  obtain ⟨_, -, h⟩ := bnd h
  exact hg.trans (keepJ_X11_does_24 hrK FU _ _ _ _ _ _ _ h)
def SJ_X11_needs_147 (rS : Int32 → Mem → Option (Int32 × Mem)) (v1 : Int32) (v2 : Int32) (s1 : Int32) (s2 : Int32) (M : Mem) : Option (Int32 × Mem) :=
  gd (inb s1 30) (
  gd (inb v1 30) (
  some (v2, si (si M 212 s1.toNatClampNeg s2) 214 v1.toNatClampNeg v2)))
theorem eqJ_X11_needs_147 {M : Mem} {rF : Option Nat → Int32 → Mem → Option (Int32 × Mem)} {rS : Int32 → Mem → Option (Int32 × Mem)} (hrS : ∀ (a1 : Int32) (Ma : Mem), FSR Ma → rF (some 181) a1 Ma = rS a1 Ma) (hrK : ∀ (a0 : Option Nat) (a1 : Int32) (Ma : Mem) (w : Int32 × Mem), rF a0 a1 Ma = some w → KG Ma w.2) (hF : FSR M) {v1 : Int32} {v2 : Int32} {s1 : Int32} {s2 : Int32} : J_X11_needs_147 rF (some 181) v1 v2 (some 212) s1 s2 M = SJ_X11_needs_147 rS v1 v2 s1 s2 M := by
  unfold J_X11_needs_147 SJ_X11_needs_147
  refine (bi_uI (hF.kd 212) (hF.ln 212)).trans ?_
  refine gd_congr (fun _ => ?_)
  have hF : FSR (si M 212 s1.toNatClampNeg s2) := hF.kg ⟨rfl, rfl, rfl⟩
  refine (bi_fR (hF.kd 181) (hF.gr 56)).trans ?_
  refine (bi_uI (hF.kd 214) (hF.ln 214)).trans ?_
  refine gd_congr (fun _ => ?_)
  have hF : FSR (si (si M 212 s1.toNatClampNeg s2) 214 v1.toNatClampNeg v2) := hF.kg ⟨rfl, rfl, rfl⟩
  rfl
theorem keepJ_X11_needs_147 {M : Mem} {z : Int32 × Mem} {rF : Option Nat → Int32 → Mem → Option (Int32 × Mem)} (hrK : ∀ (a0 : Option Nat) (a1 : Int32) (Ma : Mem) (w : Int32 × Mem), rF a0 a1 Ma = some w → KG Ma w.2) {v0 : Option Nat} {v1 : Int32} {v2 : Int32} {s0 : Option Nat} {s1 : Int32} {s2 : Int32} (h : J_X11_needs_147 rF v0 v1 v2 s0 s1 s2 M = some z) : KG M z.2 := by
  unfold J_X11_needs_147 at h
  have hg : KG M M := KG.rf
  obtain ⟨_, hw, h⟩ := bnd h
  have hg := hg.trans (kg_uI hw)
  obtain ⟨_, -, h⟩ := bnd h
  obtain ⟨_, hw, h⟩ := bnd h
  have hg := hg.trans (kg_uI hw)
  cases h; exact hg
def SJ_X11_needs_133 (rS : Int32 → Mem → Option (Int32 × Mem)) (v1 : Int32) (v2 : Int32) (M : Mem) : Option (Int32 × Mem) :=
  if ¬ v2 = 0 then
  (SJ_X11_needs_147 rS v1 v2 v1 (3 : Int32) M)
  else
  (SJ_X11_needs_147 rS v1 v2 v1 (2 : Int32) M)
theorem eqJ_X11_needs_133 {M : Mem} {rF : Option Nat → Int32 → Mem → Option (Int32 × Mem)} {rS : Int32 → Mem → Option (Int32 × Mem)} (hrS : ∀ (a1 : Int32) (Ma : Mem), FSR Ma → rF (some 181) a1 Ma = rS a1 Ma) (hrK : ∀ (a0 : Option Nat) (a1 : Int32) (Ma : Mem) (w : Int32 × Mem), rF a0 a1 Ma = some w → KG Ma w.2) (hF : FSR M) {v1 : Int32} {v2 : Int32} : J_X11_needs_133 rF (some 181) v1 v2 M = SJ_X11_needs_133 rS v1 v2 M := by
  unfold J_X11_needs_133 SJ_X11_needs_133
  refine (bi_fR (hF.kd 181) (hF.gr 54)).trans ?_
  refine itc (fun _ => ?_) (fun _ => ?_)
  · exact eqJ_X11_needs_147 hrS hrK hF
  · exact eqJ_X11_needs_147 hrS hrK hF
theorem keepJ_X11_needs_133 {M : Mem} {z : Int32 × Mem} {rF : Option Nat → Int32 → Mem → Option (Int32 × Mem)} (hrK : ∀ (a0 : Option Nat) (a1 : Int32) (Ma : Mem) (w : Int32 × Mem), rF a0 a1 Ma = some w → KG Ma w.2) {v0 : Option Nat} {v1 : Int32} {v2 : Int32} (h : J_X11_needs_133 rF v0 v1 v2 M = some z) : KG M z.2 := by
  unfold J_X11_needs_133 at h
  have hg : KG M M := KG.rf
  obtain ⟨_, -, h⟩ := bnd h
  rcases itor h with h | h
  · exact hg.trans (keepJ_X11_needs_147 hrK h)
  · exact hg.trans (keepJ_X11_needs_147 hrK h)
def SJ_X11_needs_122 (rS : Int32 → Mem → Option (Int32 × Mem)) (v1 : Int32) (s0 : Int32) (M : Mem) : Option (Int32 × Mem) :=
  if ¬ s0 = 0 then
  (SJ_X11_needs_133 rS v1 s0 M)
  else
  ((S_X11_does rS v1 M).bind fun w1 =>
  SJ_X11_needs_133 rS v1 w1.1 w1.2)
theorem eqJ_X11_needs_122 {M : Mem} {rF : Option Nat → Int32 → Mem → Option (Int32 × Mem)} {rS : Int32 → Mem → Option (Int32 × Mem)} (hrS : ∀ (a1 : Int32) (Ma : Mem), FSR Ma → rF (some 181) a1 Ma = rS a1 Ma) (hrK : ∀ (a0 : Option Nat) (a1 : Int32) (Ma : Mem) (w : Int32 × Mem), rF a0 a1 Ma = some w → KG Ma w.2) (hF : FSR M) {v1 : Int32} {s0 : Int32} : J_X11_needs_122 rF (some 181) v1 s0 M = SJ_X11_needs_122 rS v1 s0 M := by
  unfold J_X11_needs_122 SJ_X11_needs_122
  refine itc (fun _ => ?_) (fun _ => ?_)
  · exact eqJ_X11_needs_133 hrS hrK hF
  · refine (bi_ck (hF.kd 181)).trans ?_
    refine bdc (eqS_X11_does hrS hrK hF) (fun w1 hw => ?_)
    have hF := hF.kg (keep_X11_does hrK hw)
    exact eqJ_X11_needs_133 hrS hrK hF
theorem keepJ_X11_needs_122 {M : Mem} {z : Int32 × Mem} {rF : Option Nat → Int32 → Mem → Option (Int32 × Mem)} (hrK : ∀ (a0 : Option Nat) (a1 : Int32) (Ma : Mem) (w : Int32 × Mem), rF a0 a1 Ma = some w → KG Ma w.2) {v0 : Option Nat} {v1 : Int32} {s0 : Int32} (h : J_X11_needs_122 rF v0 v1 s0 M = some z) : KG M z.2 := by
  unfold J_X11_needs_122 at h
  have hg : KG M M := KG.rf
  rcases itor h with h | h
  · exact hg.trans (keepJ_X11_needs_133 hrK h)
  · obtain ⟨_, -, h⟩ := bnd h
    obtain ⟨w1, hw, h⟩ := bnd h
    have hg := hg.trans (keep_X11_does hrK hw)
    exact hg.trans (keepJ_X11_needs_133 hrK h)
def SJ_X11_needs_83 (rS : Int32 → Mem → Option (Int32 × Mem)) (v1 : Int32) (M : Mem) : Option (Int32 × Mem) :=
  gd (inb ((30 : Int32) + v1) 60) (
  if (gi (si M 181 66 ((gi M 181 66) + (1 : Int32))) 195 ((30 : Int32) + v1).toNatClampNeg) < 0 then
  (SJ_X11_needs_122 rS v1 (0 : Int32) (si M 181 66 ((gi M 181 66) + (1 : Int32))))
  else
  (gd (inb ((30 : Int32) + v1) 60) (
  (rS (gi (si M 181 66 ((gi M 181 66) + (1 : Int32))) 195 ((30 : Int32) + v1).toNatClampNeg) (si M 181 66 ((gi M 181 66) + (1 : Int32)))).bind fun w2 =>
  SJ_X11_needs_122 rS v1 w2.1 w2.2)))
theorem eqJ_X11_needs_83 {M : Mem} {rF : Option Nat → Int32 → Mem → Option (Int32 × Mem)} {rS : Int32 → Mem → Option (Int32 × Mem)} (hrS : ∀ (a1 : Int32) (Ma : Mem), FSR Ma → rF (some 181) a1 Ma = rS a1 Ma) (hrK : ∀ (a0 : Option Nat) (a1 : Int32) (Ma : Mem) (w : Int32 × Mem), rF a0 a1 Ma = some w → KG Ma w.2) (hF : FSR M) {v1 : Int32} : J_X11_needs_83 rF (some 181) v1 M = SJ_X11_needs_83 rS v1 M := by
  unfold J_X11_needs_83 SJ_X11_needs_83
  refine (bi_fI (hF.kd 181)).trans ?_
  refine (bi_pI (hF.kd 181)).trans ?_
  have hF : FSR (si M 181 66 ((gi M 181 66) + (1 : Int32))) := hF.kg ⟨rfl, rfl, rfl⟩
  refine (bi_fR (hF.kd 181) (hF.gr 37)).trans ?_
  refine (bi_aI (hF.kd 195) (hF.ln 195)).trans ?_
  refine gd_congr (fun _ => ?_)
  refine itc (fun _ => ?_) (fun _ => ?_)
  · exact eqJ_X11_needs_122 hrS hrK hF
  · refine (bi_fR (hF.kd 181) (hF.gr 37)).trans ?_
    refine (bi_aI (hF.kd 195) (hF.ln 195)).trans ?_
    refine gd_congr (fun _ => ?_)
    refine (bi_ck (hF.kd 181)).trans ?_
    refine bdc (hrS _ _ hF) (fun w2 hw => ?_)
    have hF := hF.kg (hrK _ _ _ _ hw)
    exact eqJ_X11_needs_122 hrS hrK hF
theorem keepJ_X11_needs_83 {M : Mem} {z : Int32 × Mem} {rF : Option Nat → Int32 → Mem → Option (Int32 × Mem)} (hrK : ∀ (a0 : Option Nat) (a1 : Int32) (Ma : Mem) (w : Int32 × Mem), rF a0 a1 Ma = some w → KG Ma w.2) {v0 : Option Nat} {v1 : Int32} (h : J_X11_needs_83 rF v0 v1 M = some z) : KG M z.2 := by
  unfold J_X11_needs_83 at h
  have hg : KG M M := KG.rf
  obtain ⟨_, -, h⟩ := bnd h
  obtain ⟨_, hw, h⟩ := bnd h
  have hg := hg.trans (kg_pI hw)
  obtain ⟨_, -, h⟩ := bnd h
  obtain ⟨_, -, h⟩ := bnd h
  rcases itor h with h | h
  · exact hg.trans (keepJ_X11_needs_122 hrK h)
  · obtain ⟨_, -, h⟩ := bnd h
    obtain ⟨_, -, h⟩ := bnd h
    obtain ⟨_, -, h⟩ := bnd h
    obtain ⟨w2, hw, h⟩ := bnd h
    have hg := hg.trans (hrK _ _ _ _ hw)
    exact hg.trans (keepJ_X11_needs_122 hrK h)
def SB_X11_needs (rS : Int32 → Mem → Option (Int32 × Mem)) (v1 : Int32) (M : Mem) : Option (Int32 × Mem) :=
  gd (inb ((30 : Int32) + v1) 60) (
  if ¬ (gi M 194 ((30 : Int32) + v1).toNatClampNeg) = 0 then
  (gd (inb v1 30) (
  if (gi M 212 v1.toNatClampNeg) = (2 : Int32) then
  (some ((0 : Int32), M))
  else
  (gd (inb v1 30) (
  if ¬ (gi M 212 v1.toNatClampNeg) = (4 : Int32) then
  (gd (inb v1 30) (
  if ¬ (gi M 212 v1.toNatClampNeg) = (3 : Int32) then
  (gd (inb v1 30) (
  if (300 : Int32) ≤ (gi (si M 212 v1.toNatClampNeg (4 : Int32)) 181 66) then
  (SJ_X11_needs_83 rS v1 (si M 212 v1.toNatClampNeg (4 : Int32)))
  else
  (gd (inb (gi (si M 212 v1.toNatClampNeg (4 : Int32)) 181 66) 300) (
  SJ_X11_needs_83 rS v1 (si (si M 212 v1.toNatClampNeg (4 : Int32)) 220 (gi (si M 212 v1.toNatClampNeg (4 : Int32)) 181 66).toNatClampNeg ((1700 : Int32) + v1))))))
  else
  (some ((804 : Int32), M))))
  else
  (some ((0 : Int32), M))))))
  else
  (some ((803 : Int32), M)))
theorem eqB_X11_needs {M : Mem} {rF : Option Nat → Int32 → Mem → Option (Int32 × Mem)} {rS : Int32 → Mem → Option (Int32 × Mem)} (hrS : ∀ (a1 : Int32) (Ma : Mem), FSR Ma → rF (some 181) a1 Ma = rS a1 Ma) (hrK : ∀ (a0 : Option Nat) (a1 : Int32) (Ma : Mem) (w : Int32 × Mem), rF a0 a1 Ma = some w → KG Ma w.2) (hF : FSR M) {v1 : Int32} : B_X11_needs rF (some 181) v1 M = SB_X11_needs rS v1 M := by
  unfold B_X11_needs SB_X11_needs
  refine (bi_fR (hF.kd 181) (hF.gr 36)).trans ?_
  refine (bi_aI (hF.kd 194) (hF.ln 194)).trans ?_
  refine gd_congr (fun _ => ?_)
  refine itc (fun _ => ?_) (fun _ => ?_)
  · refine (bi_fR (hF.kd 181) (hF.gr 54)).trans ?_
    refine (bi_aI (hF.kd 212) (hF.ln 212)).trans ?_
    refine gd_congr (fun _ => ?_)
    refine itc (fun _ => ?_) (fun _ => ?_)
    · rfl
    · refine (bi_fR (hF.kd 181) (hF.gr 54)).trans ?_
      refine (bi_aI (hF.kd 212) (hF.ln 212)).trans ?_
      refine gd_congr (fun _ => ?_)
      refine itc (fun _ => ?_) (fun _ => ?_)
      · refine (bi_fR (hF.kd 181) (hF.gr 54)).trans ?_
        refine (bi_aI (hF.kd 212) (hF.ln 212)).trans ?_
        refine gd_congr (fun _ => ?_)
        refine itc (fun _ => ?_) (fun _ => ?_)
        · refine (bi_fR (hF.kd 181) (hF.gr 54)).trans ?_
          refine (bi_uI (hF.kd 212) (hF.ln 212)).trans ?_
          refine gd_congr (fun _ => ?_)
          have hF : FSR (si M 212 v1.toNatClampNeg (4 : Int32)) := hF.kg ⟨rfl, rfl, rfl⟩
          refine (bi_fI (hF.kd 181)).trans ?_
          refine itc (fun _ => ?_) (fun _ => ?_)
          · exact eqJ_X11_needs_83 hrS hrK hF
          · refine (bi_fR (hF.kd 181) (hF.gr 65)).trans ?_
            refine (bi_fI (hF.kd 181)).trans ?_
            refine (bi_uI (hF.kd 220) (hF.ln 220)).trans ?_
            refine gd_congr (fun _ => ?_)
            have hF : FSR (si (si M 212 v1.toNatClampNeg (4 : Int32)) 220 (gi (si M 212 v1.toNatClampNeg (4 : Int32)) 181 66).toNatClampNeg ((1700 : Int32) + v1)) := hF.kg ⟨rfl, rfl, rfl⟩
            exact eqJ_X11_needs_83 hrS hrK hF
        · rfl
      · rfl
  · rfl
theorem keepB_X11_needs {M : Mem} {z : Int32 × Mem} {rF : Option Nat → Int32 → Mem → Option (Int32 × Mem)} (hrK : ∀ (a0 : Option Nat) (a1 : Int32) (Ma : Mem) (w : Int32 × Mem), rF a0 a1 Ma = some w → KG Ma w.2) {v0 : Option Nat} {v1 : Int32} (h : B_X11_needs rF v0 v1 M = some z) : KG M z.2 := by
  unfold B_X11_needs at h
  have hg : KG M M := KG.rf
  obtain ⟨_, -, h⟩ := bnd h
  obtain ⟨_, -, h⟩ := bnd h
  rcases itor h with h | h
  · obtain ⟨_, -, h⟩ := bnd h
    obtain ⟨_, -, h⟩ := bnd h
    rcases itor h with h | h
    · cases h; exact hg
    · obtain ⟨_, -, h⟩ := bnd h
      obtain ⟨_, -, h⟩ := bnd h
      rcases itor h with h | h
      · obtain ⟨_, -, h⟩ := bnd h
        obtain ⟨_, -, h⟩ := bnd h
        rcases itor h with h | h
        · obtain ⟨_, -, h⟩ := bnd h
          obtain ⟨_, hw, h⟩ := bnd h
          have hg := hg.trans (kg_uI hw)
          obtain ⟨_, -, h⟩ := bnd h
          rcases itor h with h | h
          · exact hg.trans (keepJ_X11_needs_83 hrK h)
          · obtain ⟨_, -, h⟩ := bnd h
            obtain ⟨_, -, h⟩ := bnd h
            obtain ⟨_, hw, h⟩ := bnd h
            have hg := hg.trans (kg_uI hw)
            exact hg.trans (keepJ_X11_needs_83 hrK h)
        · cases h; exact hg
      · cases h; exact hg
  · cases h; exact hg
theorem keep_X11_needs : ∀ (n : Nat) {M : Mem} {z : Int32 × Mem} {v0 : Option Nat} {v1 : Int32} (h : L_X11_needs n v0 v1 M = some z), KG M z.2
  | 0 => fun h => nomatch h
  | n + 1 => fun h => keepB_X11_needs (rF := L_X11_needs n) (fun _ _ _ _ h => keep_X11_needs n h) h
def S_X11_needs : Nat → Int32 → Mem → Option (Int32 × Mem)
  | 0 => fun _ _ => none
  | n + 1 => SB_X11_needs (S_X11_needs n)
theorem eqS_X11_needs : ∀ (n : Nat) {M : Mem} (hF : FSR M) {v1 : Int32} , L_X11_needs n (some 181) v1 M = S_X11_needs n v1 M
  | 0 => fun _ => rfl
  | n + 1 => fun hF => eqB_X11_needs (rF := L_X11_needs n) (rS := S_X11_needs n) (fun _ _ hF => eqS_X11_needs n hF) (fun _ _ _ _ h => keep_X11_needs n h) hF
def S_X11_need (v1 : Int32) (M : Mem) : Option (Int32 × Mem) :=
  (L_X11_isYear v1 M).bind fun w1 =>
  if w1.1 = 0 then
  (some ((-1 : Int32), w1.2))
  else
  ((S_X11_needs 32 (v1 - (1700 : Int32)) w1.2).bind fun w2 =>
  some (w2.1, w2.2))
theorem eqS_X11_need {M : Mem} (hF : FSR M) {v1 : Int32} : L_X11_need (some 181) v1 M = S_X11_need v1 M := by
  unfold L_X11_need S_X11_need
  refine bdc rfl (fun w1 hw => ?_)
  have hF := hF.kg (keep_X11_isYear hw)
  refine itc (fun _ => ?_) (fun _ => ?_)
  · rfl
  · refine (bi_ck (hF.kd 181)).trans ?_
    refine bdc (eqS_X11_needs 32 hF) (fun w2 hw => ?_)
    have hF := hF.kg (keep_X11_needs 32 hw)
    rfl
theorem keep_X11_need {M : Mem} {z : Int32 × Mem} {v0 : Option Nat} {v1 : Int32} (h : L_X11_need v0 v1 M = some z) : KG M z.2 := by
  unfold L_X11_need at h
  have hg : KG M M := KG.rf
  obtain ⟨w1, hw, h⟩ := bnd h
  have hg := hg.trans (keep_X11_isYear hw)
  rcases itor h with h | h
  · cases h; exact hg
  · obtain ⟨_, -, h⟩ := bnd h
    obtain ⟨w2, hw, h⟩ := bnd h
    have hg := hg.trans (keep_X11_needs 32 hw)
    cases h; exact hg
def SJ_X11_started_21 (v1 : Int32) (s0 : Int32) (s1 : Int32) (M : Mem) : Option (Int32 × Mem) :=
  (L_X11_isIn s0 s1 M).bind fun w1 =>
  if w1.1 = 0 then
  (some ((-1 : Int32), w1.2))
  else
  (gd (inb v1 300) (
  some (gi w1.2 220 v1.toNatClampNeg, w1.2)))
theorem eqJ_X11_started_21 {M : Mem} (hF : FSR M) {v1 : Int32} {s0 : Int32} {s1 : Int32} : J_X11_started_21 (some 181) v1 s0 s1 M = SJ_X11_started_21 v1 s0 s1 M := by
  unfold J_X11_started_21 SJ_X11_started_21
  refine bdc rfl (fun w1 hw => ?_)
  have hF := hF.kg (keep_X11_isIn hw)
  refine itc (fun _ => ?_) (fun _ => ?_)
  · rfl
  · refine (bi_fR (hF.kd 181) (hF.gr 65)).trans ?_
    refine (bi_aI (hF.kd 220) (hF.ln 220)).trans ?_
    refine gd_congr (fun _ => ?_)
    rfl
theorem keepJ_X11_started_21 {M : Mem} {z : Int32 × Mem} {v0 : Option Nat} {v1 : Int32} {s0 : Int32} {s1 : Int32} (h : J_X11_started_21 v0 v1 s0 s1 M = some z) : KG M z.2 := by
  unfold J_X11_started_21 at h
  have hg : KG M M := KG.rf
  obtain ⟨w1, hw, h⟩ := bnd h
  have hg := hg.trans (keep_X11_isIn hw)
  rcases itor h with h | h
  · cases h; exact hg
  · obtain ⟨_, -, h⟩ := bnd h
    obtain ⟨_, -, h⟩ := bnd h
    cases h; exact hg
def S_X11_started (v1 : Int32) (M : Mem) : Option (Int32 × Mem) :=
  if (300 : Int32) ≤ (gi M 181 66) then
  (SJ_X11_started_21 v1 v1 (300 : Int32) M)
  else
  (SJ_X11_started_21 v1 v1 (gi M 181 66) M)
theorem eqS_X11_started {M : Mem} (hF : FSR M) {v1 : Int32} : L_X11_started (some 181) v1 M = S_X11_started v1 M := by
  unfold L_X11_started S_X11_started
  refine (bi_fI (hF.kd 181)).trans ?_
  refine itc (fun _ => ?_) (fun _ => ?_)
  · exact eqJ_X11_started_21 hF
  · refine (bi_fI (hF.kd 181)).trans ?_
    exact eqJ_X11_started_21 hF
theorem keep_X11_started {M : Mem} {z : Int32 × Mem} {v0 : Option Nat} {v1 : Int32} (h : L_X11_started v0 v1 M = some z) : KG M z.2 := by
  unfold L_X11_started at h
  have hg : KG M M := KG.rf
  obtain ⟨_, -, h⟩ := bnd h
  rcases itor h with h | h
  · exact hg.trans (keepJ_X11_started_21 h)
  · obtain ⟨_, -, h⟩ := bnd h
    exact hg.trans (keepJ_X11_started_21 h)
def S_X11_voyage (v1 : Int32) (v2 : Int32) (M : Mem) : Option (Int32 × Mem) :=
  if (gi M 181 73) = (20 : Int32) then
  (some ((-1 : Int32), M))
  else
  ((L_X11_isIn v1 (100001 : Int32) M).bind fun w1 =>
  if w1.1 = 0 then
  (some ((-1 : Int32), w1.2))
  else
  ((L_X11_isIn v2 (10 : Int32) w1.2).bind fun w2 =>
  if ¬ w2.1 = 0 then
  (gd (inb (gi w2.2 181 73) 20) (
  gd (inb (gi (si w2.2 222 (gi w2.2 181 73).toNatClampNeg v1) 181 73) 20) (
  gd (inb (gi (si (si w2.2 222 (gi w2.2 181 73).toNatClampNeg v1) 223 (gi (si w2.2 222 (gi w2.2 181 73).toNatClampNeg v1) 181 73).toNatClampNeg v2) 181 73) 20) (
  some ((gi (si (si (si (si w2.2 222 (gi w2.2 181 73).toNatClampNeg v1) 223 (gi (si w2.2 222 (gi w2.2 181 73).toNatClampNeg v1) 181 73).toNatClampNeg v2) 228 (gi (si (si w2.2 222 (gi w2.2 181 73).toNatClampNeg v1) 223 (gi (si w2.2 222 (gi w2.2 181 73).toNatClampNeg v1) 181 73).toNatClampNeg v2) 181 73).toNatClampNeg (-1 : Int32)) 181 73 ((gi (si (si (si w2.2 222 (gi w2.2 181 73).toNatClampNeg v1) 223 (gi (si w2.2 222 (gi w2.2 181 73).toNatClampNeg v1) 181 73).toNatClampNeg v2) 228 (gi (si (si w2.2 222 (gi w2.2 181 73).toNatClampNeg v1) 223 (gi (si w2.2 222 (gi w2.2 181 73).toNatClampNeg v1) 181 73).toNatClampNeg v2) 181 73).toNatClampNeg (-1 : Int32)) 181 73) + (1 : Int32))) 181 73) - (1 : Int32), si (si (si (si w2.2 222 (gi w2.2 181 73).toNatClampNeg v1) 223 (gi (si w2.2 222 (gi w2.2 181 73).toNatClampNeg v1) 181 73).toNatClampNeg v2) 228 (gi (si (si w2.2 222 (gi w2.2 181 73).toNatClampNeg v1) 223 (gi (si w2.2 222 (gi w2.2 181 73).toNatClampNeg v1) 181 73).toNatClampNeg v2) 181 73).toNatClampNeg (-1 : Int32)) 181 73 ((gi (si (si (si w2.2 222 (gi w2.2 181 73).toNatClampNeg v1) 223 (gi (si w2.2 222 (gi w2.2 181 73).toNatClampNeg v1) 181 73).toNatClampNeg v2) 228 (gi (si (si w2.2 222 (gi w2.2 181 73).toNatClampNeg v1) 223 (gi (si w2.2 222 (gi w2.2 181 73).toNatClampNeg v1) 181 73).toNatClampNeg v2) 181 73).toNatClampNeg (-1 : Int32)) 181 73) + (1 : Int32)))))))
  else
  (some ((-1 : Int32), w2.2))))
theorem eqS_X11_voyage {M : Mem} (hF : FSR M) {v1 : Int32} {v2 : Int32} : L_X11_voyage (some 181) v1 v2 M = S_X11_voyage v1 v2 M := by
  unfold L_X11_voyage S_X11_voyage
  refine (bi_fI (hF.kd 181)).trans ?_
  refine itc (fun _ => ?_) (fun _ => ?_)
  · rfl
  · refine bdc rfl (fun w1 hw => ?_)
    have hF := hF.kg (keep_X11_isIn hw)
    refine itc (fun _ => ?_) (fun _ => ?_)
    · rfl
    · refine bdc rfl (fun w2 hw => ?_)
      have hF := hF.kg (keep_X11_isIn hw)
      refine itc (fun _ => ?_) (fun _ => ?_)
      · refine (bi_fR (hF.kd 181) (hF.gr 74)).trans ?_
        refine (bi_fI (hF.kd 181)).trans ?_
        refine (bi_uI (hF.kd 222) (hF.ln 222)).trans ?_
        refine gd_congr (fun _ => ?_)
        have hF : FSR (si w2.2 222 (gi w2.2 181 73).toNatClampNeg v1) := hF.kg ⟨rfl, rfl, rfl⟩
        refine (bi_fR (hF.kd 181) (hF.gr 75)).trans ?_
        refine (bi_fI (hF.kd 181)).trans ?_
        refine (bi_uI (hF.kd 223) (hF.ln 223)).trans ?_
        refine gd_congr (fun _ => ?_)
        have hF : FSR (si (si w2.2 222 (gi w2.2 181 73).toNatClampNeg v1) 223 (gi (si w2.2 222 (gi w2.2 181 73).toNatClampNeg v1) 181 73).toNatClampNeg v2) := hF.kg ⟨rfl, rfl, rfl⟩
        refine (bi_fR (hF.kd 181) (hF.gr 80)).trans ?_
        refine (bi_fI (hF.kd 181)).trans ?_
        refine (bi_uI (hF.kd 228) (hF.ln 228)).trans ?_
        refine gd_congr (fun _ => ?_)
        have hF : FSR (si (si (si w2.2 222 (gi w2.2 181 73).toNatClampNeg v1) 223 (gi (si w2.2 222 (gi w2.2 181 73).toNatClampNeg v1) 181 73).toNatClampNeg v2) 228 (gi (si (si w2.2 222 (gi w2.2 181 73).toNatClampNeg v1) 223 (gi (si w2.2 222 (gi w2.2 181 73).toNatClampNeg v1) 181 73).toNatClampNeg v2) 181 73).toNatClampNeg (-1 : Int32)) := hF.kg ⟨rfl, rfl, rfl⟩
        refine (bi_fI (hF.kd 181)).trans ?_
        refine (bi_pI (hF.kd 181)).trans ?_
        have hF : FSR (si (si (si (si w2.2 222 (gi w2.2 181 73).toNatClampNeg v1) 223 (gi (si w2.2 222 (gi w2.2 181 73).toNatClampNeg v1) 181 73).toNatClampNeg v2) 228 (gi (si (si w2.2 222 (gi w2.2 181 73).toNatClampNeg v1) 223 (gi (si w2.2 222 (gi w2.2 181 73).toNatClampNeg v1) 181 73).toNatClampNeg v2) 181 73).toNatClampNeg (-1 : Int32)) 181 73 ((gi (si (si (si w2.2 222 (gi w2.2 181 73).toNatClampNeg v1) 223 (gi (si w2.2 222 (gi w2.2 181 73).toNatClampNeg v1) 181 73).toNatClampNeg v2) 228 (gi (si (si w2.2 222 (gi w2.2 181 73).toNatClampNeg v1) 223 (gi (si w2.2 222 (gi w2.2 181 73).toNatClampNeg v1) 181 73).toNatClampNeg v2) 181 73).toNatClampNeg (-1 : Int32)) 181 73) + (1 : Int32))) := hF.kg ⟨rfl, rfl, rfl⟩
        refine (bi_fI (hF.kd 181)).trans ?_
        rfl
      · rfl
theorem keep_X11_voyage {M : Mem} {z : Int32 × Mem} {v0 : Option Nat} {v1 : Int32} {v2 : Int32} (h : L_X11_voyage v0 v1 v2 M = some z) : KG M z.2 := by
  unfold L_X11_voyage at h
  have hg : KG M M := KG.rf
  obtain ⟨_, -, h⟩ := bnd h
  rcases itor h with h | h
  · cases h; exact hg
  · obtain ⟨w1, hw, h⟩ := bnd h
    have hg := hg.trans (keep_X11_isIn hw)
    rcases itor h with h | h
    · cases h; exact hg
    · obtain ⟨w2, hw, h⟩ := bnd h
      have hg := hg.trans (keep_X11_isIn hw)
      rcases itor h with h | h
      · obtain ⟨_, -, h⟩ := bnd h
        obtain ⟨_, -, h⟩ := bnd h
        obtain ⟨_, hw, h⟩ := bnd h
        have hg := hg.trans (kg_uI hw)
        obtain ⟨_, -, h⟩ := bnd h
        obtain ⟨_, -, h⟩ := bnd h
        obtain ⟨_, hw, h⟩ := bnd h
        have hg := hg.trans (kg_uI hw)
        obtain ⟨_, -, h⟩ := bnd h
        obtain ⟨_, -, h⟩ := bnd h
        obtain ⟨_, hw, h⟩ := bnd h
        have hg := hg.trans (kg_uI hw)
        obtain ⟨_, -, h⟩ := bnd h
        obtain ⟨_, hw, h⟩ := bnd h
        have hg := hg.trans (kg_pI hw)
        obtain ⟨_, -, h⟩ := bnd h
        cases h; exact hg
      · cases h; exact hg
