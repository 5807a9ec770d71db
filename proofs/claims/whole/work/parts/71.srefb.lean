def SJ_X11_isTaken_42 (k_5 : Int64 → Int32 → Int32 → Mem → Option (Int32 × Mem)) (v1 : Int64) (v4 : Int32) (s0 : Int32) (M : Mem) : Option (Int32 × Mem) :=
  k_5 v1 s0 (v4 + 1) M
theorem eqJ_X11_isTaken_42 {M : Mem} {k_5 : Option Nat → Int64 → Int32 → Int32 → Mem → Option (Int32 × Mem)} {q_5 : Int64 → Int32 → Int32 → Mem → Option (Int32 × Mem)} (hk_5 : ∀ (v1 : Int64) (v3 : Int32) (v4 : Int32) (Ma : Mem), FSR Ma → k_5 (some 181) v1 v3 v4 Ma = q_5 v1 v3 v4 Ma) (hF : FSR M) {v1 : Int64} {v4 : Int32} {s0 : Int32} : J_X11_isTaken_42 k_5 (some 181) v1 v4 s0 M = SJ_X11_isTaken_42 q_5 v1 v4 s0 M := by
  unfold J_X11_isTaken_42 SJ_X11_isTaken_42
  exact hk_5 _ _ _ _ hF
theorem keepJ_X11_isTaken_42 {M : Mem} {z : Int32 × Mem} {k_5 : Option Nat → Int64 → Int32 → Int32 → Mem → Option (Int32 × Mem)} (hk_5 : ∀ (v0 : Option Nat) (v1 : Int64) (v3 : Int32) (v4 : Int32) (Ma : Mem), k_5 v0 v1 v3 v4 Ma = some z → KG Ma z.2) {v0 : Option Nat} {v1 : Int64} {v4 : Int32} {s0 : Int32} (h : J_X11_isTaken_42 k_5 v0 v1 v4 s0 M = some z) : KG M z.2 := by
  unfold J_X11_isTaken_42 at h
  have hg : KG M M := KG.rf
  exact hg.trans (hk_5 _ _ _ _ _ h)
def SJ_X11_isTaken_37 (k_5 : Int64 → Int32 → Int32 → Mem → Option (Int32 × Mem)) (v1 : Int64) (v4 : Int32) (M : Mem) : Option (Int32 × Mem) :=
  SJ_X11_isTaken_42 k_5 v1 v4 (1 : Int32) M
theorem eqJ_X11_isTaken_37 {M : Mem} {k_5 : Option Nat → Int64 → Int32 → Int32 → Mem → Option (Int32 × Mem)} {q_5 : Int64 → Int32 → Int32 → Mem → Option (Int32 × Mem)} (hk_5 : ∀ (v1 : Int64) (v3 : Int32) (v4 : Int32) (Ma : Mem), FSR Ma → k_5 (some 181) v1 v3 v4 Ma = q_5 v1 v3 v4 Ma) (hF : FSR M) {v1 : Int64} {v4 : Int32} : J_X11_isTaken_37 k_5 (some 181) v1 v4 M = SJ_X11_isTaken_37 q_5 v1 v4 M := by
  unfold J_X11_isTaken_37 SJ_X11_isTaken_37
  exact eqJ_X11_isTaken_42 hk_5 hF
theorem keepJ_X11_isTaken_37 {M : Mem} {z : Int32 × Mem} {k_5 : Option Nat → Int64 → Int32 → Int32 → Mem → Option (Int32 × Mem)} (hk_5 : ∀ (v0 : Option Nat) (v1 : Int64) (v3 : Int32) (v4 : Int32) (Ma : Mem), k_5 v0 v1 v3 v4 Ma = some z → KG Ma z.2) {v0 : Option Nat} {v1 : Int64} {v4 : Int32} (h : J_X11_isTaken_37 k_5 v0 v1 v4 M = some z) : KG M z.2 := by
  unfold J_X11_isTaken_37 at h
  have hg : KG M M := KG.rf
  exact hg.trans (keepJ_X11_isTaken_42 hk_5 h)
def SJ_X11_isTaken_89 (k_52 : Int64 → Int32 → Int32 → Mem → Option (Int32 × Mem)) (v1 : Int64) (v4 : Int32) (s0 : Int32) (M : Mem) : Option (Int32 × Mem) :=
  k_52 v1 s0 (v4 + 1) M
theorem eqJ_X11_isTaken_89 {M : Mem} {k_52 : Option Nat → Int64 → Int32 → Int32 → Mem → Option (Int32 × Mem)} {q_52 : Int64 → Int32 → Int32 → Mem → Option (Int32 × Mem)} (hk_52 : ∀ (v1 : Int64) (v3 : Int32) (v4 : Int32) (Ma : Mem), FSR Ma → k_52 (some 181) v1 v3 v4 Ma = q_52 v1 v3 v4 Ma) (hF : FSR M) {v1 : Int64} {v4 : Int32} {s0 : Int32} : J_X11_isTaken_89 k_52 (some 181) v1 v4 s0 M = SJ_X11_isTaken_89 q_52 v1 v4 s0 M := by
  unfold J_X11_isTaken_89 SJ_X11_isTaken_89
  exact hk_52 _ _ _ _ hF
theorem keepJ_X11_isTaken_89 {M : Mem} {z : Int32 × Mem} {k_52 : Option Nat → Int64 → Int32 → Int32 → Mem → Option (Int32 × Mem)} (hk_52 : ∀ (v0 : Option Nat) (v1 : Int64) (v3 : Int32) (v4 : Int32) (Ma : Mem), k_52 v0 v1 v3 v4 Ma = some z → KG Ma z.2) {v0 : Option Nat} {v1 : Int64} {v4 : Int32} {s0 : Int32} (h : J_X11_isTaken_89 k_52 v0 v1 v4 s0 M = some z) : KG M z.2 := by
  unfold J_X11_isTaken_89 at h
  have hg : KG M M := KG.rf
  exact hg.trans (hk_52 _ _ _ _ _ h)
def SJ_X11_isTaken_84 (k_52 : Int64 → Int32 → Int32 → Mem → Option (Int32 × Mem)) (v1 : Int64) (v4 : Int32) (M : Mem) : Option (Int32 × Mem) :=
  SJ_X11_isTaken_89 k_52 v1 v4 (1 : Int32) M
theorem eqJ_X11_isTaken_84 {M : Mem} {k_52 : Option Nat → Int64 → Int32 → Int32 → Mem → Option (Int32 × Mem)} {q_52 : Int64 → Int32 → Int32 → Mem → Option (Int32 × Mem)} (hk_52 : ∀ (v1 : Int64) (v3 : Int32) (v4 : Int32) (Ma : Mem), FSR Ma → k_52 (some 181) v1 v3 v4 Ma = q_52 v1 v3 v4 Ma) (hF : FSR M) {v1 : Int64} {v4 : Int32} : J_X11_isTaken_84 k_52 (some 181) v1 v4 M = SJ_X11_isTaken_84 q_52 v1 v4 M := by
  unfold J_X11_isTaken_84 SJ_X11_isTaken_84
  exact eqJ_X11_isTaken_89 hk_52 hF
theorem keepJ_X11_isTaken_84 {M : Mem} {z : Int32 × Mem} {k_52 : Option Nat → Int64 → Int32 → Int32 → Mem → Option (Int32 × Mem)} (hk_52 : ∀ (v0 : Option Nat) (v1 : Int64) (v3 : Int32) (v4 : Int32) (Ma : Mem), k_52 v0 v1 v3 v4 Ma = some z → KG Ma z.2) {v0 : Option Nat} {v1 : Int64} {v4 : Int32} (h : J_X11_isTaken_84 k_52 v0 v1 v4 M = some z) : KG M z.2 := by
  unfold J_X11_isTaken_84 at h
  have hg : KG M M := KG.rf
  exact hg.trans (keepJ_X11_isTaken_89 hk_52 h)
def SJ_X11_isTaken_52 : Nat → Int64 → Int32 → Int32 → Mem → Option (Int32 × Mem)
  | 0 => fun _ _ _ _ => none
  | n + 1 => fun v1 v3 v4 M =>
  if (gi M 181 18) ≤ v4 then
  ((bz v3).bind fun _ => some (v3, M))
  else
  (if (6 : Int32) ≤ v4 then
  ((bz v3).bind fun _ => some (v3, M))
  else
  (if ¬ v3 = 0 then
  (SJ_X11_isTaken_84 (SJ_X11_isTaken_52 n) v1 v4 M)
  else
  (gd (inb v4 6) (
  if ¬ (gl M 186 v4.toNatClampNeg) = v1 then
  (SJ_X11_isTaken_89 (SJ_X11_isTaken_52 n) v1 v4 (0 : Int32) M)
  else
  (SJ_X11_isTaken_84 (SJ_X11_isTaken_52 n) v1 v4 M)))))
theorem eqJ_X11_isTaken_52 : ∀ (n : Nat) (v1 : Int64) (v3 : Int32) (v4 : Int32) (M : Mem), FSR M → J_X11_isTaken_52 n (some 181) v1 v3 v4 M = SJ_X11_isTaken_52 n v1 v3 v4 M := by
  intro n
  induction n with
  | zero => intro v1 v3 v4 M hF; rfl
  | succ n ih =>
    intro v1 v3 v4 M hF
    unfold J_X11_isTaken_52 SJ_X11_isTaken_52
    refine (bi_fI (hF.kd 181)).trans ?_
    refine itc (fun _ => ?_) (fun _ => ?_)
    · rfl
    · refine itc (fun _ => ?_) (fun _ => ?_)
      · rfl
      · refine itc (fun _ => ?_) (fun _ => ?_)
        · exact eqJ_X11_isTaken_84 ih hF
        · refine (bi_fR (hF.kd 181) (hF.gr 19)).trans ?_
          refine (bi_aL (hF.kd 186) (hF.ln 186)).trans ?_
          refine gd_congr (fun _ => ?_)
          refine itc (fun _ => ?_) (fun _ => ?_)
          · exact eqJ_X11_isTaken_89 ih hF
          · exact eqJ_X11_isTaken_84 ih hF
theorem keepJ_X11_isTaken_52 {z : Int32 × Mem} : ∀ (n : Nat) (v0 : Option Nat) (v1 : Int64) (v3 : Int32) (v4 : Int32) (M : Mem), J_X11_isTaken_52 n v0 v1 v3 v4 M = some z → KG M z.2 := by
  intro n
  induction n with
  | zero => intro v0 v1 v3 v4 M h; exact nomatch h
  | succ n ih =>
    intro v0 v1 v3 v4 M h
    unfold J_X11_isTaken_52 at h
    have hg : KG M M := KG.rf
    obtain ⟨_, -, h⟩ := bnd h
    rcases itor h with h | h
    · obtain ⟨_, -, h⟩ := bnd h
      cases h; exact hg
    · rcases itor h with h | h
      · obtain ⟨_, -, h⟩ := bnd h
        cases h; exact hg
      · rcases itor h with h | h
        · exact hg.trans (keepJ_X11_isTaken_84 ih h)
        · obtain ⟨_, -, h⟩ := bnd h
          obtain ⟨_, -, h⟩ := bnd h
          rcases itor h with h | h
          · exact hg.trans (keepJ_X11_isTaken_89 ih h)
          · exact hg.trans (keepJ_X11_isTaken_84 ih h)
def SJ_X11_isTaken_49 (v1 : Int64) (v3 : Int32) (M : Mem) : Option (Int32 × Mem) :=
  SJ_X11_isTaken_52 FU v1 v3 (0 : Int32) M
theorem eqJ_X11_isTaken_49 {M : Mem} (hF : FSR M) {v1 : Int64} {v3 : Int32} : J_X11_isTaken_49 (some 181) v1 v3 M = SJ_X11_isTaken_49 v1 v3 M := by
  unfold J_X11_isTaken_49 SJ_X11_isTaken_49
  exact eqJ_X11_isTaken_52 FU _ _ _ _ hF
theorem keepJ_X11_isTaken_49 {M : Mem} {z : Int32 × Mem} {v0 : Option Nat} {v1 : Int64} {v3 : Int32} (h : J_X11_isTaken_49 v0 v1 v3 M = some z) : KG M z.2 := by
  unfold J_X11_isTaken_49 at h
  have hg : KG M M := KG.rf
  exact hg.trans (keepJ_X11_isTaken_52 FU _ _ _ _ _ h)
def SJ_X11_isTaken_5 : Nat → Int64 → Int32 → Int32 → Mem → Option (Int32 × Mem)
  | 0 => fun _ _ _ _ => none
  | n + 1 => fun v1 v3 v4 M =>
  if (gi M 181 15) ≤ v4 then
  (SJ_X11_isTaken_49 v1 v3 M)
  else
  (if (8 : Int32) ≤ v4 then
  (SJ_X11_isTaken_49 v1 v3 M)
  else
  (if ¬ v3 = 0 then
  (SJ_X11_isTaken_37 (SJ_X11_isTaken_5 n) v1 v4 M)
  else
  (gd (inb v4 8) (
  if ¬ (gl M 184 v4.toNatClampNeg) = v1 then
  (SJ_X11_isTaken_42 (SJ_X11_isTaken_5 n) v1 v4 (0 : Int32) M)
  else
  (SJ_X11_isTaken_37 (SJ_X11_isTaken_5 n) v1 v4 M)))))
theorem eqJ_X11_isTaken_5 : ∀ (n : Nat) (v1 : Int64) (v3 : Int32) (v4 : Int32) (M : Mem), FSR M → J_X11_isTaken_5 n (some 181) v1 v3 v4 M = SJ_X11_isTaken_5 n v1 v3 v4 M := by
  intro n
  induction n with
  | zero => intro v1 v3 v4 M hF; rfl
  | succ n ih =>
    intro v1 v3 v4 M hF
    unfold J_X11_isTaken_5 SJ_X11_isTaken_5
    refine (bi_fI (hF.kd 181)).trans ?_
    refine itc (fun _ => ?_) (fun _ => ?_)
    · exact eqJ_X11_isTaken_49 hF
    · refine itc (fun _ => ?_) (fun _ => ?_)
      · exact eqJ_X11_isTaken_49 hF
      · refine itc (fun _ => ?_) (fun _ => ?_)
        · exact eqJ_X11_isTaken_37 ih hF
        · refine (bi_fR (hF.kd 181) (hF.gr 16)).trans ?_
          refine (bi_aL (hF.kd 184) (hF.ln 184)).trans ?_
          refine gd_congr (fun _ => ?_)
          refine itc (fun _ => ?_) (fun _ => ?_)
          · exact eqJ_X11_isTaken_42 ih hF
          · exact eqJ_X11_isTaken_37 ih hF
theorem keepJ_X11_isTaken_5 {z : Int32 × Mem} : ∀ (n : Nat) (v0 : Option Nat) (v1 : Int64) (v3 : Int32) (v4 : Int32) (M : Mem), J_X11_isTaken_5 n v0 v1 v3 v4 M = some z → KG M z.2 := by
  intro n
  induction n with
  | zero => intro v0 v1 v3 v4 M h; exact nomatch h
  | succ n ih =>
    intro v0 v1 v3 v4 M h
    unfold J_X11_isTaken_5 at h
    have hg : KG M M := KG.rf
    obtain ⟨_, -, h⟩ := bnd h
    rcases itor h with h | h
    · exact hg.trans (keepJ_X11_isTaken_49 h)
    · rcases itor h with h | h
      · exact hg.trans (keepJ_X11_isTaken_49 h)
      · rcases itor h with h | h
        · exact hg.trans (keepJ_X11_isTaken_37 ih h)
        · obtain ⟨_, -, h⟩ := bnd h
          obtain ⟨_, -, h⟩ := bnd h
          rcases itor h with h | h
          · exact hg.trans (keepJ_X11_isTaken_42 ih h)
          · exact hg.trans (keepJ_X11_isTaken_37 ih h)
def S_X11_isTaken (v1 : Int64) (M : Mem) : Option (Int32 × Mem) :=
  SJ_X11_isTaken_5 FU v1 (0 : Int32) (0 : Int32) M
theorem eqS_X11_isTaken {M : Mem} (hF : FSR M) {v1 : Int64} : L_X11_isTaken (some 181) v1 M = S_X11_isTaken v1 M := by
  unfold L_X11_isTaken S_X11_isTaken
  exact eqJ_X11_isTaken_5 FU _ _ _ _ hF
theorem keep_X11_isTaken {M : Mem} {z : Int32 × Mem} {v0 : Option Nat} {v1 : Int64} (h : L_X11_isTaken v0 v1 M = some z) : KG M z.2 := by
  unfold L_X11_isTaken at h
  have hg : KG M M := KG.rf
  exact hg.trans (keepJ_X11_isTaken_5 FU _ _ _ _ _ h)
def SJ_X11_table_154 (v5 : Int32) (M : Mem) : Option (Unit × Mem) :=
  (S_X11_mark (0 : Int32) v5 (gi M 181 18) M).bind fun w1 =>
  some ((), si w1.2 181 18 ((gi w1.2 181 18) + (1 : Int32)))
theorem eqJ_X11_table_154 {M : Mem} (hF : FSR M) {v5 : Int32} : J_X11_table_154 (some 181) v5 M = SJ_X11_table_154 v5 M := by
  unfold J_X11_table_154 SJ_X11_table_154
  refine (bi_fI (hF.kd 181)).trans ?_
  refine (bi_ck (hF.kd 181)).trans ?_
  refine bdc (eqS_X11_mark hF) (fun w1 hw => ?_)
  have hF := hF.kg (keep_X11_mark hw)
  refine (bi_fI (hF.kd 181)).trans ?_
  refine (bi_pI (hF.kd 181)).trans ?_
  have hF : FSR (si w1.2 181 18 ((gi w1.2 181 18) + (1 : Int32))) := hF.kg ⟨rfl, rfl, rfl⟩
  rfl
theorem keepJ_X11_table_154 {M : Mem} {z : Unit × Mem} {v0 : Option Nat} {v5 : Int32} (h : J_X11_table_154 v0 v5 M = some z) : KG M z.2 := by
  unfold J_X11_table_154 at h
  have hg : KG M M := KG.rf
  obtain ⟨_, -, h⟩ := bnd h
  obtain ⟨_, -, h⟩ := bnd h
  obtain ⟨w1, hw, h⟩ := bnd h
  have hg := hg.trans (keep_X11_mark hw)
  obtain ⟨_, -, h⟩ := bnd h
  obtain ⟨_, hw, h⟩ := bnd h
  have hg := hg.trans (kg_pI hw)
  cases h; exact hg
def SJ_X11_table_92 (v2 : Int64) (v4 : Int32) (M : Mem) : Option (Unit × Mem) :=
  (S_X11_must (61 : Int32) M).bind fun w2 =>
  (S_X11_whole (si w2.2 181 33 (1 : Int32))).bind fun w3 =>
  (S_X11_must (59 : Int32) (si w3.2 181 33 (0 : Int32))).bind fun w4 =>
  if (6 : Int32) ≤ (gi w4.2 181 18) then
  (SJ_X11_table_154 (gi w2.2 181 27) w4.2)
  else
  (gd (inb (gi w4.2 181 18) 6) (
  gd (inb (gi (sl w4.2 186 (gi w4.2 181 18).toNatClampNeg v2) 181 18) 6) (
  SJ_X11_table_154 (gi w2.2 181 27) (si (sl w4.2 186 (gi w4.2 181 18).toNatClampNeg v2) 187 (gi (sl w4.2 186 (gi w4.2 181 18).toNatClampNeg v2) 181 18).toNatClampNeg v4))))
theorem eqJ_X11_table_92 {M : Mem} (hF : FSR M) {v2 : Int64} {v4 : Int32} : J_X11_table_92 (some 181) v2 v4 M = SJ_X11_table_92 v2 v4 M := by
  unfold J_X11_table_92 SJ_X11_table_92
  refine (bi_ck (hF.kd 181)).trans ?_
  refine bdc (eqS_X11_must hF) (fun w2 hw => ?_)
  have hF := hF.kg (keep_X11_must hw)
  refine (bi_fI (hF.kd 181)).trans ?_
  refine (bi_pZl (hF.kd 181) (by decide)).trans ?_
  have hF : FSR (si w2.2 181 33 (1 : Int32)) := hF.kg ⟨rfl, rfl, rfl⟩
  refine (bi_ck (hF.kd 181)).trans ?_
  refine bdc (eqS_X11_whole hF) (fun w3 hw => ?_)
  have hF := hF.kg (keep_X11_whole hw)
  refine (bi_pZl (hF.kd 181) (by decide)).trans ?_
  have hF : FSR (si w3.2 181 33 (0 : Int32)) := hF.kg ⟨rfl, rfl, rfl⟩
  refine (bi_ck (hF.kd 181)).trans ?_
  refine bdc (eqS_X11_must hF) (fun w4 hw => ?_)
  have hF := hF.kg (keep_X11_must hw)
  refine (bi_fI (hF.kd 181)).trans ?_
  refine itc (fun _ => ?_) (fun _ => ?_)
  · exact eqJ_X11_table_154 hF
  · refine (bi_fR (hF.kd 181) (hF.gr 19)).trans ?_
    refine (bi_fI (hF.kd 181)).trans ?_
    refine (bi_uL (hF.kd 186) (hF.ln 186)).trans ?_
    refine gd_congr (fun _ => ?_)
    have hF : FSR (sl w4.2 186 (gi w4.2 181 18).toNatClampNeg v2) := hF.kg ⟨rfl, rfl, rfl⟩
    refine (bi_fR (hF.kd 181) (hF.gr 20)).trans ?_
    refine (bi_fI (hF.kd 181)).trans ?_
    refine (bi_uI (hF.kd 187) (hF.ln 187)).trans ?_
    refine gd_congr (fun _ => ?_)
    have hF : FSR (si (sl w4.2 186 (gi w4.2 181 18).toNatClampNeg v2) 187 (gi (sl w4.2 186 (gi w4.2 181 18).toNatClampNeg v2) 181 18).toNatClampNeg v4) := hF.kg ⟨rfl, rfl, rfl⟩
    exact eqJ_X11_table_154 hF
theorem keepJ_X11_table_92 {M : Mem} {z : Unit × Mem} {v0 : Option Nat} {v2 : Int64} {v4 : Int32} (h : J_X11_table_92 v0 v2 v4 M = some z) : KG M z.2 := by
  unfold J_X11_table_92 at h
  have hg : KG M M := KG.rf
  obtain ⟨_, -, h⟩ := bnd h
  obtain ⟨w2, hw, h⟩ := bnd h
  have hg := hg.trans (keep_X11_must hw)
  obtain ⟨_, -, h⟩ := bnd h
  obtain ⟨_, hw, h⟩ := bnd h
  have hg := hg.trans (kg_pZ hw)
  obtain ⟨_, -, h⟩ := bnd h
  obtain ⟨w3, hw, h⟩ := bnd h
  have hg := hg.trans (keep_X11_whole hw)
  obtain ⟨_, hw, h⟩ := bnd h
  have hg := hg.trans (kg_pZ hw)
  obtain ⟨_, -, h⟩ := bnd h
  obtain ⟨w4, hw, h⟩ := bnd h
  have hg := hg.trans (keep_X11_must hw)
  obtain ⟨_, -, h⟩ := bnd h
  rcases itor h with h | h
  · exact hg.trans (keepJ_X11_table_154 h)
  · obtain ⟨_, -, h⟩ := bnd h
    obtain ⟨_, -, h⟩ := bnd h
    obtain ⟨_, hw, h⟩ := bnd h
    have hg := hg.trans (kg_uL hw)
    obtain ⟨_, -, h⟩ := bnd h
    obtain ⟨_, -, h⟩ := bnd h
    obtain ⟨_, hw, h⟩ := bnd h
    have hg := hg.trans (kg_uI hw)
    exact hg.trans (keepJ_X11_table_154 h)
def SJ_X11_table_86 (v1 : Int32) (v2 : Int64) (v4 : Int32) (M : Mem) : Option (Unit × Mem) :=
  (S_X11_tells (4 : Int32) v1 M).bind fun w5 =>
  SJ_X11_table_92 v2 v4 w5.2
theorem eqJ_X11_table_86 {M : Mem} (hF : FSR M) {v1 : Int32} {v2 : Int64} {v4 : Int32} : J_X11_table_86 (some 181) v1 v2 v4 M = SJ_X11_table_86 v1 v2 v4 M := by
  unfold J_X11_table_86 SJ_X11_table_86
  refine (bi_ck (hF.kd 181)).trans ?_
  refine bdc (eqS_X11_tells hF) (fun w5 hw => ?_)
  have hF := hF.kg (keep_X11_tells hw)
  exact eqJ_X11_table_92 hF
theorem keepJ_X11_table_86 {M : Mem} {z : Unit × Mem} {v0 : Option Nat} {v1 : Int32} {v2 : Int64} {v4 : Int32} (h : J_X11_table_86 v0 v1 v2 v4 M = some z) : KG M z.2 := by
  unfold J_X11_table_86 at h
  have hg : KG M M := KG.rf
  obtain ⟨_, -, h⟩ := bnd h
  obtain ⟨w5, hw, h⟩ := bnd h
  have hg := hg.trans (keep_X11_tells hw)
  exact hg.trans (keepJ_X11_table_92 h)
def SJ_X11_table_54 (v2 : Int64) (M : Mem) : Option (Unit × Mem) :=
  (S_X11_takesNumber M).bind fun w6 =>
  if (gi w6.2 181 11) = 0 then
  (if w6.1 < (1 : Int32) then
  (SJ_X11_table_86 (gi M 181 7) v2 w6.1 w6.2)
  else
  (if w6.1 ≤ (12 : Int32) then
  (SJ_X11_table_92 v2 w6.1 w6.2)
  else
  (SJ_X11_table_86 (gi M 181 7) v2 w6.1 w6.2)))
  else
  (some ((), w6.2))
theorem eqJ_X11_table_54 {M : Mem} (hF : FSR M) {v2 : Int64} : J_X11_table_54 (some 181) v2 M = SJ_X11_table_54 v2 M := by
  unfold J_X11_table_54 SJ_X11_table_54
  refine (bi_fI (hF.kd 181)).trans ?_
  refine (bi_ck (hF.kd 181)).trans ?_
  refine bdc (eqS_X11_takesNumber hF) (fun w6 hw => ?_)
  have hF := hF.kg (keep_X11_takesNumber hw)
  refine (bi_fI (hF.kd 181)).trans ?_
  refine itc (fun _ => ?_) (fun _ => ?_)
  · refine itc (fun _ => ?_) (fun _ => ?_)
    · exact eqJ_X11_table_86 hF
    · refine itc (fun _ => ?_) (fun _ => ?_)
      · exact eqJ_X11_table_92 hF
      · exact eqJ_X11_table_86 hF
  · rfl
theorem keepJ_X11_table_54 {M : Mem} {z : Unit × Mem} {v0 : Option Nat} {v2 : Int64} (h : J_X11_table_54 v0 v2 M = some z) : KG M z.2 := by
  unfold J_X11_table_54 at h
  have hg : KG M M := KG.rf
  obtain ⟨_, -, h⟩ := bnd h
  obtain ⟨_, -, h⟩ := bnd h
  obtain ⟨w6, hw, h⟩ := bnd h
  have hg := hg.trans (keep_X11_takesNumber hw)
  obtain ⟨_, -, h⟩ := bnd h
  rcases itor h with h | h
  · rcases itor h with h | h
    · exact hg.trans (keepJ_X11_table_86 h)
    · rcases itor h with h | h
      · exact hg.trans (keepJ_X11_table_92 h)
      · exact hg.trans (keepJ_X11_table_86 h)
  · cases h; exact hg
def SJ_X11_table_18  (M : Mem) : Option (Unit × Mem) :=
  (S_X11_advance M).bind fun w7 =>
  (S_X11_takesName w7.2).bind fun w8 =>
  if (gi w8.2 181 11) = 0 then
  ((S_X11_isTaken w8.1 w8.2).bind fun w9 =>
  if w9.1 = 0 then
  (SJ_X11_table_54 w8.1 w9.2)
  else
  ((S_X11_tells (2 : Int32) (gi w7.2 181 7) w9.2).bind fun w10 =>
  SJ_X11_table_54 w8.1 w10.2))
  else
  (some ((), w8.2))
theorem eqJ_X11_table_18 {M : Mem} (hF : FSR M) : J_X11_table_18 (some 181) M = SJ_X11_table_18  M := by
  unfold J_X11_table_18 SJ_X11_table_18
  refine (bi_ck (hF.kd 181)).trans ?_
  refine bdc (eqS_X11_advance hF) (fun w7 hw => ?_)
  have hF := hF.kg (keep_X11_advance hw)
  refine (bi_fI (hF.kd 181)).trans ?_
  refine (bi_ck (hF.kd 181)).trans ?_
  refine bdc (eqS_X11_takesName hF) (fun w8 hw => ?_)
  have hF := hF.kg (keep_X11_takesName hw)
  refine (bi_fI (hF.kd 181)).trans ?_
  refine itc (fun _ => ?_) (fun _ => ?_)
  · refine (bi_ck (hF.kd 181)).trans ?_
    refine bdc (eqS_X11_isTaken hF) (fun w9 hw => ?_)
    have hF := hF.kg (keep_X11_isTaken hw)
    refine itc (fun _ => ?_) (fun _ => ?_)
    · exact eqJ_X11_table_54 hF
    · refine (bi_ck (hF.kd 181)).trans ?_
      refine bdc (eqS_X11_tells hF) (fun w10 hw => ?_)
      have hF := hF.kg (keep_X11_tells hw)
      exact eqJ_X11_table_54 hF
  · rfl
theorem keepJ_X11_table_18 {M : Mem} {z : Unit × Mem} {v0 : Option Nat} (h : J_X11_table_18 v0 M = some z) : KG M z.2 := by
  unfold J_X11_table_18 at h
  have hg : KG M M := KG.rf
  obtain ⟨_, -, h⟩ := bnd h
  obtain ⟨w7, hw, h⟩ := bnd h
  have hg := hg.trans (keep_X11_advance hw)
  obtain ⟨_, -, h⟩ := bnd h
  obtain ⟨_, -, h⟩ := bnd h
  obtain ⟨w8, hw, h⟩ := bnd h
  have hg := hg.trans (keep_X11_takesName hw)
  obtain ⟨_, -, h⟩ := bnd h
  rcases itor h with h | h
  · obtain ⟨_, -, h⟩ := bnd h
    obtain ⟨w9, hw, h⟩ := bnd h
    have hg := hg.trans (keep_X11_isTaken hw)
    rcases itor h with h | h
    · exact hg.trans (keepJ_X11_table_54 h)
    · obtain ⟨_, -, h⟩ := bnd h
      obtain ⟨w10, hw, h⟩ := bnd h
      have hg := hg.trans (keep_X11_tells hw)
      exact hg.trans (keepJ_X11_table_54 h)
  · cases h; exact hg
def S_X11_table  (M : Mem) : Option (Unit × Mem) :=
  if (gi M 181 18) < (6 : Int32) then
  (SJ_X11_table_18  M)
  else
  ((S_X11_tells (5 : Int32) (gi M 181 7) M).bind fun w11 =>
  SJ_X11_table_18  w11.2)
theorem eqS_X11_table {M : Mem} (hF : FSR M) : L_X11_table (some 181) M = S_X11_table  M := by
  unfold L_X11_table S_X11_table
  refine (bi_fI (hF.kd 181)).trans ?_
  refine itc (fun _ => ?_) (fun _ => ?_)
  · exact eqJ_X11_table_18 hF
  · refine (bi_fI (hF.kd 181)).trans ?_
    refine (bi_ck (hF.kd 181)).trans ?_
    refine bdc (eqS_X11_tells hF) (fun w11 hw => ?_)
    have hF := hF.kg (keep_X11_tells hw)
    exact eqJ_X11_table_18 hF
theorem keep_X11_table {M : Mem} {z : Unit × Mem} {v0 : Option Nat} (h : L_X11_table v0 M = some z) : KG M z.2 := by
  unfold L_X11_table at h
  have hg : KG M M := KG.rf
  obtain ⟨_, -, h⟩ := bnd h
  rcases itor h with h | h
  · exact hg.trans (keepJ_X11_table_18 h)
  · obtain ⟨_, -, h⟩ := bnd h
    obtain ⟨_, -, h⟩ := bnd h
    obtain ⟨w11, hw, h⟩ := bnd h
    have hg := hg.trans (keep_X11_tells hw)
    exact hg.trans (keepJ_X11_table_18 h)
def SJ_X11_check_55 (v1 : Int32) (v3 : Int32) (M : Mem) : Option (Unit × Mem) :=
  (S_X11_must (59 : Int32) M).bind fun w1 =>
  (S_X11_mark (1 : Int32) v1 v3 w1.2).bind fun w2 =>
  some ((), w2.2)
theorem eqJ_X11_check_55 {M : Mem} (hF : FSR M) {v1 : Int32} {v3 : Int32} : J_X11_check_55 (some 181) v1 v3 M = SJ_X11_check_55 v1 v3 M := by
  unfold J_X11_check_55 SJ_X11_check_55
  refine (bi_ck (hF.kd 181)).trans ?_
  refine bdc (eqS_X11_must hF) (fun w1 hw => ?_)
  have hF := hF.kg (keep_X11_must hw)
  refine (bi_ck (hF.kd 181)).trans ?_
  refine bdc (eqS_X11_mark hF) (fun w2 hw => ?_)
  have hF := hF.kg (keep_X11_mark hw)
  rfl
theorem keepJ_X11_check_55 {M : Mem} {z : Unit × Mem} {v0 : Option Nat} {v1 : Int32} {v3 : Int32} (h : J_X11_check_55 v0 v1 v3 M = some z) : KG M z.2 := by
  unfold J_X11_check_55 at h
  have hg : KG M M := KG.rf
  obtain ⟨_, -, h⟩ := bnd h
  obtain ⟨w1, hw, h⟩ := bnd h
  have hg := hg.trans (keep_X11_must hw)
  obtain ⟨_, -, h⟩ := bnd h
  obtain ⟨w2, hw, h⟩ := bnd h
  have hg := hg.trans (keep_X11_mark hw)
  cases h; exact hg
def SJ_X11_check_49 (v1 : Int32) (v2 : Int32) (v3 : Int32) (M : Mem) : Option (Unit × Mem) :=
  (S_X11_tells (4 : Int32) v2 M).bind fun w3 =>
  SJ_X11_check_55 v1 v3 w3.2
theorem eqJ_X11_check_49 {M : Mem} (hF : FSR M) {v1 : Int32} {v2 : Int32} {v3 : Int32} : J_X11_check_49 (some 181) v1 v2 v3 M = SJ_X11_check_49 v1 v2 v3 M := by
  unfold J_X11_check_49 SJ_X11_check_49
  refine (bi_ck (hF.kd 181)).trans ?_
  refine bdc (eqS_X11_tells hF) (fun w3 hw => ?_)
  have hF := hF.kg (keep_X11_tells hw)
  exact eqJ_X11_check_55 hF
theorem keepJ_X11_check_49 {M : Mem} {z : Unit × Mem} {v0 : Option Nat} {v1 : Int32} {v2 : Int32} {v3 : Int32} (h : J_X11_check_49 v0 v1 v2 v3 M = some z) : KG M z.2 := by
  unfold J_X11_check_49 at h
  have hg : KG M M := KG.rf
  obtain ⟨_, -, h⟩ := bnd h
  obtain ⟨w3, hw, h⟩ := bnd h
  have hg := hg.trans (keep_X11_tells hw)
  exact hg.trans (keepJ_X11_check_55 h)
def S_X11_check  (M : Mem) : Option (Unit × Mem) :=
  (S_X11_advance M).bind fun w4 =>
  (S_X11_whole w4.2).bind fun w5 =>
  (S_X11_must (58 : Int32) w5.2).bind fun w6 =>
  (S_X11_takesNumber w6.2).bind fun w7 =>
  if (gi w7.2 181 11) = 0 then
  (if w7.1 < (1 : Int32) then
  (SJ_X11_check_49 (gi w4.2 181 27) (gi w6.2 181 7) w7.1 w7.2)
  else
  (if w7.1 ≤ (800 : Int32) then
  (SJ_X11_check_55 (gi w4.2 181 27) w7.1 w7.2)
  else
  (SJ_X11_check_49 (gi w4.2 181 27) (gi w6.2 181 7) w7.1 w7.2)))
  else
  (some ((), w7.2))
theorem eqS_X11_check {M : Mem} (hF : FSR M) : L_X11_check (some 181) M = S_X11_check  M := by
  unfold L_X11_check S_X11_check
  refine (bi_ck (hF.kd 181)).trans ?_
  refine bdc (eqS_X11_advance hF) (fun w4 hw => ?_)
  have hF := hF.kg (keep_X11_advance hw)
  refine (bi_fI (hF.kd 181)).trans ?_
  refine (bi_ck (hF.kd 181)).trans ?_
  refine bdc (eqS_X11_whole hF) (fun w5 hw => ?_)
  have hF := hF.kg (keep_X11_whole hw)
  refine (bi_ck (hF.kd 181)).trans ?_
  refine bdc (eqS_X11_must hF) (fun w6 hw => ?_)
  have hF := hF.kg (keep_X11_must hw)
  refine (bi_fI (hF.kd 181)).trans ?_
  refine (bi_ck (hF.kd 181)).trans ?_
  refine bdc (eqS_X11_takesNumber hF) (fun w7 hw => ?_)
  have hF := hF.kg (keep_X11_takesNumber hw)
  refine (bi_fI (hF.kd 181)).trans ?_
  refine itc (fun _ => ?_) (fun _ => ?_)
  · refine itc (fun _ => ?_) (fun _ => ?_)
    · exact eqJ_X11_check_49 hF
    · refine itc (fun _ => ?_) (fun _ => ?_)
      · exact eqJ_X11_check_55 hF
      · exact eqJ_X11_check_49 hF
  · rfl
theorem keep_X11_check {M : Mem} {z : Unit × Mem} {v0 : Option Nat} (h : L_X11_check v0 M = some z) : KG M z.2 := by
  unfold L_X11_check at h
  have hg : KG M M := KG.rf
  obtain ⟨_, -, h⟩ := bnd h
  obtain ⟨w4, hw, h⟩ := bnd h
  have hg := hg.trans (keep_X11_advance hw)
  obtain ⟨_, -, h⟩ := bnd h
  obtain ⟨_, -, h⟩ := bnd h
  obtain ⟨w5, hw, h⟩ := bnd h
  have hg := hg.trans (keep_X11_whole hw)
  obtain ⟨_, -, h⟩ := bnd h
  obtain ⟨w6, hw, h⟩ := bnd h
  have hg := hg.trans (keep_X11_must hw)
  obtain ⟨_, -, h⟩ := bnd h
  obtain ⟨_, -, h⟩ := bnd h
  obtain ⟨w7, hw, h⟩ := bnd h
  have hg := hg.trans (keep_X11_takesNumber hw)
  obtain ⟨_, -, h⟩ := bnd h
  rcases itor h with h | h
  · rcases itor h with h | h
    · exact hg.trans (keepJ_X11_check_49 h)
    · rcases itor h with h | h
      · exact hg.trans (keepJ_X11_check_55 h)
      · exact hg.trans (keepJ_X11_check_49 h)
  · cases h; exact hg
def SJ_X11_block_47 (rS : Mem → Option (Unit × Mem)) (k_6 : Mem → Option (Unit × Mem))  (M : Mem) : Option (Unit × Mem) :=
  (rS M).bind fun w1 =>
  k_6  w1.2
theorem eqJ_X11_block_47 {M : Mem} {rF : Option Nat → Mem → Option (Unit × Mem)} {rS : Mem → Option (Unit × Mem)} (hrS : ∀  (Ma : Mem), FSR Ma → rF (some 181)  Ma = rS  Ma) (hrK : ∀ (a0 : Option Nat) (Ma : Mem) (w : Unit × Mem), rF a0 Ma = some w → KG Ma w.2) {k_6 : Option Nat → Mem → Option (Unit × Mem)} {q_6 : Mem → Option (Unit × Mem)} (hk_6 : ∀  (Ma : Mem), FSR Ma → k_6 (some 181) Ma = q_6  Ma) (hF : FSR M) : J_X11_block_47 rF k_6 (some 181) M = SJ_X11_block_47 rS q_6  M := by
  unfold J_X11_block_47 SJ_X11_block_47
  refine (bi_ck (hF.kd 181)).trans ?_
  refine bdc (hrS  _ hF) (fun w1 hw => ?_)
  have hF := hF.kg (hrK _ _ _ hw)
  exact hk_6  _ hF
theorem keepJ_X11_block_47 {M : Mem} {z : Unit × Mem} {rF : Option Nat → Mem → Option (Unit × Mem)} (hrK : ∀ (a0 : Option Nat) (Ma : Mem) (w : Unit × Mem), rF a0 Ma = some w → KG Ma w.2) {k_6 : Option Nat → Mem → Option (Unit × Mem)} (hk_6 : ∀ (v0 : Option Nat) (Ma : Mem), k_6 v0 Ma = some z → KG Ma z.2) {v0 : Option Nat} (h : J_X11_block_47 rF k_6 v0 M = some z) : KG M z.2 := by
  unfold J_X11_block_47 at h
  have hg : KG M M := KG.rf
  obtain ⟨_, -, h⟩ := bnd h
  obtain ⟨w1, hw, h⟩ := bnd h
  have hg := hg.trans (hrK _ _ _ hw)
  exact hg.trans (hk_6 _ _ h)
def SJ_X11_block_61 (rS : Mem → Option (Unit × Mem))  (M : Mem) : Option (Unit × Mem) :=
  (S_X11_must (125 : Int32) M).bind fun w2 =>
  some ((), w2.2)
theorem eqJ_X11_block_61 {M : Mem} {rF : Option Nat → Mem → Option (Unit × Mem)} {rS : Mem → Option (Unit × Mem)} (hrS : ∀  (Ma : Mem), FSR Ma → rF (some 181)  Ma = rS  Ma) (hrK : ∀ (a0 : Option Nat) (Ma : Mem) (w : Unit × Mem), rF a0 Ma = some w → KG Ma w.2) (hF : FSR M) : J_X11_block_61 rF (some 181) M = SJ_X11_block_61 rS  M := by
  unfold J_X11_block_61 SJ_X11_block_61
  refine (bi_ck (hF.kd 181)).trans ?_
  refine bdc (eqS_X11_must hF) (fun w2 hw => ?_)
  have hF := hF.kg (keep_X11_must hw)
  rfl
theorem keepJ_X11_block_61 {M : Mem} {z : Unit × Mem} {rF : Option Nat → Mem → Option (Unit × Mem)} (hrK : ∀ (a0 : Option Nat) (Ma : Mem) (w : Unit × Mem), rF a0 Ma = some w → KG Ma w.2) {v0 : Option Nat} (h : J_X11_block_61 rF v0 M = some z) : KG M z.2 := by
  unfold J_X11_block_61 at h
  have hg : KG M M := KG.rf
  obtain ⟨_, -, h⟩ := bnd h
  obtain ⟨w2, hw, h⟩ := bnd h
  have hg := hg.trans (keep_X11_must hw)
  cases h; exact hg
def SJ_X11_block_6 (rS : Mem → Option (Unit × Mem)) : Nat → Mem → Option (Unit × Mem)
  | 0 => fun  _ => none
  | n + 1 => fun  M =>
  if ¬ (gi M 181 11) = 0 then
  (SJ_X11_block_61 rS  M)
  else
  ((S_X11_isSign (125 : Int32) M).bind fun w3 =>
  if ¬ w3.1 = 0 then
  (SJ_X11_block_61 rS  w3.2)
  else
  ((S_X11_isWord (4 : Int32) w3.2).bind fun w4 =>
  if ¬ w4.1 = 0 then
  (SJ_X11_block_47 rS (SJ_X11_block_6 rS n)  w4.2)
  else
  ((S_X11_isWord (5 : Int32) w4.2).bind fun w5 =>
  if ¬ w5.1 = 0 then
  (SJ_X11_block_47 rS (SJ_X11_block_6 rS n)  w5.2)
  else
  ((S_X11_isWord (6 : Int32) w5.2).bind fun w6 =>
  if w6.1 = 0 then
  ((S_X11_stops w6.2).bind fun w7 =>
  SJ_X11_block_6 rS n  w7.2)
  else
  (SJ_X11_block_47 rS (SJ_X11_block_6 rS n)  w6.2)))))
theorem eqJ_X11_block_6 {rF : Option Nat → Mem → Option (Unit × Mem)} {rS : Mem → Option (Unit × Mem)} (hrS : ∀  (Ma : Mem), FSR Ma → rF (some 181)  Ma = rS  Ma) (hrK : ∀ (a0 : Option Nat) (Ma : Mem) (w : Unit × Mem), rF a0 Ma = some w → KG Ma w.2) : ∀ (n : Nat)  (M : Mem), FSR M → J_X11_block_6 rF n (some 181) M = SJ_X11_block_6 rS n  M := by
  intro n
  induction n with
  | zero => intro  M hF; rfl
  | succ n ih =>
    intro  M hF
    unfold J_X11_block_6 SJ_X11_block_6
    refine (bi_fI (hF.kd 181)).trans ?_
    refine itc (fun _ => ?_) (fun _ => ?_)
    · exact eqJ_X11_block_61 hrS hrK hF
    · refine (bi_ck (hF.kd 181)).trans ?_
      refine bdc (eqS_X11_isSign hF) (fun w3 hw => ?_)
      have hF := hF.kg (keep_X11_isSign hw)
      refine itc (fun _ => ?_) (fun _ => ?_)
      · exact eqJ_X11_block_61 hrS hrK hF
      · refine (bi_ck (hF.kd 181)).trans ?_
        refine bdc (eqS_X11_isWord hF) (fun w4 hw => ?_)
        have hF := hF.kg (keep_X11_isWord hw)
        refine itc (fun _ => ?_) (fun _ => ?_)
        · exact eqJ_X11_block_47 hrS hrK ih hF
        · refine (bi_ck (hF.kd 181)).trans ?_
          refine bdc (eqS_X11_isWord hF) (fun w5 hw => ?_)
          have hF := hF.kg (keep_X11_isWord hw)
          refine itc (fun _ => ?_) (fun _ => ?_)
          · exact eqJ_X11_block_47 hrS hrK ih hF
          · refine (bi_ck (hF.kd 181)).trans ?_
            refine bdc (eqS_X11_isWord hF) (fun w6 hw => ?_)
            have hF := hF.kg (keep_X11_isWord hw)
            refine itc (fun _ => ?_) (fun _ => ?_)
            · refine (bi_ck (hF.kd 181)).trans ?_
              refine bdc (eqS_X11_stops hF) (fun w7 hw => ?_)
              have hF := hF.kg (keep_X11_stops hw)
              exact ih  _ hF
            · exact eqJ_X11_block_47 hrS hrK ih hF
theorem keepJ_X11_block_6 {z : Unit × Mem} {rF : Option Nat → Mem → Option (Unit × Mem)} (hrK : ∀ (a0 : Option Nat) (Ma : Mem) (w : Unit × Mem), rF a0 Ma = some w → KG Ma w.2) : ∀ (n : Nat) (v0 : Option Nat) (M : Mem), J_X11_block_6 rF n v0 M = some z → KG M z.2 := by
  intro n
  induction n with
  | zero => intro v0 M h; exact nomatch h
  | succ n ih =>
    intro v0 M h
    unfold J_X11_block_6 at h
    have hg : KG M M := KG.rf
    obtain ⟨_, -, h⟩ := bnd h
    rcases itor h with h | h
    · exact hg.trans (keepJ_X11_block_61 hrK h)
    · obtain ⟨_, -, h⟩ := bnd h
      obtain ⟨w3, hw, h⟩ := bnd h
      have hg := hg.trans (keep_X11_isSign hw)
      rcases itor h with h | h
      · exact hg.trans (keepJ_X11_block_61 hrK h)
      · obtain ⟨_, -, h⟩ := bnd h
        obtain ⟨w4, hw, h⟩ := bnd h
        have hg := hg.trans (keep_X11_isWord hw)
        rcases itor h with h | h
        · exact hg.trans (keepJ_X11_block_47 hrK ih h)
        · obtain ⟨_, -, h⟩ := bnd h
          obtain ⟨w5, hw, h⟩ := bnd h
          have hg := hg.trans (keep_X11_isWord hw)
          rcases itor h with h | h
          · exact hg.trans (keepJ_X11_block_47 hrK ih h)
          · obtain ⟨_, -, h⟩ := bnd h
            obtain ⟨w6, hw, h⟩ := bnd h
            have hg := hg.trans (keep_X11_isWord hw)
            rcases itor h with h | h
            · obtain ⟨_, -, h⟩ := bnd h
              obtain ⟨w7, hw, h⟩ := bnd h
              have hg := hg.trans (keep_X11_stops hw)
              exact hg.trans (ih _ _ h)
            · exact hg.trans (keepJ_X11_block_47 hrK ih h)
def S_X11_block (rS : Mem → Option (Unit × Mem))  (M : Mem) : Option (Unit × Mem) :=
  (S_X11_must (123 : Int32) M).bind fun w8 =>
  SJ_X11_block_6 rS FU  w8.2
theorem eqS_X11_block {M : Mem} {rF : Option Nat → Mem → Option (Unit × Mem)} {rS : Mem → Option (Unit × Mem)} (hrS : ∀  (Ma : Mem), FSR Ma → rF (some 181)  Ma = rS  Ma) (hrK : ∀ (a0 : Option Nat) (Ma : Mem) (w : Unit × Mem), rF a0 Ma = some w → KG Ma w.2) (hF : FSR M) : L_X11_block rF (some 181) M = S_X11_block rS  M := by
  unfold L_X11_block S_X11_block
  refine (bi_ck (hF.kd 181)).trans ?_
  refine bdc (eqS_X11_must hF) (fun w8 hw => ?_)
  have hF := hF.kg (keep_X11_must hw)
  exact eqJ_X11_block_6 hrS hrK FU  _ hF
theorem keep_X11_block {M : Mem} {z : Unit × Mem} {rF : Option Nat → Mem → Option (Unit × Mem)} (hrK : ∀ (a0 : Option Nat) (Ma : Mem) (w : Unit × Mem), rF a0 Ma = some w → KG Ma w.2) {v0 : Option Nat} (h : L_X11_block rF v0 M = some z) : KG M z.2 := by
  unfold L_X11_block at h
  have hg : KG M M := KG.rf
  obtain ⟨_, -, h⟩ := bnd h
  obtain ⟨w8, hw, h⟩ := bnd h
  have hg := hg.trans (keep_X11_must hw)
  exact hg.trans (keepJ_X11_block_6 hrK FU _ _ h)
def SJ_X11_step_40 (rS : Mem → Option (Unit × Mem))  (M : Mem) : Option (Unit × Mem) :=
  (S_X11_isWord (4 : Int32) (si M 181 22 ((gi M 181 22) + (1 : Int32)))).bind fun w1 =>
  if w1.1 = 0 then
  ((S_X11_isWord (5 : Int32) w1.2).bind fun w2 =>
  if w2.1 = 0 then
  ((S_X11_advance (si w2.2 181 32 ((gi w2.2 181 32) + (1 : Int32)))).bind fun w3 =>
  (S_X11_mark (2 : Int32) (0 : Int32) (0 : Int32) w3.2).bind fun w4 =>
  (S_X11_block rS w4.2).bind fun w5 =>
  (S_X11_isWord (7 : Int32) w5.2).bind fun w6 =>
  if ¬ w6.1 = 0 then
  ((S_X11_advance w6.2).bind fun w7 =>
  (S_X11_mark (3 : Int32) (0 : Int32) (0 : Int32) w7.2).bind fun w8 =>
  (S_X11_block rS w8.2).bind fun w9 =>
  gd (inb (gi w3.2 181 21) 400) (
  gd (inb (gi w7.2 181 21) 400) (
  (S_X11_mark (4 : Int32) (0 : Int32) (0 : Int32) (si (si (si w9.2 181 32 ((gi w9.2 181 32) - (1 : Int32))) 190 (gi w3.2 181 21).toNatClampNeg ((gi w7.2 181 21) + (1 : Int32))) 190 (gi w7.2 181 21).toNatClampNeg (gi (si (si w9.2 181 32 ((gi w9.2 181 32) - (1 : Int32))) 190 (gi w3.2 181 21).toNatClampNeg ((gi w7.2 181 21) + (1 : Int32))) 181 21))).bind fun w10 =>
  some ((), w10.2))))
  else
  ((S_X11_stops w6.2).bind fun w11 =>
  some ((), w11.2)))
  else
  ((S_X11_check w2.2).bind fun w12 =>
  some ((), w12.2)))
  else
  ((S_X11_table w1.2).bind fun w13 =>
  some ((), w13.2))
theorem eqJ_X11_step_40 {M : Mem} {rF : Option Nat → Mem → Option (Unit × Mem)} {rS : Mem → Option (Unit × Mem)} (hrS : ∀  (Ma : Mem), FSR Ma → rF (some 181)  Ma = rS  Ma) (hrK : ∀ (a0 : Option Nat) (Ma : Mem) (w : Unit × Mem), rF a0 Ma = some w → KG Ma w.2) (hF : FSR M) : J_X11_step_40 rF (some 181) M = SJ_X11_step_40 rS  M := by
  unfold J_X11_step_40 SJ_X11_step_40
  refine (bi_fI (hF.kd 181)).trans ?_
  refine (bi_pI (hF.kd 181)).trans ?_
  have hF : FSR (si M 181 22 ((gi M 181 22) + (1 : Int32))) := hF.kg ⟨rfl, rfl, rfl⟩
  refine (bi_ck (hF.kd 181)).trans ?_
  refine bdc (eqS_X11_isWord hF) (fun w1 hw => ?_)
  have hF := hF.kg (keep_X11_isWord hw)
  refine itc (fun _ => ?_) (fun _ => ?_)
  · refine (bi_ck (hF.kd 181)).trans ?_
    refine bdc (eqS_X11_isWord hF) (fun w2 hw => ?_)
    have hF := hF.kg (keep_X11_isWord hw)
    refine itc (fun _ => ?_) (fun _ => ?_)
    · refine (bi_fI (hF.kd 181)).trans ?_
      refine (bi_pI (hF.kd 181)).trans ?_
      have hF : FSR (si w2.2 181 32 ((gi w2.2 181 32) + (1 : Int32))) := hF.kg ⟨rfl, rfl, rfl⟩
      refine (bi_ck (hF.kd 181)).trans ?_
      refine bdc (eqS_X11_advance hF) (fun w3 hw => ?_)
      have hF := hF.kg (keep_X11_advance hw)
      refine (bi_fI (hF.kd 181)).trans ?_
      refine (bi_ck (hF.kd 181)).trans ?_
      refine bdc (eqS_X11_mark hF) (fun w4 hw => ?_)
      have hF := hF.kg (keep_X11_mark hw)
      refine (bi_ck (hF.kd 181)).trans ?_
      refine bdc (eqS_X11_block hrS hrK hF) (fun w5 hw => ?_)
      have hF := hF.kg (keep_X11_block hrK hw)
      refine (bi_ck (hF.kd 181)).trans ?_
      refine bdc (eqS_X11_isWord hF) (fun w6 hw => ?_)
      have hF := hF.kg (keep_X11_isWord hw)
      refine itc (fun _ => ?_) (fun _ => ?_)
      · refine (bi_ck (hF.kd 181)).trans ?_
        refine bdc (eqS_X11_advance hF) (fun w7 hw => ?_)
        have hF := hF.kg (keep_X11_advance hw)
        refine (bi_fI (hF.kd 181)).trans ?_
        refine (bi_ck (hF.kd 181)).trans ?_
        refine bdc (eqS_X11_mark hF) (fun w8 hw => ?_)
        have hF := hF.kg (keep_X11_mark hw)
        refine (bi_ck (hF.kd 181)).trans ?_
        refine bdc (eqS_X11_block hrS hrK hF) (fun w9 hw => ?_)
        have hF := hF.kg (keep_X11_block hrK hw)
        refine (bi_fI (hF.kd 181)).trans ?_
        refine (bi_pI (hF.kd 181)).trans ?_
        have hF : FSR (si w9.2 181 32 ((gi w9.2 181 32) - (1 : Int32))) := hF.kg ⟨rfl, rfl, rfl⟩
        refine (bi_fR (hF.kd 181) (hF.gr 25)).trans ?_
        refine (bi_uI (hF.kd 190) (hF.ln 190)).trans ?_
        refine gd_congr (fun _ => ?_)
        have hF : FSR (si (si w9.2 181 32 ((gi w9.2 181 32) - (1 : Int32))) 190 (gi w3.2 181 21).toNatClampNeg ((gi w7.2 181 21) + (1 : Int32))) := hF.kg ⟨rfl, rfl, rfl⟩
        refine (bi_fR (hF.kd 181) (hF.gr 25)).trans ?_
        refine (bi_fI (hF.kd 181)).trans ?_
        refine (bi_uI (hF.kd 190) (hF.ln 190)).trans ?_
        refine gd_congr (fun _ => ?_)
        have hF : FSR (si (si (si w9.2 181 32 ((gi w9.2 181 32) - (1 : Int32))) 190 (gi w3.2 181 21).toNatClampNeg ((gi w7.2 181 21) + (1 : Int32))) 190 (gi w7.2 181 21).toNatClampNeg (gi (si (si w9.2 181 32 ((gi w9.2 181 32) - (1 : Int32))) 190 (gi w3.2 181 21).toNatClampNeg ((gi w7.2 181 21) + (1 : Int32))) 181 21)) := hF.kg ⟨rfl, rfl, rfl⟩
        refine (bi_ck (hF.kd 181)).trans ?_
        refine bdc (eqS_X11_mark hF) (fun w10 hw => ?_)
        have hF := hF.kg (keep_X11_mark hw)
        rfl
      · refine (bi_ck (hF.kd 181)).trans ?_
        refine bdc (eqS_X11_stops hF) (fun w11 hw => ?_)
        have hF := hF.kg (keep_X11_stops hw)
        rfl
    · refine (bi_ck (hF.kd 181)).trans ?_
      refine bdc (eqS_X11_check hF) (fun w12 hw => ?_)
      have hF := hF.kg (keep_X11_check hw)
      rfl
  · refine (bi_ck (hF.kd 181)).trans ?_
    refine bdc (eqS_X11_table hF) (fun w13 hw => ?_)
    have hF := hF.kg (keep_X11_table hw)
    rfl
theorem keepJ_X11_step_40 {M : Mem} {z : Unit × Mem} {rF : Option Nat → Mem → Option (Unit × Mem)} (hrK : ∀ (a0 : Option Nat) (Ma : Mem) (w : Unit × Mem), rF a0 Ma = some w → KG Ma w.2) {v0 : Option Nat} (h : J_X11_step_40 rF v0 M = some z) : KG M z.2 := by
  unfold J_X11_step_40 at h
  have hg : KG M M := KG.rf
  obtain ⟨_, -, h⟩ := bnd h
  obtain ⟨_, hw, h⟩ := bnd h
  have hg := hg.trans (kg_pI hw)
  obtain ⟨_, -, h⟩ := bnd h
  obtain ⟨w1, hw, h⟩ := bnd h
  have hg := hg.trans (keep_X11_isWord hw)
  rcases itor h with h | h
  · obtain ⟨_, -, h⟩ := bnd h
    obtain ⟨w2, hw, h⟩ := bnd h
    have hg := hg.trans (keep_X11_isWord hw)
    rcases itor h with h | h
    · obtain ⟨_, -, h⟩ := bnd h
      obtain ⟨_, hw, h⟩ := bnd h
      have hg := hg.trans (kg_pI hw)
      obtain ⟨_, -, h⟩ := bnd h
      obtain ⟨w3, hw, h⟩ := bnd h
      have hg := hg.trans (keep_X11_advance hw)
      obtain ⟨_, -, h⟩ := bnd h
      obtain ⟨_, -, h⟩ := bnd h
      obtain ⟨w4, hw, h⟩ := bnd h
      have hg := hg.trans (keep_X11_mark hw)
      obtain ⟨_, -, h⟩ := bnd h
      obtain ⟨w5, hw, h⟩ := bnd h
      have hg := hg.trans (keep_X11_block hrK hw)
      obtain ⟨_, -, h⟩ := bnd h
      obtain ⟨w6, hw, h⟩ := bnd h
      have hg := hg.trans (keep_X11_isWord hw)
      rcases itor h with h | h
      · obtain ⟨_, -, h⟩ := bnd h
        obtain ⟨w7, hw, h⟩ := bnd h
        have hg := hg.trans (keep_X11_advance hw)
        obtain ⟨_, -, h⟩ := bnd h
        obtain ⟨_, -, h⟩ := bnd h
        obtain ⟨w8, hw, h⟩ := bnd h
        have hg := hg.trans (keep_X11_mark hw)
        obtain ⟨_, -, h⟩ := bnd h
        obtain ⟨w9, hw, h⟩ := bnd h
        have hg := hg.trans (keep_X11_block hrK hw)
        obtain ⟨_, -, h⟩ := bnd h
        obtain ⟨_, hw, h⟩ := bnd h
        have hg := hg.trans (kg_pI hw)
        obtain ⟨_, -, h⟩ := bnd h
        obtain ⟨_, hw, h⟩ := bnd h
        have hg := hg.trans (kg_uI hw)
        obtain ⟨_, -, h⟩ := bnd h
        obtain ⟨_, -, h⟩ := bnd h
        obtain ⟨_, hw, h⟩ := bnd h
        have hg := hg.trans (kg_uI hw)
        obtain ⟨_, -, h⟩ := bnd h
        obtain ⟨w10, hw, h⟩ := bnd h
        have hg := hg.trans (keep_X11_mark hw)
        cases h; exact hg
      · obtain ⟨_, -, h⟩ := bnd h
        obtain ⟨w11, hw, h⟩ := bnd h
        have hg := hg.trans (keep_X11_stops hw)
        cases h; exact hg
    · obtain ⟨_, -, h⟩ := bnd h
      obtain ⟨w12, hw, h⟩ := bnd h
      have hg := hg.trans (keep_X11_check hw)
      cases h; exact hg
  · obtain ⟨_, -, h⟩ := bnd h
    obtain ⟨w13, hw, h⟩ := bnd h
    have hg := hg.trans (keep_X11_table hw)
    cases h; exact hg
def SJ_X11_step_22 (rS : Mem → Option (Unit × Mem))  (M : Mem) : Option (Unit × Mem) :=
  if (gi M 181 22) < (40 : Int32) then
  (SJ_X11_step_40 rS  M)
  else
  ((S_X11_tells (5 : Int32) (gi M 181 7) M).bind fun w14 =>
  SJ_X11_step_40 rS  w14.2)
theorem eqJ_X11_step_22 {M : Mem} {rF : Option Nat → Mem → Option (Unit × Mem)} {rS : Mem → Option (Unit × Mem)} (hrS : ∀  (Ma : Mem), FSR Ma → rF (some 181)  Ma = rS  Ma) (hrK : ∀ (a0 : Option Nat) (Ma : Mem) (w : Unit × Mem), rF a0 Ma = some w → KG Ma w.2) (hF : FSR M) : J_X11_step_22 rF (some 181) M = SJ_X11_step_22 rS  M := by
  unfold J_X11_step_22 SJ_X11_step_22
  refine (bi_fI (hF.kd 181)).trans ?_
  refine itc (fun _ => ?_) (fun _ => ?_)
  · exact eqJ_X11_step_40 hrS hrK hF
  · refine (bi_fI (hF.kd 181)).trans ?_
    refine (bi_ck (hF.kd 181)).trans ?_
    refine bdc (eqS_X11_tells hF) (fun w14 hw => ?_)
    have hF := hF.kg (keep_X11_tells hw)
    exact eqJ_X11_step_40 hrS hrK hF
theorem keepJ_X11_step_22 {M : Mem} {z : Unit × Mem} {rF : Option Nat → Mem → Option (Unit × Mem)} (hrK : ∀ (a0 : Option Nat) (Ma : Mem) (w : Unit × Mem), rF a0 Ma = some w → KG Ma w.2) {v0 : Option Nat} (h : J_X11_step_22 rF v0 M = some z) : KG M z.2 := by
  unfold J_X11_step_22 at h
  have hg : KG M M := KG.rf
  obtain ⟨_, -, h⟩ := bnd h
  rcases itor h with h | h
  · exact hg.trans (keepJ_X11_step_40 hrK h)
  · obtain ⟨_, -, h⟩ := bnd h
    obtain ⟨_, -, h⟩ := bnd h
    obtain ⟨w14, hw, h⟩ := bnd h
    have hg := hg.trans (keep_X11_tells hw)
    exact hg.trans (keepJ_X11_step_40 hrK h)
def SB_X11_step (rS : Mem → Option (Unit × Mem))  (M : Mem) : Option (Unit × Mem) :=
  (S_X11_isWord (6 : Int32) M).bind fun w15 =>
  if w15.1 = 0 then
  (SJ_X11_step_22 rS  w15.2)
  else
  (if ¬ (gi w15.2 181 32) = (3 : Int32) then
  (SJ_X11_step_22 rS  w15.2)
  else
  ((S_X11_stops w15.2).bind fun w16 =>
  some ((), w16.2)))
theorem eqB_X11_step {M : Mem} {rF : Option Nat → Mem → Option (Unit × Mem)} {rS : Mem → Option (Unit × Mem)} (hrS : ∀  (Ma : Mem), FSR Ma → rF (some 181)  Ma = rS  Ma) (hrK : ∀ (a0 : Option Nat) (Ma : Mem) (w : Unit × Mem), rF a0 Ma = some w → KG Ma w.2) (hF : FSR M) : B_X11_step rF (some 181) M = SB_X11_step rS  M := by
  unfold B_X11_step SB_X11_step
  refine (bi_ck (hF.kd 181)).trans ?_
  refine bdc (eqS_X11_isWord hF) (fun w15 hw => ?_)
  have hF := hF.kg (keep_X11_isWord hw)
  refine itc (fun _ => ?_) (fun _ => ?_)
  · exact eqJ_X11_step_22 hrS hrK hF
  · refine (bi_fI (hF.kd 181)).trans ?_
    refine itc (fun _ => ?_) (fun _ => ?_)
    · exact eqJ_X11_step_22 hrS hrK hF
    · refine (bi_ck (hF.kd 181)).trans ?_
      refine bdc (eqS_X11_stops hF) (fun w16 hw => ?_)
      have hF := hF.kg (keep_X11_stops hw)
      rfl
theorem keepB_X11_step {M : Mem} {z : Unit × Mem} {rF : Option Nat → Mem → Option (Unit × Mem)} (hrK : ∀ (a0 : Option Nat) (Ma : Mem) (w : Unit × Mem), rF a0 Ma = some w → KG Ma w.2) {v0 : Option Nat} (h : B_X11_step rF v0 M = some z) : KG M z.2 := by
  unfold B_X11_step at h
  have hg : KG M M := KG.rf
  obtain ⟨_, -, h⟩ := bnd h
  obtain ⟨w15, hw, h⟩ := bnd h
  have hg := hg.trans (keep_X11_isWord hw)
  rcases itor h with h | h
  · exact hg.trans (keepJ_X11_step_22 hrK h)
  · obtain ⟨_, -, h⟩ := bnd h
    rcases itor h with h | h
    · exact hg.trans (keepJ_X11_step_22 hrK h)
    · obtain ⟨_, -, h⟩ := bnd h
      obtain ⟨w16, hw, h⟩ := bnd h
      have hg := hg.trans (keep_X11_stops hw)
      cases h; exact hg
theorem keep_X11_step : ∀ (n : Nat) {M : Mem} {z : Unit × Mem} {v0 : Option Nat} (h : L_X11_step n v0 M = some z), KG M z.2
  | 0 => fun h => nomatch h
  | n + 1 => fun h => keepB_X11_step (rF := L_X11_step n) (fun _ _ _ h => keep_X11_step n h) h
def S_X11_step : Nat → Mem → Option (Unit × Mem)
  | 0 => fun _ => none
  | n + 1 => SB_X11_step (S_X11_step n)
theorem eqS_X11_step : ∀ (n : Nat) {M : Mem} (hF : FSR M), L_X11_step n (some 181) M = S_X11_step n  M
  | 0 => fun _ => rfl
  | n + 1 => fun hF => eqB_X11_step (rF := L_X11_step n) (rS := S_X11_step n) (fun _ hF => eqS_X11_step n hF) (fun _ _ _ h => keep_X11_step n h) hF
def SJ_X11_aConst_106  (M : Mem) : Option (Unit × Mem) :=
  some ((), si M 181 15 ((gi M 181 15) + (1 : Int32)))
theorem eqJ_X11_aConst_106 {M : Mem} (hF : FSR M) : J_X11_aConst_106 (some 181) M = SJ_X11_aConst_106  M := by
  unfold J_X11_aConst_106 SJ_X11_aConst_106
  refine (bi_fI (hF.kd 181)).trans ?_
  refine (bi_pI (hF.kd 181)).trans ?_
  have hF : FSR (si M 181 15 ((gi M 181 15) + (1 : Int32))) := hF.kg ⟨rfl, rfl, rfl⟩
  rfl
theorem keepJ_X11_aConst_106 {M : Mem} {z : Unit × Mem} {v0 : Option Nat} (h : J_X11_aConst_106 v0 M = some z) : KG M z.2 := by
  unfold J_X11_aConst_106 at h
  have hg : KG M M := KG.rf
  obtain ⟨_, -, h⟩ := bnd h
  obtain ⟨_, hw, h⟩ := bnd h
  have hg := hg.trans (kg_pI hw)
  cases h; exact hg
def SJ_X11_aConst_54 (v2 : Int64) (M : Mem) : Option (Unit × Mem) :=
  (S_X11_must (61 : Int32) M).bind fun w1 =>
  (S_X11_plainSum w1.2).bind fun w2 =>
  (S_X11_must (59 : Int32) w2.2).bind fun w3 =>
  if (8 : Int32) ≤ (gi w3.2 181 15) then
  (SJ_X11_aConst_106  w3.2)
  else
  (gd (inb (gi w3.2 181 15) 8) (
  gd (inb (gi (sl w3.2 184 (gi w3.2 181 15).toNatClampNeg v2) 181 15) 8) (
  SJ_X11_aConst_106  (si (sl w3.2 184 (gi w3.2 181 15).toNatClampNeg v2) 185 (gi (sl w3.2 184 (gi w3.2 181 15).toNatClampNeg v2) 181 15).toNatClampNeg (gi w1.2 181 27)))))
theorem eqJ_X11_aConst_54 {M : Mem} (hF : FSR M) {v2 : Int64} : J_X11_aConst_54 (some 181) v2 M = SJ_X11_aConst_54 v2 M := by
  unfold J_X11_aConst_54 SJ_X11_aConst_54
  refine (bi_ck (hF.kd 181)).trans ?_
  refine bdc (eqS_X11_must hF) (fun w1 hw => ?_)
  have hF := hF.kg (keep_X11_must hw)
  refine (bi_fI (hF.kd 181)).trans ?_
  refine (bi_ck (hF.kd 181)).trans ?_
  refine bdc (eqS_X11_plainSum hF) (fun w2 hw => ?_)
  have hF := hF.kg (keep_X11_plainSum hw)
  refine (bi_ck (hF.kd 181)).trans ?_
  refine bdc (eqS_X11_must hF) (fun w3 hw => ?_)
  have hF := hF.kg (keep_X11_must hw)
  refine (bi_fI (hF.kd 181)).trans ?_
  refine itc (fun _ => ?_) (fun _ => ?_)
  · exact eqJ_X11_aConst_106 hF
  · refine (bi_fR (hF.kd 181) (hF.gr 16)).trans ?_
    refine (bi_fI (hF.kd 181)).trans ?_
    refine (bi_uL (hF.kd 184) (hF.ln 184)).trans ?_
    refine gd_congr (fun _ => ?_)
    have hF : FSR (sl w3.2 184 (gi w3.2 181 15).toNatClampNeg v2) := hF.kg ⟨rfl, rfl, rfl⟩
    refine (bi_fR (hF.kd 181) (hF.gr 17)).trans ?_
    refine (bi_fI (hF.kd 181)).trans ?_
    refine (bi_uI (hF.kd 185) (hF.ln 185)).trans ?_
    refine gd_congr (fun _ => ?_)
    have hF : FSR (si (sl w3.2 184 (gi w3.2 181 15).toNatClampNeg v2) 185 (gi (sl w3.2 184 (gi w3.2 181 15).toNatClampNeg v2) 181 15).toNatClampNeg (gi w1.2 181 27)) := hF.kg ⟨rfl, rfl, rfl⟩
    exact eqJ_X11_aConst_106 hF
theorem keepJ_X11_aConst_54 {M : Mem} {z : Unit × Mem} {v0 : Option Nat} {v2 : Int64} (h : J_X11_aConst_54 v0 v2 M = some z) : KG M z.2 := by
  unfold J_X11_aConst_54 at h
  have hg : KG M M := KG.rf
  obtain ⟨_, -, h⟩ := bnd h
  obtain ⟨w1, hw, h⟩ := bnd h
  have hg := hg.trans (keep_X11_must hw)
  obtain ⟨_, -, h⟩ := bnd h
  obtain ⟨_, -, h⟩ := bnd h
  obtain ⟨w2, hw, h⟩ := bnd h
  have hg := hg.trans (keep_X11_plainSum hw)
  obtain ⟨_, -, h⟩ := bnd h
  obtain ⟨w3, hw, h⟩ := bnd h
  have hg := hg.trans (keep_X11_must hw)
  obtain ⟨_, -, h⟩ := bnd h
  rcases itor h with h | h
  · exact hg.trans (keepJ_X11_aConst_106 h)
  · obtain ⟨_, -, h⟩ := bnd h
    obtain ⟨_, -, h⟩ := bnd h
    obtain ⟨_, hw, h⟩ := bnd h
    have hg := hg.trans (kg_uL hw)
    obtain ⟨_, -, h⟩ := bnd h
    obtain ⟨_, -, h⟩ := bnd h
    obtain ⟨_, hw, h⟩ := bnd h
    have hg := hg.trans (kg_uI hw)
    exact hg.trans (keepJ_X11_aConst_106 h)
def SJ_X11_aConst_18  (M : Mem) : Option (Unit × Mem) :=
  (S_X11_advance M).bind fun w4 =>
  (S_X11_takesName w4.2).bind fun w5 =>
  if (gi w5.2 181 11) = 0 then
  ((S_X11_isTaken w5.1 w5.2).bind fun w6 =>
  if w6.1 = 0 then
  (SJ_X11_aConst_54 w5.1 w6.2)
  else
  ((S_X11_tells (2 : Int32) (gi w4.2 181 7) w6.2).bind fun w7 =>
  SJ_X11_aConst_54 w5.1 w7.2))
  else
  (some ((), w5.2))
theorem eqJ_X11_aConst_18 {M : Mem} (hF : FSR M) : J_X11_aConst_18 (some 181) M = SJ_X11_aConst_18  M := by
  unfold J_X11_aConst_18 SJ_X11_aConst_18
  refine (bi_ck (hF.kd 181)).trans ?_
  refine bdc (eqS_X11_advance hF) (fun w4 hw => ?_)
  have hF := hF.kg (keep_X11_advance hw)
  refine (bi_fI (hF.kd 181)).trans ?_
  refine (bi_ck (hF.kd 181)).trans ?_
  refine bdc (eqS_X11_takesName hF) (fun w5 hw => ?_)
  have hF := hF.kg (keep_X11_takesName hw)
  refine (bi_fI (hF.kd 181)).trans ?_
  refine itc (fun _ => ?_) (fun _ => ?_)
  · refine (bi_ck (hF.kd 181)).trans ?_
    refine bdc (eqS_X11_isTaken hF) (fun w6 hw => ?_)
    have hF := hF.kg (keep_X11_isTaken hw)
    refine itc (fun _ => ?_) (fun _ => ?_)
    · exact eqJ_X11_aConst_54 hF
    · refine (bi_ck (hF.kd 181)).trans ?_
      refine bdc (eqS_X11_tells hF) (fun w7 hw => ?_)
      have hF := hF.kg (keep_X11_tells hw)
      exact eqJ_X11_aConst_54 hF
  · rfl
theorem keepJ_X11_aConst_18 {M : Mem} {z : Unit × Mem} {v0 : Option Nat} (h : J_X11_aConst_18 v0 M = some z) : KG M z.2 := by
  unfold J_X11_aConst_18 at h
  have hg : KG M M := KG.rf
  obtain ⟨_, -, h⟩ := bnd h
  obtain ⟨w4, hw, h⟩ := bnd h
  have hg := hg.trans (keep_X11_advance hw)
  obtain ⟨_, -, h⟩ := bnd h
  obtain ⟨_, -, h⟩ := bnd h
  obtain ⟨w5, hw, h⟩ := bnd h
  have hg := hg.trans (keep_X11_takesName hw)
  obtain ⟨_, -, h⟩ := bnd h
  rcases itor h with h | h
  · obtain ⟨_, -, h⟩ := bnd h
    obtain ⟨w6, hw, h⟩ := bnd h
    have hg := hg.trans (keep_X11_isTaken hw)
    rcases itor h with h | h
    · exact hg.trans (keepJ_X11_aConst_54 h)
    · obtain ⟨_, -, h⟩ := bnd h
      obtain ⟨w7, hw, h⟩ := bnd h
      have hg := hg.trans (keep_X11_tells hw)
      exact hg.trans (keepJ_X11_aConst_54 h)
  · cases h; exact hg
def S_X11_aConst  (M : Mem) : Option (Unit × Mem) :=
  if (gi M 181 15) < (8 : Int32) then
  (SJ_X11_aConst_18  M)
  else
  ((S_X11_tells (5 : Int32) (gi M 181 7) M).bind fun w8 =>
  SJ_X11_aConst_18  w8.2)
theorem eqS_X11_aConst {M : Mem} (hF : FSR M) : L_X11_aConst (some 181) M = S_X11_aConst  M := by
  unfold L_X11_aConst S_X11_aConst
  refine (bi_fI (hF.kd 181)).trans ?_
  refine itc (fun _ => ?_) (fun _ => ?_)
  · exact eqJ_X11_aConst_18 hF
  · refine (bi_fI (hF.kd 181)).trans ?_
    refine (bi_ck (hF.kd 181)).trans ?_
    refine bdc (eqS_X11_tells hF) (fun w8 hw => ?_)
    have hF := hF.kg (keep_X11_tells hw)
    exact eqJ_X11_aConst_18 hF
theorem keep_X11_aConst {M : Mem} {z : Unit × Mem} {v0 : Option Nat} (h : L_X11_aConst v0 M = some z) : KG M z.2 := by
  unfold L_X11_aConst at h
  have hg : KG M M := KG.rf
  obtain ⟨_, -, h⟩ := bnd h
  rcases itor h with h | h
  · exact hg.trans (keepJ_X11_aConst_18 h)
  · obtain ⟨_, -, h⟩ := bnd h
    obtain ⟨_, -, h⟩ := bnd h
    obtain ⟨w8, hw, h⟩ := bnd h
    have hg := hg.trans (keep_X11_tells hw)
    exact hg.trans (keepJ_X11_aConst_18 h)
def SJ_X11_rule_16  (M : Mem) : Option (Unit × Mem) :=
  (S_X11_advance M).bind fun w1 =>
  (S_X11_whole (si w1.2 181 34 (1 : Int32))).bind fun w2 =>
  (S_X11_must (59 : Int32) (si w2.2 181 34 (0 : Int32))).bind fun w3 =>
  if 0 ≤ (gi w3.2 181 26) then
  (some ((), w3.2))
  else
  (some ((), si w3.2 181 26 (gi w1.2 181 27)))
theorem eqJ_X11_rule_16 {M : Mem} (hF : FSR M) : J_X11_rule_16 (some 181) M = SJ_X11_rule_16  M := by
  unfold J_X11_rule_16 SJ_X11_rule_16
  refine (bi_ck (hF.kd 181)).trans ?_
  refine bdc (eqS_X11_advance hF) (fun w1 hw => ?_)
  have hF := hF.kg (keep_X11_advance hw)
  refine (bi_fI (hF.kd 181)).trans ?_
  refine (bi_pZl (hF.kd 181) (by decide)).trans ?_
  have hF : FSR (si w1.2 181 34 (1 : Int32)) := hF.kg ⟨rfl, rfl, rfl⟩
  refine (bi_ck (hF.kd 181)).trans ?_
  refine bdc (eqS_X11_whole hF) (fun w2 hw => ?_)
  have hF := hF.kg (keep_X11_whole hw)
  refine (bi_pZl (hF.kd 181) (by decide)).trans ?_
  have hF : FSR (si w2.2 181 34 (0 : Int32)) := hF.kg ⟨rfl, rfl, rfl⟩
  refine (bi_ck (hF.kd 181)).trans ?_
  refine bdc (eqS_X11_must hF) (fun w3 hw => ?_)
  have hF := hF.kg (keep_X11_must hw)
  refine (bi_fI (hF.kd 181)).trans ?_
  refine itc (fun _ => ?_) (fun _ => ?_)
  · rfl
  · refine (bi_pI (hF.kd 181)).trans ?_
    have hF : FSR (si w3.2 181 26 (gi w1.2 181 27)) := hF.kg ⟨rfl, rfl, rfl⟩
    rfl
theorem keepJ_X11_rule_16 {M : Mem} {z : Unit × Mem} {v0 : Option Nat} (h : J_X11_rule_16 v0 M = some z) : KG M z.2 := by
  unfold J_X11_rule_16 at h
  have hg : KG M M := KG.rf
  obtain ⟨_, -, h⟩ := bnd h
  obtain ⟨w1, hw, h⟩ := bnd h
  have hg := hg.trans (keep_X11_advance hw)
  obtain ⟨_, -, h⟩ := bnd h
  obtain ⟨_, hw, h⟩ := bnd h
  have hg := hg.trans (kg_pZ hw)
  obtain ⟨_, -, h⟩ := bnd h
  obtain ⟨w2, hw, h⟩ := bnd h
  have hg := hg.trans (keep_X11_whole hw)
  obtain ⟨_, hw, h⟩ := bnd h
  have hg := hg.trans (kg_pZ hw)
  obtain ⟨_, -, h⟩ := bnd h
  obtain ⟨w3, hw, h⟩ := bnd h
  have hg := hg.trans (keep_X11_must hw)
  obtain ⟨_, -, h⟩ := bnd h
  rcases itor h with h | h
  · cases h; exact hg
  · obtain ⟨_, hw, h⟩ := bnd h
    have hg := hg.trans (kg_pI hw)
    cases h; exact hg
def S_X11_rule  (M : Mem) : Option (Unit × Mem) :=
  if (gi M 181 26) < 0 then
  (SJ_X11_rule_16  M)
  else
  ((S_X11_tells (2 : Int32) (gi M 181 7) M).bind fun w4 =>
  SJ_X11_rule_16  w4.2)
theorem eqS_X11_rule {M : Mem} (hF : FSR M) : L_X11_rule (some 181) M = S_X11_rule  M := by
  unfold L_X11_rule S_X11_rule
  refine (bi_fI (hF.kd 181)).trans ?_
  refine itc (fun _ => ?_) (fun _ => ?_)
  · exact eqJ_X11_rule_16 hF
  · refine (bi_fI (hF.kd 181)).trans ?_
    refine (bi_ck (hF.kd 181)).trans ?_
    refine bdc (eqS_X11_tells hF) (fun w4 hw => ?_)
    have hF := hF.kg (keep_X11_tells hw)
    exact eqJ_X11_rule_16 hF
theorem keep_X11_rule {M : Mem} {z : Unit × Mem} {v0 : Option Nat} (h : L_X11_rule v0 M = some z) : KG M z.2 := by
  unfold L_X11_rule at h
  have hg : KG M M := KG.rf
  obtain ⟨_, -, h⟩ := bnd h
  rcases itor h with h | h
  · exact hg.trans (keepJ_X11_rule_16 h)
  · obtain ⟨_, -, h⟩ := bnd h
    obtain ⟨_, -, h⟩ := bnd h
    obtain ⟨w4, hw, h⟩ := bnd h
    have hg := hg.trans (keep_X11_tells hw)
    exact hg.trans (keepJ_X11_rule_16 h)
def SJ_X11_reads_184 (k_114 : Mem → Option (Unit × Mem))  (M : Mem) : Option (Unit × Mem) :=
  (S_X11_step 6 M).bind fun w1 =>
  k_114  w1.2
theorem eqJ_X11_reads_184 {M : Mem} {k_114 : Option Nat → Mem → Option (Unit × Mem)} {q_114 : Mem → Option (Unit × Mem)} (hk_114 : ∀  (Ma : Mem), FSR Ma → k_114 (some 181) Ma = q_114  Ma) (hF : FSR M) : J_X11_reads_184 k_114 (some 181) M = SJ_X11_reads_184 q_114  M := by
  unfold J_X11_reads_184 SJ_X11_reads_184
  refine (bi_ck (hF.kd 181)).trans ?_
  refine bdc (eqS_X11_step 6 hF) (fun w1 hw => ?_)
  have hF := hF.kg (keep_X11_step 6 hw)
  exact hk_114  _ hF
theorem keepJ_X11_reads_184 {M : Mem} {z : Unit × Mem} {k_114 : Option Nat → Mem → Option (Unit × Mem)} (hk_114 : ∀ (v0 : Option Nat) (Ma : Mem), k_114 v0 Ma = some z → KG Ma z.2) {v0 : Option Nat} (h : J_X11_reads_184 k_114 v0 M = some z) : KG M z.2 := by
  unfold J_X11_reads_184 at h
  have hg : KG M M := KG.rf
  obtain ⟨_, -, h⟩ := bnd h
  obtain ⟨w1, hw, h⟩ := bnd h
  have hg := hg.trans (keep_X11_step 6 hw)
  exact hg.trans (hk_114 _ _ h)
def SJ_X11_reads_114 : Nat → Mem → Option (Unit × Mem)
  | 0 => fun  _ => none
  | n + 1 => fun  M =>
  if ¬ (gi M 181 11) = 0 then
  (some ((), M))
  else
  (if (gi M 181 6) = (4 : Int32) then
  (some ((), M))
  else
  ((S_X11_isWord (2 : Int32) M).bind fun w2 =>
  if w2.1 = 0 then
  ((S_X11_isWord (3 : Int32) w2.2).bind fun w3 =>
  if w3.1 = 0 then
  ((S_X11_isWord (4 : Int32) w3.2).bind fun w4 =>
  if ¬ w4.1 = 0 then
  (SJ_X11_reads_184 (SJ_X11_reads_114 n)  w4.2)
  else
  ((S_X11_isWord (5 : Int32) w4.2).bind fun w5 =>
  if ¬ w5.1 = 0 then
  (SJ_X11_reads_184 (SJ_X11_reads_114 n)  w5.2)
  else
  ((S_X11_isWord (6 : Int32) w5.2).bind fun w6 =>
  if w6.1 = 0 then
  ((S_X11_stops w6.2).bind fun w7 =>
  SJ_X11_reads_114 n  w7.2)
  else
  (SJ_X11_reads_184 (SJ_X11_reads_114 n)  w6.2))))
  else
  ((S_X11_rule w3.2).bind fun w8 =>
  SJ_X11_reads_114 n  w8.2))
  else
  ((S_X11_aConst w2.2).bind fun w9 =>
  SJ_X11_reads_114 n  w9.2)))
theorem eqJ_X11_reads_114 : ∀ (n : Nat)  (M : Mem), FSR M → J_X11_reads_114 n (some 181) M = SJ_X11_reads_114 n  M := by
  intro n
  induction n with
  | zero => intro  M hF; rfl
  | succ n ih =>
    intro  M hF
    unfold J_X11_reads_114 SJ_X11_reads_114
    refine (bi_fI (hF.kd 181)).trans ?_
    refine itc (fun _ => ?_) (fun _ => ?_)
    · rfl
    · refine (bi_fI (hF.kd 181)).trans ?_
      refine itc (fun _ => ?_) (fun _ => ?_)
      · rfl
      · refine (bi_ck (hF.kd 181)).trans ?_
        refine bdc (eqS_X11_isWord hF) (fun w2 hw => ?_)
        have hF := hF.kg (keep_X11_isWord hw)
        refine itc (fun _ => ?_) (fun _ => ?_)
        · refine (bi_ck (hF.kd 181)).trans ?_
          refine bdc (eqS_X11_isWord hF) (fun w3 hw => ?_)
          have hF := hF.kg (keep_X11_isWord hw)
          refine itc (fun _ => ?_) (fun _ => ?_)
          · refine (bi_ck (hF.kd 181)).trans ?_
            refine bdc (eqS_X11_isWord hF) (fun w4 hw => ?_)
            have hF := hF.kg (keep_X11_isWord hw)
            refine itc (fun _ => ?_) (fun _ => ?_)
            · exact eqJ_X11_reads_184 ih hF
            · refine (bi_ck (hF.kd 181)).trans ?_
              refine bdc (eqS_X11_isWord hF) (fun w5 hw => ?_)
              have hF := hF.kg (keep_X11_isWord hw)
              refine itc (fun _ => ?_) (fun _ => ?_)
              · exact eqJ_X11_reads_184 ih hF
              · refine (bi_ck (hF.kd 181)).trans ?_
                refine bdc (eqS_X11_isWord hF) (fun w6 hw => ?_)
                have hF := hF.kg (keep_X11_isWord hw)
                refine itc (fun _ => ?_) (fun _ => ?_)
                · refine (bi_ck (hF.kd 181)).trans ?_
                  refine bdc (eqS_X11_stops hF) (fun w7 hw => ?_)
                  have hF := hF.kg (keep_X11_stops hw)
                  exact ih  _ hF
                · exact eqJ_X11_reads_184 ih hF
          · refine (bi_ck (hF.kd 181)).trans ?_
            refine bdc (eqS_X11_rule hF) (fun w8 hw => ?_)
            have hF := hF.kg (keep_X11_rule hw)
            exact ih  _ hF
        · refine (bi_ck (hF.kd 181)).trans ?_
          refine bdc (eqS_X11_aConst hF) (fun w9 hw => ?_)
          have hF := hF.kg (keep_X11_aConst hw)
          exact ih  _ hF
theorem keepJ_X11_reads_114 {z : Unit × Mem} : ∀ (n : Nat) (v0 : Option Nat) (M : Mem), J_X11_reads_114 n v0 M = some z → KG M z.2 := by
  intro n
  induction n with
  | zero => intro v0 M h; exact nomatch h
  | succ n ih =>
    intro v0 M h
    unfold J_X11_reads_114 at h
    have hg : KG M M := KG.rf
    obtain ⟨_, -, h⟩ := bnd h
    rcases itor h with h | h
    · cases h; exact hg
    · obtain ⟨_, -, h⟩ := bnd h
      rcases itor h with h | h
      · cases h; exact hg
      · obtain ⟨_, -, h⟩ := bnd h
        obtain ⟨w2, hw, h⟩ := bnd h
        have hg := hg.trans (keep_X11_isWord hw)
        rcases itor h with h | h
        · obtain ⟨_, -, h⟩ := bnd h
          obtain ⟨w3, hw, h⟩ := bnd h
          have hg := hg.trans (keep_X11_isWord hw)
          rcases itor h with h | h
          · obtain ⟨_, -, h⟩ := bnd h
            obtain ⟨w4, hw, h⟩ := bnd h
            have hg := hg.trans (keep_X11_isWord hw)
            rcases itor h with h | h
            · exact hg.trans (keepJ_X11_reads_184 ih h)
            · obtain ⟨_, -, h⟩ := bnd h
              obtain ⟨w5, hw, h⟩ := bnd h
              have hg := hg.trans (keep_X11_isWord hw)
              rcases itor h with h | h
              · exact hg.trans (keepJ_X11_reads_184 ih h)
              · obtain ⟨_, -, h⟩ := bnd h
                obtain ⟨w6, hw, h⟩ := bnd h
                have hg := hg.trans (keep_X11_isWord hw)
                rcases itor h with h | h
                · obtain ⟨_, -, h⟩ := bnd h
                  obtain ⟨w7, hw, h⟩ := bnd h
                  have hg := hg.trans (keep_X11_stops hw)
                  exact hg.trans (ih _ _ h)
                · exact hg.trans (keepJ_X11_reads_184 ih h)
          · obtain ⟨_, -, h⟩ := bnd h
            obtain ⟨w8, hw, h⟩ := bnd h
            have hg := hg.trans (keep_X11_rule hw)
            exact hg.trans (ih _ _ h)
        · obtain ⟨_, -, h⟩ := bnd h
          obtain ⟨w9, hw, h⟩ := bnd h
          have hg := hg.trans (keep_X11_aConst hw)
          exact hg.trans (ih _ _ h)
def SJ_X11_reads_108  (M : Mem) : Option (Unit × Mem) :=
  (S_X11_must (59 : Int32) M).bind fun w10 =>
  SJ_X11_reads_114 FU  w10.2
theorem eqJ_X11_reads_108 {M : Mem} (hF : FSR M) : J_X11_reads_108 (some 181) M = SJ_X11_reads_108  M := by
  unfold J_X11_reads_108 SJ_X11_reads_108
  refine (bi_ck (hF.kd 181)).trans ?_
  refine bdc (eqS_X11_must hF) (fun w10 hw => ?_)
  have hF := hF.kg (keep_X11_must hw)
  exact eqJ_X11_reads_114 FU  _ hF
theorem keepJ_X11_reads_108 {M : Mem} {z : Unit × Mem} {v0 : Option Nat} (h : J_X11_reads_108 v0 M = some z) : KG M z.2 := by
  unfold J_X11_reads_108 at h
  have hg : KG M M := KG.rf
  obtain ⟨_, -, h⟩ := bnd h
  obtain ⟨w10, hw, h⟩ := bnd h
  have hg := hg.trans (keep_X11_must hw)
  exact hg.trans (keepJ_X11_reads_114 FU _ _ h)
def S_X11_reads  (M : Mem) : Option (Unit × Mem) :=
  (S_X11_advance (si (si (si (si (si (si (si (si (si (si (si (si (si M 181 5 (0 : Int32)) 181 11 (0 : Int32)) 181 2 (0 : Int32)) 181 3 (-1 : Int32)) 181 14 (-1 : Int32)) 181 15 (0 : Int32)) 181 18 (0 : Int32)) 181 21 (0 : Int32)) 181 22 (0 : Int32)) 181 26 (-1 : Int32)) 181 27 (0 : Int32)) 181 32 (0 : Int32)) 181 35 (0 : Int32))).bind fun w11 =>
  (S_X11_isWord (1 : Int32) w11.2).bind fun w12 =>
  if w12.1 = 0 then
  (SJ_X11_reads_114 FU  w12.2)
  else
  ((S_X11_advance w12.2).bind fun w13 =>
  (S_X11_takesNumber w13.2).bind fun w14 =>
  if ¬ (gi w14.2 181 11) = 0 then
  (SJ_X11_reads_108  w14.2)
  else
  ((S_X11_yearOf w14.1 (gi w13.2 181 7) w14.2).bind fun w15 =>
  SJ_X11_reads_108  (si w15.2 181 14 w15.1)))
theorem eqS_X11_reads {M : Mem} (hF : FSR M) : L_X11_reads (some 181) M = S_X11_reads  M := by
  unfold L_X11_reads S_X11_reads
  refine (bi_pI (hF.kd 181)).trans ?_
  have hF : FSR (si M 181 5 (0 : Int32)) := hF.kg ⟨rfl, rfl, rfl⟩
  refine (bi_pZl (hF.kd 181) (by decide)).trans ?_
  have hF : FSR (si (si M 181 5 (0 : Int32)) 181 11 (0 : Int32)) := hF.kg ⟨rfl, rfl, rfl⟩
  refine (bi_pI (hF.kd 181)).trans ?_
  have hF : FSR (si (si (si M 181 5 (0 : Int32)) 181 11 (0 : Int32)) 181 2 (0 : Int32)) := hF.kg ⟨rfl, rfl, rfl⟩
  refine (bi_pI (hF.kd 181)).trans ?_
  have hF : FSR (si (si (si (si M 181 5 (0 : Int32)) 181 11 (0 : Int32)) 181 2 (0 : Int32)) 181 3 (-1 : Int32)) := hF.kg ⟨rfl, rfl, rfl⟩
  refine (bi_pI (hF.kd 181)).trans ?_
  have hF : FSR (si (si (si (si (si M 181 5 (0 : Int32)) 181 11 (0 : Int32)) 181 2 (0 : Int32)) 181 3 (-1 : Int32)) 181 14 (-1 : Int32)) := hF.kg ⟨rfl, rfl, rfl⟩
  refine (bi_pI (hF.kd 181)).trans ?_
  have hF : FSR (si (si (si (si (si (si M 181 5 (0 : Int32)) 181 11 (0 : Int32)) 181 2 (0 : Int32)) 181 3 (-1 : Int32)) 181 14 (-1 : Int32)) 181 15 (0 : Int32)) := hF.kg ⟨rfl, rfl, rfl⟩
  refine (bi_pI (hF.kd 181)).trans ?_
  have hF : FSR (si (si (si (si (si (si (si M 181 5 (0 : Int32)) 181 11 (0 : Int32)) 181 2 (0 : Int32)) 181 3 (-1 : Int32)) 181 14 (-1 : Int32)) 181 15 (0 : Int32)) 181 18 (0 : Int32)) := hF.kg ⟨rfl, rfl, rfl⟩
  refine (bi_pI (hF.kd 181)).trans ?_
  have hF : FSR (si (si (si (si (si (si (si (si M 181 5 (0 : Int32)) 181 11 (0 : Int32)) 181 2 (0 : Int32)) 181 3 (-1 : Int32)) 181 14 (-1 : Int32)) 181 15 (0 : Int32)) 181 18 (0 : Int32)) 181 21 (0 : Int32)) := hF.kg ⟨rfl, rfl, rfl⟩
  refine (bi_pI (hF.kd 181)).trans ?_
  have hF : FSR (si (si (si (si (si (si (si (si (si M 181 5 (0 : Int32)) 181 11 (0 : Int32)) 181 2 (0 : Int32)) 181 3 (-1 : Int32)) 181 14 (-1 : Int32)) 181 15 (0 : Int32)) 181 18 (0 : Int32)) 181 21 (0 : Int32)) 181 22 (0 : Int32)) := hF.kg ⟨rfl, rfl, rfl⟩
  refine (bi_pI (hF.kd 181)).trans ?_
  have hF : FSR (si (si (si (si (si (si (si (si (si (si M 181 5 (0 : Int32)) 181 11 (0 : Int32)) 181 2 (0 : Int32)) 181 3 (-1 : Int32)) 181 14 (-1 : Int32)) 181 15 (0 : Int32)) 181 18 (0 : Int32)) 181 21 (0 : Int32)) 181 22 (0 : Int32)) 181 26 (-1 : Int32)) := hF.kg ⟨rfl, rfl, rfl⟩
  refine (bi_pI (hF.kd 181)).trans ?_
  have hF : FSR (si (si (si (si (si (si (si (si (si (si (si M 181 5 (0 : Int32)) 181 11 (0 : Int32)) 181 2 (0 : Int32)) 181 3 (-1 : Int32)) 181 14 (-1 : Int32)) 181 15 (0 : Int32)) 181 18 (0 : Int32)) 181 21 (0 : Int32)) 181 22 (0 : Int32)) 181 26 (-1 : Int32)) 181 27 (0 : Int32)) := hF.kg ⟨rfl, rfl, rfl⟩
  refine (bi_pI (hF.kd 181)).trans ?_
  have hF : FSR (si (si (si (si (si (si (si (si (si (si (si (si M 181 5 (0 : Int32)) 181 11 (0 : Int32)) 181 2 (0 : Int32)) 181 3 (-1 : Int32)) 181 14 (-1 : Int32)) 181 15 (0 : Int32)) 181 18 (0 : Int32)) 181 21 (0 : Int32)) 181 22 (0 : Int32)) 181 26 (-1 : Int32)) 181 27 (0 : Int32)) 181 32 (0 : Int32)) := hF.kg ⟨rfl, rfl, rfl⟩
  refine (bi_pI (hF.kd 181)).trans ?_
  have hF : FSR (si (si (si (si (si (si (si (si (si (si (si (si (si M 181 5 (0 : Int32)) 181 11 (0 : Int32)) 181 2 (0 : Int32)) 181 3 (-1 : Int32)) 181 14 (-1 : Int32)) 181 15 (0 : Int32)) 181 18 (0 : Int32)) 181 21 (0 : Int32)) 181 22 (0 : Int32)) 181 26 (-1 : Int32)) 181 27 (0 : Int32)) 181 32 (0 : Int32)) 181 35 (0 : Int32)) := hF.kg ⟨rfl, rfl, rfl⟩
  refine (bi_ck (hF.kd 181)).trans ?_
  refine bdc (eqS_X11_advance hF) (fun w11 hw => ?_)
  have hF := hF.kg (keep_X11_advance hw)
  refine (bi_ck (hF.kd 181)).trans ?_
  refine bdc (eqS_X11_isWord hF) (fun w12 hw => ?_)
  have hF := hF.kg (keep_X11_isWord hw)
  refine itc (fun _ => ?_) (fun _ => ?_)
  · exact eqJ_X11_reads_114 FU  _ hF
  · refine (bi_ck (hF.kd 181)).trans ?_
    refine bdc (eqS_X11_advance hF) (fun w13 hw => ?_)
    have hF := hF.kg (keep_X11_advance hw)
    refine (bi_fI (hF.kd 181)).trans ?_
    refine (bi_ck (hF.kd 181)).trans ?_
    refine bdc (eqS_X11_takesNumber hF) (fun w14 hw => ?_)
    have hF := hF.kg (keep_X11_takesNumber hw)
    refine (bi_fI (hF.kd 181)).trans ?_
    refine itc (fun _ => ?_) (fun _ => ?_)
    · exact eqJ_X11_reads_108 hF
    · refine (bi_ck (hF.kd 181)).trans ?_
      refine bdc (eqS_X11_yearOf hF) (fun w15 hw => ?_)
      have hF := hF.kg (keep_X11_yearOf hw)
      refine (bi_pI (hF.kd 181)).trans ?_
      have hF : FSR (si w15.2 181 14 w15.1) := hF.kg ⟨rfl, rfl, rfl⟩
      exact eqJ_X11_reads_108 hF
theorem keep_X11_reads {M : Mem} {z : Unit × Mem} {v0 : Option Nat} (h : L_X11_reads v0 M = some z) : KG M z.2 := by
  unfold L_X11_reads at h
  have hg : KG M M := KG.rf
  obtain ⟨_, hw, h⟩ := bnd h
  have hg := hg.trans (kg_pI hw)
  obtain ⟨_, hw, h⟩ := bnd h
  have hg := hg.trans (kg_pZ hw)
  obtain ⟨_, hw, h⟩ := bnd h
  have hg := hg.trans (kg_pI hw)
  obtain ⟨_, hw, h⟩ := bnd h
  have hg := hg.trans (kg_pI hw)
  obtain ⟨_, hw, h⟩ := bnd h
  have hg := hg.trans (kg_pI hw)
  obtain ⟨_, hw, h⟩ := bnd h
  have hg := hg.trans (kg_pI hw)
  obtain ⟨_, hw, h⟩ := bnd h
  have hg := hg.trans (kg_pI hw)
  obtain ⟨_, hw, h⟩ := bnd h
  have hg := hg.trans (kg_pI hw)
  obtain ⟨_, hw, h⟩ := bnd h
  have hg := hg.trans (kg_pI hw)
  obtain ⟨_, hw, h⟩ := bnd h
  have hg := hg.trans (kg_pI hw)
  obtain ⟨_, hw, h⟩ := bnd h
  have hg := hg.trans (kg_pI hw)
  obtain ⟨_, hw, h⟩ := bnd h
  have hg := hg.trans (kg_pI hw)
  obtain ⟨_, hw, h⟩ := bnd h
  have hg := hg.trans (kg_pI hw)
  obtain ⟨_, -, h⟩ := bnd h
  obtain ⟨w11, hw, h⟩ := bnd h
  have hg := hg.trans (keep_X11_advance hw)
  obtain ⟨_, -, h⟩ := bnd h
  obtain ⟨w12, hw, h⟩ := bnd h
  have hg := hg.trans (keep_X11_isWord hw)
  rcases itor h with h | h
  · exact hg.trans (keepJ_X11_reads_114 FU _ _ h)
  · obtain ⟨_, -, h⟩ := bnd h
    obtain ⟨w13, hw, h⟩ := bnd h
    have hg := hg.trans (keep_X11_advance hw)
    obtain ⟨_, -, h⟩ := bnd h
    obtain ⟨_, -, h⟩ := bnd h
    obtain ⟨w14, hw, h⟩ := bnd h
    have hg := hg.trans (keep_X11_takesNumber hw)
    obtain ⟨_, -, h⟩ := bnd h
    rcases itor h with h | h
    · exact hg.trans (keepJ_X11_reads_108 h)
    · obtain ⟨_, -, h⟩ := bnd h
      obtain ⟨w15, hw, h⟩ := bnd h
      have hg := hg.trans (keep_X11_yearOf hw)
      obtain ⟨_, hw, h⟩ := bnd h
      have hg := hg.trans (kg_pI hw)
      exact hg.trans (keepJ_X11_reads_108 h)
def SJ_X11_keeps_236 : Nat → Int32 → Int32 → Mem → Option (Unit × Mem)
  | 0 => fun _ _ _ => none
  | n + 1 => fun v1 v2 M =>
  if (gi M 181 27) ≤ v2 then
  (some ((), M))
  else
  (gd (inb v2 2000) (
  gd (inb (((1200 : Int32) * v1) + v2) 72000) (
  gd (inb v2 2000) (
  gd (inb (((1200 : Int32) * v1) + v2) 72000) (
  gd (inb v2 2000) (
  gd (inb (((1200 : Int32) * v1) + v2) 72000) (
  SJ_X11_keeps_236 n v1 (v2 + 1) (si (sl (si M 208 (((1200 : Int32) * v1) + v2).toNatClampNeg (gi M 191 v2.toNatClampNeg)) 209 (((1200 : Int32) * v1) + v2).toNatClampNeg (gl (si M 208 (((1200 : Int32) * v1) + v2).toNatClampNeg (gi M 191 v2.toNatClampNeg)) 192 v2.toNatClampNeg)) 210 (((1200 : Int32) * v1) + v2).toNatClampNeg (gi (sl (si M 208 (((1200 : Int32) * v1) + v2).toNatClampNeg (gi M 191 v2.toNatClampNeg)) 209 (((1200 : Int32) * v1) + v2).toNatClampNeg (gl (si M 208 (((1200 : Int32) * v1) + v2).toNatClampNeg (gi M 191 v2.toNatClampNeg)) 192 v2.toNatClampNeg)) 193 v2.toNatClampNeg)))))))))
theorem eqJ_X11_keeps_236 : ∀ (n : Nat) (v1 : Int32) (v2 : Int32) (M : Mem), FSR M → J_X11_keeps_236 n (some 181) v1 v2 M = SJ_X11_keeps_236 n v1 v2 M := by
  intro n
  induction n with
  | zero => intro v1 v2 M hF; rfl
  | succ n ih =>
    intro v1 v2 M hF
    unfold J_X11_keeps_236 SJ_X11_keeps_236
    refine (bi_fI (hF.kd 181)).trans ?_
    refine itc (fun _ => ?_) (fun _ => ?_)
    · rfl
    · refine (bi_fR (hF.kd 181) (hF.gr 50)).trans ?_
      refine (bi_fR (hF.kd 181) (hF.gr 28)).trans ?_
      refine (bi_aI (hF.kd 191) (hF.ln 191)).trans ?_
      refine gd_congr (fun _ => ?_)
      refine (bi_uI (hF.kd 208) (hF.ln 208)).trans ?_
      refine gd_congr (fun _ => ?_)
      have hF : FSR (si M 208 (((1200 : Int32) * v1) + v2).toNatClampNeg (gi M 191 v2.toNatClampNeg)) := hF.kg ⟨rfl, rfl, rfl⟩
      refine (bi_fR (hF.kd 181) (hF.gr 51)).trans ?_
      refine (bi_fR (hF.kd 181) (hF.gr 29)).trans ?_
      refine (bi_aL (hF.kd 192) (hF.ln 192)).trans ?_
      refine gd_congr (fun _ => ?_)
      refine (bi_uL (hF.kd 209) (hF.ln 209)).trans ?_
      refine gd_congr (fun _ => ?_)
      have hF : FSR (sl (si M 208 (((1200 : Int32) * v1) + v2).toNatClampNeg (gi M 191 v2.toNatClampNeg)) 209 (((1200 : Int32) * v1) + v2).toNatClampNeg (gl (si M 208 (((1200 : Int32) * v1) + v2).toNatClampNeg (gi M 191 v2.toNatClampNeg)) 192 v2.toNatClampNeg)) := hF.kg ⟨rfl, rfl, rfl⟩
      refine (bi_fR (hF.kd 181) (hF.gr 52)).trans ?_
      refine (bi_fR (hF.kd 181) (hF.gr 30)).trans ?_
      refine (bi_aI (hF.kd 193) (hF.ln 193)).trans ?_
      refine gd_congr (fun _ => ?_)
      refine (bi_uI (hF.kd 210) (hF.ln 210)).trans ?_
      refine gd_congr (fun _ => ?_)
      have hF : FSR (si (sl (si M 208 (((1200 : Int32) * v1) + v2).toNatClampNeg (gi M 191 v2.toNatClampNeg)) 209 (((1200 : Int32) * v1) + v2).toNatClampNeg (gl (si M 208 (((1200 : Int32) * v1) + v2).toNatClampNeg (gi M 191 v2.toNatClampNeg)) 192 v2.toNatClampNeg)) 210 (((1200 : Int32) * v1) + v2).toNatClampNeg (gi (sl (si M 208 (((1200 : Int32) * v1) + v2).toNatClampNeg (gi M 191 v2.toNatClampNeg)) 209 (((1200 : Int32) * v1) + v2).toNatClampNeg (gl (si M 208 (((1200 : Int32) * v1) + v2).toNatClampNeg (gi M 191 v2.toNatClampNeg)) 192 v2.toNatClampNeg)) 193 v2.toNatClampNeg)) := hF.kg ⟨rfl, rfl, rfl⟩
      exact ih _ _ _ hF
theorem keepJ_X11_keeps_236 {z : Unit × Mem} : ∀ (n : Nat) (v0 : Option Nat) (v1 : Int32) (v2 : Int32) (M : Mem), J_X11_keeps_236 n v0 v1 v2 M = some z → KG M z.2 := by
  intro n
  induction n with
  | zero => intro v0 v1 v2 M h; exact nomatch h
  | succ n ih =>
    intro v0 v1 v2 M h
    unfold J_X11_keeps_236 at h
    have hg : KG M M := KG.rf
    obtain ⟨_, -, h⟩ := bnd h
    rcases itor h with h | h
    · cases h; exact hg
    · obtain ⟨_, -, h⟩ := bnd h
      obtain ⟨_, -, h⟩ := bnd h
      obtain ⟨_, -, h⟩ := bnd h
      obtain ⟨_, hw, h⟩ := bnd h
      have hg := hg.trans (kg_uI hw)
      obtain ⟨_, -, h⟩ := bnd h
      obtain ⟨_, -, h⟩ := bnd h
      obtain ⟨_, -, h⟩ := bnd h
      obtain ⟨_, hw, h⟩ := bnd h
      have hg := hg.trans (kg_uL hw)
      obtain ⟨_, -, h⟩ := bnd h
      obtain ⟨_, -, h⟩ := bnd h
      obtain ⟨_, -, h⟩ := bnd h
      obtain ⟨_, hw, h⟩ := bnd h
      have hg := hg.trans (kg_uI hw)
      exact hg.trans (ih _ _ _ _ h)
def SJ_X11_keeps_159 : Nat → Int32 → Int32 → Mem → Option (Unit × Mem)
  | 0 => fun _ _ _ => none
  | n + 1 => fun v1 v2 M =>
  if (gi M 181 21) ≤ v2 then
  (gd (inb v1 60) (
  SJ_X11_keeps_236 FU v1 (0 : Int32) (si M 207 v1.toNatClampNeg (gi M 181 26))))
  else
  (gd (inb v2 400) (
  gd (inb (((120 : Int32) * v1) + v2) 7200) (
  gd (inb v2 400) (
  gd (inb (((120 : Int32) * v1) + v2) 7200) (
  gd (inb v2 400) (
  gd (inb (((120 : Int32) * v1) + v2) 7200) (
  SJ_X11_keeps_159 n v1 (v2 + 1) (si (si (si M 204 (((120 : Int32) * v1) + v2).toNatClampNeg (gi M 188 v2.toNatClampNeg)) 205 (((120 : Int32) * v1) + v2).toNatClampNeg (gi (si M 204 (((120 : Int32) * v1) + v2).toNatClampNeg (gi M 188 v2.toNatClampNeg)) 189 v2.toNatClampNeg)) 206 (((120 : Int32) * v1) + v2).toNatClampNeg (gi (si (si M 204 (((120 : Int32) * v1) + v2).toNatClampNeg (gi M 188 v2.toNatClampNeg)) 205 (((120 : Int32) * v1) + v2).toNatClampNeg (gi (si M 204 (((120 : Int32) * v1) + v2).toNatClampNeg (gi M 188 v2.toNatClampNeg)) 189 v2.toNatClampNeg)) 190 v2.toNatClampNeg)))))))))
theorem eqJ_X11_keeps_159 : ∀ (n : Nat) (v1 : Int32) (v2 : Int32) (M : Mem), FSR M → J_X11_keeps_159 n (some 181) v1 v2 M = SJ_X11_keeps_159 n v1 v2 M := by
  intro n
  induction n with
  | zero => intro v1 v2 M hF; rfl
  | succ n ih =>
    intro v1 v2 M hF
    unfold J_X11_keeps_159 SJ_X11_keeps_159
    refine (bi_fI (hF.kd 181)).trans ?_
    refine itc (fun _ => ?_) (fun _ => ?_)
    · refine (bi_fR (hF.kd 181) (hF.gr 49)).trans ?_
      refine (bi_fI (hF.kd 181)).trans ?_
      refine (bi_uI (hF.kd 207) (hF.ln 207)).trans ?_
      refine gd_congr (fun _ => ?_)
      have hF : FSR (si M 207 v1.toNatClampNeg (gi M 181 26)) := hF.kg ⟨rfl, rfl, rfl⟩
      exact eqJ_X11_keeps_236 FU _ _ _ hF
    · refine (bi_fR (hF.kd 181) (hF.gr 46)).trans ?_
      refine (bi_fR (hF.kd 181) (hF.gr 23)).trans ?_
      refine (bi_aI (hF.kd 188) (hF.ln 188)).trans ?_
      refine gd_congr (fun _ => ?_)
      refine (bi_uI (hF.kd 204) (hF.ln 204)).trans ?_
      refine gd_congr (fun _ => ?_)
      have hF : FSR (si M 204 (((120 : Int32) * v1) + v2).toNatClampNeg (gi M 188 v2.toNatClampNeg)) := hF.kg ⟨rfl, rfl, rfl⟩
      refine (bi_fR (hF.kd 181) (hF.gr 47)).trans ?_
      refine (bi_fR (hF.kd 181) (hF.gr 24)).trans ?_
      refine (bi_aI (hF.kd 189) (hF.ln 189)).trans ?_
      refine gd_congr (fun _ => ?_)
      refine (bi_uI (hF.kd 205) (hF.ln 205)).trans ?_
      refine gd_congr (fun _ => ?_)
      have hF : FSR (si (si M 204 (((120 : Int32) * v1) + v2).toNatClampNeg (gi M 188 v2.toNatClampNeg)) 205 (((120 : Int32) * v1) + v2).toNatClampNeg (gi (si M 204 (((120 : Int32) * v1) + v2).toNatClampNeg (gi M 188 v2.toNatClampNeg)) 189 v2.toNatClampNeg)) := hF.kg ⟨rfl, rfl, rfl⟩
      refine (bi_fR (hF.kd 181) (hF.gr 48)).trans ?_
      refine (bi_fR (hF.kd 181) (hF.gr 25)).trans ?_
      refine (bi_aI (hF.kd 190) (hF.ln 190)).trans ?_
      refine gd_congr (fun _ => ?_)
      refine (bi_uI (hF.kd 206) (hF.ln 206)).trans ?_
      refine gd_congr (fun _ => ?_)
      have hF : FSR (si (si (si M 204 (((120 : Int32) * v1) + v2).toNatClampNeg (gi M 188 v2.toNatClampNeg)) 205 (((120 : Int32) * v1) + v2).toNatClampNeg (gi (si M 204 (((120 : Int32) * v1) + v2).toNatClampNeg (gi M 188 v2.toNatClampNeg)) 189 v2.toNatClampNeg)) 206 (((120 : Int32) * v1) + v2).toNatClampNeg (gi (si (si M 204 (((120 : Int32) * v1) + v2).toNatClampNeg (gi M 188 v2.toNatClampNeg)) 205 (((120 : Int32) * v1) + v2).toNatClampNeg (gi (si M 204 (((120 : Int32) * v1) + v2).toNatClampNeg (gi M 188 v2.toNatClampNeg)) 189 v2.toNatClampNeg)) 190 v2.toNatClampNeg)) := hF.kg ⟨rfl, rfl, rfl⟩
      exact ih _ _ _ hF
theorem keepJ_X11_keeps_159 {z : Unit × Mem} : ∀ (n : Nat) (v0 : Option Nat) (v1 : Int32) (v2 : Int32) (M : Mem), J_X11_keeps_159 n v0 v1 v2 M = some z → KG M z.2 := by
  intro n
  induction n with
  | zero => intro v0 v1 v2 M h; exact nomatch h
  | succ n ih =>
    intro v0 v1 v2 M h
    unfold J_X11_keeps_159 at h
    have hg : KG M M := KG.rf
    obtain ⟨_, -, h⟩ := bnd h
    rcases itor h with h | h
    · obtain ⟨_, -, h⟩ := bnd h
      obtain ⟨_, -, h⟩ := bnd h
      obtain ⟨_, hw, h⟩ := bnd h
      have hg := hg.trans (kg_uI hw)
      exact hg.trans (keepJ_X11_keeps_236 FU _ _ _ _ h)
    · obtain ⟨_, -, h⟩ := bnd h
      obtain ⟨_, -, h⟩ := bnd h
      obtain ⟨_, -, h⟩ := bnd h
      obtain ⟨_, hw, h⟩ := bnd h
      have hg := hg.trans (kg_uI hw)
      obtain ⟨_, -, h⟩ := bnd h
      obtain ⟨_, -, h⟩ := bnd h
      obtain ⟨_, -, h⟩ := bnd h
      obtain ⟨_, hw, h⟩ := bnd h
      have hg := hg.trans (kg_uI hw)
      obtain ⟨_, -, h⟩ := bnd h
      obtain ⟨_, -, h⟩ := bnd h
      obtain ⟨_, -, h⟩ := bnd h
      obtain ⟨_, hw, h⟩ := bnd h
      have hg := hg.trans (kg_uI hw)
      exact hg.trans (ih _ _ _ _ h)
def SJ_X11_keeps_99 : Nat → Int32 → Int32 → Mem → Option (Unit × Mem)
  | 0 => fun _ _ _ => none
  | n + 1 => fun v1 v2 M =>
  if (gi M 181 18) ≤ v2 then
  (gd (inb v1 60) (
  SJ_X11_keeps_159 FU v1 (0 : Int32) (si M 203 v1.toNatClampNeg (gi M 181 21))))
  else
  (gd (inb v2 6) (
  gd (inb (((6 : Int32) * v1) + v2) 360) (
  gd (inb v2 6) (
  gd (inb (((6 : Int32) * v1) + v2) 360) (
  SJ_X11_keeps_99 n v1 (v2 + 1) (si (sl M 201 (((6 : Int32) * v1) + v2).toNatClampNeg (gl M 186 v2.toNatClampNeg)) 202 (((6 : Int32) * v1) + v2).toNatClampNeg (gi (sl M 201 (((6 : Int32) * v1) + v2).toNatClampNeg (gl M 186 v2.toNatClampNeg)) 187 v2.toNatClampNeg)))))))
theorem eqJ_X11_keeps_99 : ∀ (n : Nat) (v1 : Int32) (v2 : Int32) (M : Mem), FSR M → J_X11_keeps_99 n (some 181) v1 v2 M = SJ_X11_keeps_99 n v1 v2 M := by
  intro n
  induction n with
  | zero => intro v1 v2 M hF; rfl
  | succ n ih =>
    intro v1 v2 M hF
    unfold J_X11_keeps_99 SJ_X11_keeps_99
    refine (bi_fI (hF.kd 181)).trans ?_
    refine itc (fun _ => ?_) (fun _ => ?_)
    · refine (bi_fR (hF.kd 181) (hF.gr 45)).trans ?_
      refine (bi_fI (hF.kd 181)).trans ?_
      refine (bi_uI (hF.kd 203) (hF.ln 203)).trans ?_
      refine gd_congr (fun _ => ?_)
      have hF : FSR (si M 203 v1.toNatClampNeg (gi M 181 21)) := hF.kg ⟨rfl, rfl, rfl⟩
      exact eqJ_X11_keeps_159 FU _ _ _ hF
    · refine (bi_fR (hF.kd 181) (hF.gr 43)).trans ?_
      refine (bi_fR (hF.kd 181) (hF.gr 19)).trans ?_
      refine (bi_aL (hF.kd 186) (hF.ln 186)).trans ?_
      refine gd_congr (fun _ => ?_)
      refine (bi_uL (hF.kd 201) (hF.ln 201)).trans ?_
      refine gd_congr (fun _ => ?_)
      have hF : FSR (sl M 201 (((6 : Int32) * v1) + v2).toNatClampNeg (gl M 186 v2.toNatClampNeg)) := hF.kg ⟨rfl, rfl, rfl⟩
      refine (bi_fR (hF.kd 181) (hF.gr 44)).trans ?_
      refine (bi_fR (hF.kd 181) (hF.gr 20)).trans ?_
      refine (bi_aI (hF.kd 187) (hF.ln 187)).trans ?_
      refine gd_congr (fun _ => ?_)
      refine (bi_uI (hF.kd 202) (hF.ln 202)).trans ?_
      refine gd_congr (fun _ => ?_)
      have hF : FSR (si (sl M 201 (((6 : Int32) * v1) + v2).toNatClampNeg (gl M 186 v2.toNatClampNeg)) 202 (((6 : Int32) * v1) + v2).toNatClampNeg (gi (sl M 201 (((6 : Int32) * v1) + v2).toNatClampNeg (gl M 186 v2.toNatClampNeg)) 187 v2.toNatClampNeg)) := hF.kg ⟨rfl, rfl, rfl⟩
      exact ih _ _ _ hF
theorem keepJ_X11_keeps_99 {z : Unit × Mem} : ∀ (n : Nat) (v0 : Option Nat) (v1 : Int32) (v2 : Int32) (M : Mem), J_X11_keeps_99 n v0 v1 v2 M = some z → KG M z.2 := by
  intro n
  induction n with
  | zero => intro v0 v1 v2 M h; exact nomatch h
  | succ n ih =>
    intro v0 v1 v2 M h
    unfold J_X11_keeps_99 at h
    have hg : KG M M := KG.rf
    obtain ⟨_, -, h⟩ := bnd h
    rcases itor h with h | h
    · obtain ⟨_, -, h⟩ := bnd h
      obtain ⟨_, -, h⟩ := bnd h
      obtain ⟨_, hw, h⟩ := bnd h
      have hg := hg.trans (kg_uI hw)
      exact hg.trans (keepJ_X11_keeps_159 FU _ _ _ _ h)
    · obtain ⟨_, -, h⟩ := bnd h
      obtain ⟨_, -, h⟩ := bnd h
      obtain ⟨_, -, h⟩ := bnd h
      obtain ⟨_, hw, h⟩ := bnd h
      have hg := hg.trans (kg_uL hw)
      obtain ⟨_, -, h⟩ := bnd h
      obtain ⟨_, -, h⟩ := bnd h
      obtain ⟨_, -, h⟩ := bnd h
      obtain ⟨_, hw, h⟩ := bnd h
      have hg := hg.trans (kg_uI hw)
      exact hg.trans (ih _ _ _ _ h)
def SJ_X11_keeps_39 : Nat → Int32 → Int32 → Mem → Option (Unit × Mem)
  | 0 => fun _ _ _ => none
  | n + 1 => fun v1 v2 M =>
  if (gi M 181 15) ≤ v2 then
  (gd (inb v1 60) (
  SJ_X11_keeps_99 FU v1 (0 : Int32) (si M 200 v1.toNatClampNeg (gi M 181 18))))
  else
  (gd (inb v2 8) (
  gd (inb (((8 : Int32) * v1) + v2) 480) (
  gd (inb v2 8) (
  gd (inb (((8 : Int32) * v1) + v2) 480) (
  SJ_X11_keeps_39 n v1 (v2 + 1) (si (sl M 198 (((8 : Int32) * v1) + v2).toNatClampNeg (gl M 184 v2.toNatClampNeg)) 199 (((8 : Int32) * v1) + v2).toNatClampNeg (gi (sl M 198 (((8 : Int32) * v1) + v2).toNatClampNeg (gl M 184 v2.toNatClampNeg)) 185 v2.toNatClampNeg)))))))
theorem eqJ_X11_keeps_39 : ∀ (n : Nat) (v1 : Int32) (v2 : Int32) (M : Mem), FSR M → J_X11_keeps_39 n (some 181) v1 v2 M = SJ_X11_keeps_39 n v1 v2 M := by
  intro n
  induction n with
  | zero => intro v1 v2 M hF; rfl
  | succ n ih =>
    intro v1 v2 M hF
    unfold J_X11_keeps_39 SJ_X11_keeps_39
    refine (bi_fI (hF.kd 181)).trans ?_
    refine itc (fun _ => ?_) (fun _ => ?_)
    · refine (bi_fR (hF.kd 181) (hF.gr 42)).trans ?_
      refine (bi_fI (hF.kd 181)).trans ?_
      refine (bi_uI (hF.kd 200) (hF.ln 200)).trans ?_
      refine gd_congr (fun _ => ?_)
      have hF : FSR (si M 200 v1.toNatClampNeg (gi M 181 18)) := hF.kg ⟨rfl, rfl, rfl⟩
      exact eqJ_X11_keeps_99 FU _ _ _ hF
    · refine (bi_fR (hF.kd 181) (hF.gr 40)).trans ?_
      refine (bi_fR (hF.kd 181) (hF.gr 16)).trans ?_
      refine (bi_aL (hF.kd 184) (hF.ln 184)).trans ?_
      refine gd_congr (fun _ => ?_)
      refine (bi_uL (hF.kd 198) (hF.ln 198)).trans ?_
      refine gd_congr (fun _ => ?_)
      have hF : FSR (sl M 198 (((8 : Int32) * v1) + v2).toNatClampNeg (gl M 184 v2.toNatClampNeg)) := hF.kg ⟨rfl, rfl, rfl⟩
      refine (bi_fR (hF.kd 181) (hF.gr 41)).trans ?_
      refine (bi_fR (hF.kd 181) (hF.gr 17)).trans ?_
      refine (bi_aI (hF.kd 185) (hF.ln 185)).trans ?_
      refine gd_congr (fun _ => ?_)
      refine (bi_uI (hF.kd 199) (hF.ln 199)).trans ?_
      refine gd_congr (fun _ => ?_)
      have hF : FSR (si (sl M 198 (((8 : Int32) * v1) + v2).toNatClampNeg (gl M 184 v2.toNatClampNeg)) 199 (((8 : Int32) * v1) + v2).toNatClampNeg (gi (sl M 198 (((8 : Int32) * v1) + v2).toNatClampNeg (gl M 184 v2.toNatClampNeg)) 185 v2.toNatClampNeg)) := hF.kg ⟨rfl, rfl, rfl⟩
      exact ih _ _ _ hF
theorem keepJ_X11_keeps_39 {z : Unit × Mem} : ∀ (n : Nat) (v0 : Option Nat) (v1 : Int32) (v2 : Int32) (M : Mem), J_X11_keeps_39 n v0 v1 v2 M = some z → KG M z.2 := by
  intro n
  induction n with
  | zero => intro v0 v1 v2 M h; exact nomatch h
  | succ n ih =>
    intro v0 v1 v2 M h
    unfold J_X11_keeps_39 at h
    have hg : KG M M := KG.rf
    obtain ⟨_, -, h⟩ := bnd h
    rcases itor h with h | h
    · obtain ⟨_, -, h⟩ := bnd h
      obtain ⟨_, -, h⟩ := bnd h
      obtain ⟨_, hw, h⟩ := bnd h
      have hg := hg.trans (kg_uI hw)
      exact hg.trans (keepJ_X11_keeps_99 FU _ _ _ _ h)
    · obtain ⟨_, -, h⟩ := bnd h
      obtain ⟨_, -, h⟩ := bnd h
      obtain ⟨_, -, h⟩ := bnd h
      obtain ⟨_, hw, h⟩ := bnd h
      have hg := hg.trans (kg_uL hw)
      obtain ⟨_, -, h⟩ := bnd h
      obtain ⟨_, -, h⟩ := bnd h
      obtain ⟨_, -, h⟩ := bnd h
      obtain ⟨_, hw, h⟩ := bnd h
      have hg := hg.trans (kg_uI hw)
      exact hg.trans (ih _ _ _ _ h)
def S_X11_keeps (v1 : Int32) (M : Mem) : Option (Unit × Mem) :=
  gd (inb v1 60) (
  gd (inb v1 60) (
  gd (inb v1 60) (
  gd (inb v1 60) (
  SJ_X11_keeps_39 FU v1 (0 : Int32) (si (si (si (si M 194 v1.toNatClampNeg (vp_nar (aty 24) (1 : Int32))) 195 v1.toNatClampNeg (gi (si M 194 v1.toNatClampNeg (vp_nar (aty 24) (1 : Int32))) 181 14)) 196 v1.toNatClampNeg (gi (si (si M 194 v1.toNatClampNeg (vp_nar (aty 24) (1 : Int32))) 195 v1.toNatClampNeg (gi (si M 194 v1.toNatClampNeg (vp_nar (aty 24) (1 : Int32))) 181 14)) 181 35)) 197 v1.toNatClampNeg (gi (si (si (si M 194 v1.toNatClampNeg (vp_nar (aty 24) (1 : Int32))) 195 v1.toNatClampNeg (gi (si M 194 v1.toNatClampNeg (vp_nar (aty 24) (1 : Int32))) 181 14)) 196 v1.toNatClampNeg (gi (si (si M 194 v1.toNatClampNeg (vp_nar (aty 24) (1 : Int32))) 195 v1.toNatClampNeg (gi (si M 194 v1.toNatClampNeg (vp_nar (aty 24) (1 : Int32))) 181 14)) 181 35)) 181 15))))))
theorem eqS_X11_keeps {M : Mem} (hF : FSR M) {v1 : Int32} : L_X11_keeps (some 181) v1 M = S_X11_keeps v1 M := by
  unfold L_X11_keeps S_X11_keeps
  refine (bi_fR (hF.kd 181) (hF.gr 36)).trans ?_
  refine (bi_uN (hF.kd 194) (hF.ln 194)).trans ?_
  refine gd_congr (fun _ => ?_)
  have hF : FSR (si M 194 v1.toNatClampNeg (vp_nar (aty 24) (1 : Int32))) := hF.kg ⟨rfl, rfl, rfl⟩
  refine (bi_fR (hF.kd 181) (hF.gr 37)).trans ?_
  refine (bi_fI (hF.kd 181)).trans ?_
  refine (bi_uI (hF.kd 195) (hF.ln 195)).trans ?_
  refine gd_congr (fun _ => ?_)
  have hF : FSR (si (si M 194 v1.toNatClampNeg (vp_nar (aty 24) (1 : Int32))) 195 v1.toNatClampNeg (gi (si M 194 v1.toNatClampNeg (vp_nar (aty 24) (1 : Int32))) 181 14)) := hF.kg ⟨rfl, rfl, rfl⟩
  refine (bi_fR (hF.kd 181) (hF.gr 38)).trans ?_
  refine (bi_fI (hF.kd 181)).trans ?_
  refine (bi_uI (hF.kd 196) (hF.ln 196)).trans ?_
  refine gd_congr (fun _ => ?_)
  have hF : FSR (si (si (si M 194 v1.toNatClampNeg (vp_nar (aty 24) (1 : Int32))) 195 v1.toNatClampNeg (gi (si M 194 v1.toNatClampNeg (vp_nar (aty 24) (1 : Int32))) 181 14)) 196 v1.toNatClampNeg (gi (si (si M 194 v1.toNatClampNeg (vp_nar (aty 24) (1 : Int32))) 195 v1.toNatClampNeg (gi (si M 194 v1.toNatClampNeg (vp_nar (aty 24) (1 : Int32))) 181 14)) 181 35)) := hF.kg ⟨rfl, rfl, rfl⟩
  refine (bi_fR (hF.kd 181) (hF.gr 39)).trans ?_
  refine (bi_fI (hF.kd 181)).trans ?_
  refine (bi_uI (hF.kd 197) (hF.ln 197)).trans ?_
  refine gd_congr (fun _ => ?_)
  have hF : FSR (si (si (si (si M 194 v1.toNatClampNeg (vp_nar (aty 24) (1 : Int32))) 195 v1.toNatClampNeg (gi (si M 194 v1.toNatClampNeg (vp_nar (aty 24) (1 : Int32))) 181 14)) 196 v1.toNatClampNeg (gi (si (si M 194 v1.toNatClampNeg (vp_nar (aty 24) (1 : Int32))) 195 v1.toNatClampNeg (gi (si M 194 v1.toNatClampNeg (vp_nar (aty 24) (1 : Int32))) 181 14)) 181 35)) 197 v1.toNatClampNeg (gi (si (si (si M 194 v1.toNatClampNeg (vp_nar (aty 24) (1 : Int32))) 195 v1.toNatClampNeg (gi (si M 194 v1.toNatClampNeg (vp_nar (aty 24) (1 : Int32))) 181 14)) 196 v1.toNatClampNeg (gi (si (si M 194 v1.toNatClampNeg (vp_nar (aty 24) (1 : Int32))) 195 v1.toNatClampNeg (gi (si M 194 v1.toNatClampNeg (vp_nar (aty 24) (1 : Int32))) 181 14)) 181 35)) 181 15)) := hF.kg ⟨rfl, rfl, rfl⟩
  exact eqJ_X11_keeps_39 FU _ _ _ hF
theorem keep_X11_keeps {M : Mem} {z : Unit × Mem} {v0 : Option Nat} {v1 : Int32} (h : L_X11_keeps v0 v1 M = some z) : KG M z.2 := by
  unfold L_X11_keeps at h
  have hg : KG M M := KG.rf
  obtain ⟨_, -, h⟩ := bnd h
  obtain ⟨_, hw, h⟩ := bnd h
  have hg := hg.trans (kg_uN hw)
  obtain ⟨_, -, h⟩ := bnd h
  obtain ⟨_, -, h⟩ := bnd h
  obtain ⟨_, hw, h⟩ := bnd h
  have hg := hg.trans (kg_uI hw)
  obtain ⟨_, -, h⟩ := bnd h
  obtain ⟨_, -, h⟩ := bnd h
  obtain ⟨_, hw, h⟩ := bnd h
  have hg := hg.trans (kg_uI hw)
  obtain ⟨_, -, h⟩ := bnd h
  obtain ⟨_, -, h⟩ := bnd h
  obtain ⟨_, hw, h⟩ := bnd h
  have hg := hg.trans (kg_uI hw)
  exact hg.trans (keepJ_X11_keeps_39 FU _ _ _ _ h)
