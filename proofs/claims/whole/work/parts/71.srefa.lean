def SJ_X11_feed_71 (k_18 : Int32 → Int32 → Int32 → Int32 → Int32 → Int32 → Mem → Option (Int32 × Mem)) (v1 : Int32) (v2 : Int32) (v3 : Int32) (v4 : Int32) (v5 : Int32) (v6 : Int32) (s0 : Int32) (M : Mem) : Option (Int32 × Mem) :=
  gd (inb (gi M 181 1) 900) (
  k_18 v1 v2 v3 v4 v5 (v6 + 1) (si (si M 182 (gi M 181 1).toNatClampNeg (vp_nar (aty 23) ((s0 >>> (((24 : Int32) - ((8 : Int32) * (v6 - v6 / (4 : Int32) * (4 : Int32)))) &&& 31)).toInt8.toInt32))) 181 1 ((gi (si M 182 (gi M 181 1).toNatClampNeg (vp_nar (aty 23) ((s0 >>> (((24 : Int32) - ((8 : Int32) * (v6 - v6 / (4 : Int32) * (4 : Int32)))) &&& 31)).toInt8.toInt32))) 181 1) + (1 : Int32))))
theorem eqJ_X11_feed_71 {M : Mem} {k_18 : Option Nat → Int32 → Int32 → Int32 → Int32 → Int32 → Int32 → Mem → Option (Int32 × Mem)} {q_18 : Int32 → Int32 → Int32 → Int32 → Int32 → Int32 → Mem → Option (Int32 × Mem)} (hk_18 : ∀ (v1 : Int32) (v2 : Int32) (v3 : Int32) (v4 : Int32) (v5 : Int32) (v6 : Int32) (Ma : Mem), FSR Ma → k_18 (some 181) v1 v2 v3 v4 v5 v6 Ma = q_18 v1 v2 v3 v4 v5 v6 Ma) (hF : FSR M) {v1 : Int32} {v2 : Int32} {v3 : Int32} {v4 : Int32} {v5 : Int32} {v6 : Int32} {s0 : Int32} : J_X11_feed_71 k_18 (some 181) v1 v2 v3 v4 v5 v6 s0 M = SJ_X11_feed_71 q_18 v1 v2 v3 v4 v5 v6 s0 M := by
  unfold J_X11_feed_71 SJ_X11_feed_71
  refine (bi_fR (hF.kd 181) (hF.gr 0)).trans ?_
  refine (bi_fI (hF.kd 181)).trans ?_
  refine (if_neg (by decide)).trans ?_
  refine (bi_uN (hF.kd 182) (hF.ln 182)).trans ?_
  refine gd_congr (fun _ => ?_)
  have hF : FSR (si M 182 (gi M 181 1).toNatClampNeg (vp_nar (aty 23) ((s0 >>> (((24 : Int32) - ((8 : Int32) * (v6 - v6 / (4 : Int32) * (4 : Int32)))) &&& 31)).toInt8.toInt32))) := hF.kg ⟨rfl, rfl, rfl⟩
  refine (bi_fI (hF.kd 181)).trans ?_
  refine (bi_pI (hF.kd 181)).trans ?_
  have hF : FSR (si (si M 182 (gi M 181 1).toNatClampNeg (vp_nar (aty 23) ((s0 >>> (((24 : Int32) - ((8 : Int32) * (v6 - v6 / (4 : Int32) * (4 : Int32)))) &&& 31)).toInt8.toInt32))) 181 1 ((gi (si M 182 (gi M 181 1).toNatClampNeg (vp_nar (aty 23) ((s0 >>> (((24 : Int32) - ((8 : Int32) * (v6 - v6 / (4 : Int32) * (4 : Int32)))) &&& 31)).toInt8.toInt32))) 181 1) + (1 : Int32))) := hF.kg ⟨rfl, rfl, rfl⟩
  exact hk_18 _ _ _ _ _ _ _ hF
theorem keepJ_X11_feed_71 {M : Mem} {z : Int32 × Mem} {k_18 : Option Nat → Int32 → Int32 → Int32 → Int32 → Int32 → Int32 → Mem → Option (Int32 × Mem)} (hk_18 : ∀ (v0 : Option Nat) (v1 : Int32) (v2 : Int32) (v3 : Int32) (v4 : Int32) (v5 : Int32) (v6 : Int32) (Ma : Mem), k_18 v0 v1 v2 v3 v4 v5 v6 Ma = some z → KG Ma z.2) {v0 : Option Nat} {v1 : Int32} {v2 : Int32} {v3 : Int32} {v4 : Int32} {v5 : Int32} {v6 : Int32} {s0 : Int32} (h : J_X11_feed_71 k_18 v0 v1 v2 v3 v4 v5 v6 s0 M = some z) : KG M z.2 := by
  unfold J_X11_feed_71 at h
  have hg : KG M M := KG.rf
  obtain ⟨_, -, h⟩ := bnd h
  obtain ⟨_, -, h⟩ := bnd h
  have h := nnz h
  obtain ⟨_, hw, h⟩ := bnd h
  have hg := hg.trans (kg_uN hw)
  obtain ⟨_, -, h⟩ := bnd h
  obtain ⟨_, hw, h⟩ := bnd h
  have hg := hg.trans (kg_pI hw)
  exact hg.trans (hk_18 _ _ _ _ _ _ _ _ h)
def SJ_X11_feed_18 : Nat → Int32 → Int32 → Int32 → Int32 → Int32 → Int32 → Mem → Option (Int32 × Mem)
  | 0 => fun _ _ _ _ _ _ _ => none
  | n + 1 => fun v1 v2 v3 v4 v5 v6 M =>
  if (20 : Int32) ≤ v6 then
  (some (gi M 181 1, M))
  else
  (if (4 : Int32) ≤ v6 then
  (if (8 : Int32) ≤ v6 then
  (if (12 : Int32) ≤ v6 then
  (if (16 : Int32) ≤ v6 then
  (SJ_X11_feed_71 (SJ_X11_feed_18 n) v1 v2 v3 v4 v5 v6 v5 M)
  else
  (SJ_X11_feed_71 (SJ_X11_feed_18 n) v1 v2 v3 v4 v5 v6 v4 M))
  else
  (SJ_X11_feed_71 (SJ_X11_feed_18 n) v1 v2 v3 v4 v5 v6 v3 M))
  else
  (SJ_X11_feed_71 (SJ_X11_feed_18 n) v1 v2 v3 v4 v5 v6 v2 M))
  else
  (SJ_X11_feed_71 (SJ_X11_feed_18 n) v1 v2 v3 v4 v5 v6 v1 M))
theorem eqJ_X11_feed_18 : ∀ (n : Nat) (v1 : Int32) (v2 : Int32) (v3 : Int32) (v4 : Int32) (v5 : Int32) (v6 : Int32) (M : Mem), FSR M → J_X11_feed_18 n (some 181) v1 v2 v3 v4 v5 v6 M = SJ_X11_feed_18 n v1 v2 v3 v4 v5 v6 M := by
  intro n
  induction n with
  | zero => intro v1 v2 v3 v4 v5 v6 M hF; rfl
  | succ n ih =>
    intro v1 v2 v3 v4 v5 v6 M hF
    unfold J_X11_feed_18 SJ_X11_feed_18
    refine itc (fun _ => ?_) (fun _ => ?_)
    · refine (bi_fI (hF.kd 181)).trans ?_
      rfl
    · refine itc (fun _ => ?_) (fun _ => ?_)
      · refine itc (fun _ => ?_) (fun _ => ?_)
        · refine itc (fun _ => ?_) (fun _ => ?_)
          · refine itc (fun _ => ?_) (fun _ => ?_)
            · exact eqJ_X11_feed_71 ih hF
            · exact eqJ_X11_feed_71 ih hF
          · exact eqJ_X11_feed_71 ih hF
        · exact eqJ_X11_feed_71 ih hF
      · exact eqJ_X11_feed_71 ih hF
theorem keepJ_X11_feed_18 {z : Int32 × Mem} : ∀ (n : Nat) (v0 : Option Nat) (v1 : Int32) (v2 : Int32) (v3 : Int32) (v4 : Int32) (v5 : Int32) (v6 : Int32) (M : Mem), J_X11_feed_18 n v0 v1 v2 v3 v4 v5 v6 M = some z → KG M z.2 := by
  intro n
  induction n with
  | zero => intro v0 v1 v2 v3 v4 v5 v6 M h; exact nomatch h
  | succ n ih =>
    intro v0 v1 v2 v3 v4 v5 v6 M h
    unfold J_X11_feed_18 at h
    have hg : KG M M := KG.rf
    rcases itor h with h | h
    · obtain ⟨_, -, h⟩ := bnd h
      cases h; exact hg
    · rcases itor h with h | h
      · rcases itor h with h | h
        · rcases itor h with h | h
          · rcases itor h with h | h
            · exact hg.trans (keepJ_X11_feed_71 ih h)
            · exact hg.trans (keepJ_X11_feed_71 ih h)
          · exact hg.trans (keepJ_X11_feed_71 ih h)
        · exact hg.trans (keepJ_X11_feed_71 ih h)
      · exact hg.trans (keepJ_X11_feed_71 ih h)
def S_X11_feed (v1 : Int32) (v2 : Int32) (v3 : Int32) (v4 : Int32) (v5 : Int32) (M : Mem) : Option (Int32 × Mem) :=
  if ((gi M 181 1) + (20 : Int32)) ≤ (900 : Int32) then
  (SJ_X11_feed_18 FU v1 v2 v3 v4 v5 (0 : Int32) M)
  else
  (some ((-1 : Int32), M))
theorem eqS_X11_feed {M : Mem} (hF : FSR M) {v1 : Int32} {v2 : Int32} {v3 : Int32} {v4 : Int32} {v5 : Int32} : L_X11_feed (some 181) v1 v2 v3 v4 v5 M = S_X11_feed v1 v2 v3 v4 v5 M := by
  unfold L_X11_feed S_X11_feed
  refine (bi_fI (hF.kd 181)).trans ?_
  refine itc (fun _ => ?_) (fun _ => ?_)
  · exact eqJ_X11_feed_18 FU _ _ _ _ _ _ _ hF
  · rfl
theorem keep_X11_feed {M : Mem} {z : Int32 × Mem} {v0 : Option Nat} {v1 : Int32} {v2 : Int32} {v3 : Int32} {v4 : Int32} {v5 : Int32} (h : L_X11_feed v0 v1 v2 v3 v4 v5 M = some z) : KG M z.2 := by
  unfold L_X11_feed at h
  have hg : KG M M := KG.rf
  obtain ⟨_, -, h⟩ := bnd h
  rcases itor h with h | h
  · exact hg.trans (keepJ_X11_feed_18 FU _ _ _ _ _ _ _ _ h)
  · cases h; exact hg
def S_X11_end (v1 : Int32) (M : Mem) : Option (Int32 × Mem) :=
  if v1 < 0 then
  (some ((-1 : Int32), M))
  else
  (if v1 ≤ (gi M 181 1) then
  (some (v1, si M 181 1 v1))
  else
  (some ((-1 : Int32), M)))
theorem eqS_X11_end {M : Mem} (hF : FSR M) {v1 : Int32} : L_X11_end (some 181) v1 M = S_X11_end v1 M := by
  unfold L_X11_end S_X11_end
  refine itc (fun _ => ?_) (fun _ => ?_)
  · rfl
  · refine (bi_fI (hF.kd 181)).trans ?_
    refine itc (fun _ => ?_) (fun _ => ?_)
    · refine (bi_pI (hF.kd 181)).trans ?_
      have hF : FSR (si M 181 1 v1) := hF.kg ⟨rfl, rfl, rfl⟩
      rfl
    · rfl
theorem keep_X11_end {M : Mem} {z : Int32 × Mem} {v0 : Option Nat} {v1 : Int32} (h : L_X11_end v0 v1 M = some z) : KG M z.2 := by
  unfold L_X11_end at h
  have hg : KG M M := KG.rf
  rcases itor h with h | h
  · cases h; exact hg
  · obtain ⟨_, -, h⟩ := bnd h
    rcases itor h with h | h
    · obtain ⟨_, hw, h⟩ := bnd h
      have hg := hg.trans (kg_pI hw)
      cases h; exact hg
    · cases h; exact hg
def S_X11_byteAt (v1 : Int32) (M : Mem) : Option (Int32 × Mem) :=
  if (gi M 181 4) ≤ v1 then
  (some ((-1 : Int32), M))
  else
  (gd (inb v1 900) (
  some ((gi M 182 v1.toNatClampNeg) &&& (255 : Int32), M)))
theorem eqS_X11_byteAt {M : Mem} (hF : FSR M) {v1 : Int32} : L_X11_byteAt (some 181) v1 M = S_X11_byteAt v1 M := by
  unfold L_X11_byteAt S_X11_byteAt
  refine (bi_fI (hF.kd 181)).trans ?_
  refine itc (fun _ => ?_) (fun _ => ?_)
  · rfl
  · refine (bi_fR (hF.kd 181) (hF.gr 0)).trans ?_
    refine (bi_aI (hF.kd 182) (hF.ln 182)).trans ?_
    refine gd_congr (fun _ => ?_)
    rfl
theorem keep_X11_byteAt {M : Mem} {z : Int32 × Mem} {v0 : Option Nat} {v1 : Int32} (h : L_X11_byteAt v0 v1 M = some z) : KG M z.2 := by
  unfold L_X11_byteAt at h
  have hg : KG M M := KG.rf
  obtain ⟨_, -, h⟩ := bnd h
  rcases itor h with h | h
  · cases h; exact hg
  · obtain ⟨_, -, h⟩ := bnd h
    obtain ⟨_, -, h⟩ := bnd h
    cases h; exact hg
def S_X11_isLetter (v0 : Int32) (M : Mem) : Option (Int32 × Mem) :=
  if v0 < (97 : Int32) then
  (some ((0 : Int32), M))
  else
  (if (122 : Int32) < v0 then
  (some ((0 : Int32), M))
  else
  (some ((1 : Int32), M)))
theorem eqS_X11_isLetter {M : Mem} (hF : FSR M) {v0 : Int32} : L_X11_isLetter v0 M = S_X11_isLetter v0 M := by
  unfold L_X11_isLetter S_X11_isLetter
  refine itc (fun _ => ?_) (fun _ => ?_)
  · rfl
  · refine itc (fun _ => ?_) (fun _ => ?_)
    · rfl
    · rfl
theorem keep_X11_isLetter {M : Mem} {z : Int32 × Mem} {v0 : Int32} (h : L_X11_isLetter v0 M = some z) : KG M z.2 := by
  unfold L_X11_isLetter at h
  have hg : KG M M := KG.rf
  rcases itor h with h | h
  · obtain ⟨_, -, h⟩ := bnd h
    cases h; exact hg
  · rcases itor h with h | h
    · obtain ⟨_, -, h⟩ := bnd h
      cases h; exact hg
    · obtain ⟨_, -, h⟩ := bnd h
      cases h; exact hg
def S_X11_isDigit (v0 : Int32) (M : Mem) : Option (Int32 × Mem) :=
  if v0 < (48 : Int32) then
  (some ((0 : Int32), M))
  else
  (if (57 : Int32) < v0 then
  (some ((0 : Int32), M))
  else
  (some ((1 : Int32), M)))
theorem eqS_X11_isDigit {M : Mem} (hF : FSR M) {v0 : Int32} : L_X11_isDigit v0 M = S_X11_isDigit v0 M := by
  unfold L_X11_isDigit S_X11_isDigit
  refine itc (fun _ => ?_) (fun _ => ?_)
  · rfl
  · refine itc (fun _ => ?_) (fun _ => ?_)
    · rfl
    · rfl
theorem keep_X11_isDigit {M : Mem} {z : Int32 × Mem} {v0 : Int32} (h : L_X11_isDigit v0 M = some z) : KG M z.2 := by
  unfold L_X11_isDigit at h
  have hg : KG M M := KG.rf
  rcases itor h with h | h
  · obtain ⟨_, -, h⟩ := bnd h
    cases h; exact hg
  · rcases itor h with h | h
    · obtain ⟨_, -, h⟩ := bnd h
      cases h; exact hg
    · obtain ⟨_, -, h⟩ := bnd h
      cases h; exact hg
def SJ_X11_named_65 (v4 : Int32) (v5 : Int64) (M : Mem) : Option (Int64 × Mem) :=
  if v4 ≤ 0 then
  (some (v5, M))
  else
  (some ((((32 : Int64) * v5) + v4.toInt64) - (96 : Int64), M))
theorem eqJ_X11_named_65 {M : Mem} (hF : FSR M) {v4 : Int32} {v5 : Int64} : J_X11_named_65 v4 v5 M = SJ_X11_named_65 v4 v5 M := by
  unfold J_X11_named_65 SJ_X11_named_65
  refine itc (fun _ => ?_) (fun _ => ?_)
  · rfl
  · rfl
theorem keepJ_X11_named_65 {M : Mem} {z : Int64 × Mem} {v4 : Int32} {v5 : Int64} (h : J_X11_named_65 v4 v5 M = some z) : KG M z.2 := by
  unfold J_X11_named_65 at h
  have hg : KG M M := KG.rf
  rcases itor h with h | h
  · cases h; exact hg
  · cases h; exact hg
def SJ_X11_named_46 (v3 : Int32) (v4 : Int32) (v5 : Int64) (M : Mem) : Option (Int64 × Mem) :=
  if v3 ≤ 0 then
  (SJ_X11_named_65 v4 v5 M)
  else
  (SJ_X11_named_65 v4 ((((32 : Int64) * v5) + v3.toInt64) - (96 : Int64)) M)
theorem eqJ_X11_named_46 {M : Mem} (hF : FSR M) {v3 : Int32} {v4 : Int32} {v5 : Int64} : J_X11_named_46 v3 v4 v5 M = SJ_X11_named_46 v3 v4 v5 M := by
  unfold J_X11_named_46 SJ_X11_named_46
  refine itc (fun _ => ?_) (fun _ => ?_)
  · exact eqJ_X11_named_65 hF
  · exact eqJ_X11_named_65 hF
theorem keepJ_X11_named_46 {M : Mem} {z : Int64 × Mem} {v3 : Int32} {v4 : Int32} {v5 : Int64} (h : J_X11_named_46 v3 v4 v5 M = some z) : KG M z.2 := by
  unfold J_X11_named_46 at h
  have hg : KG M M := KG.rf
  rcases itor h with h | h
  · exact hg.trans (keepJ_X11_named_65 h)
  · exact hg.trans (keepJ_X11_named_65 h)
def SJ_X11_named_27 (v2 : Int32) (v3 : Int32) (v4 : Int32) (v5 : Int64) (M : Mem) : Option (Int64 × Mem) :=
  if v2 ≤ 0 then
  (SJ_X11_named_46 v3 v4 v5 M)
  else
  (SJ_X11_named_46 v3 v4 ((((32 : Int64) * v5) + v2.toInt64) - (96 : Int64)) M)
theorem eqJ_X11_named_27 {M : Mem} (hF : FSR M) {v2 : Int32} {v3 : Int32} {v4 : Int32} {v5 : Int64} : J_X11_named_27 v2 v3 v4 v5 M = SJ_X11_named_27 v2 v3 v4 v5 M := by
  unfold J_X11_named_27 SJ_X11_named_27
  refine itc (fun _ => ?_) (fun _ => ?_)
  · exact eqJ_X11_named_46 hF
  · exact eqJ_X11_named_46 hF
theorem keepJ_X11_named_27 {M : Mem} {z : Int64 × Mem} {v2 : Int32} {v3 : Int32} {v4 : Int32} {v5 : Int64} (h : J_X11_named_27 v2 v3 v4 v5 M = some z) : KG M z.2 := by
  unfold J_X11_named_27 at h
  have hg : KG M M := KG.rf
  rcases itor h with h | h
  · exact hg.trans (keepJ_X11_named_46 h)
  · exact hg.trans (keepJ_X11_named_46 h)
def S_X11_named (v0 : Int32) (v1 : Int32) (v2 : Int32) (v3 : Int32) (v4 : Int32) (M : Mem) : Option (Int64 × Mem) :=
  if v1 ≤ 0 then
  (SJ_X11_named_27 v2 v3 v4 (v0.toInt64 - (96 : Int64)) M)
  else
  (SJ_X11_named_27 v2 v3 v4 ((((32 : Int64) * (v0.toInt64 - (96 : Int64))) + v1.toInt64) - (96 : Int64)) M)
theorem eqS_X11_named {M : Mem} (hF : FSR M) {v0 : Int32} {v1 : Int32} {v2 : Int32} {v3 : Int32} {v4 : Int32} : L_X11_named v0 v1 v2 v3 v4 M = S_X11_named v0 v1 v2 v3 v4 M := by
  unfold L_X11_named S_X11_named
  refine itc (fun _ => ?_) (fun _ => ?_)
  · exact eqJ_X11_named_27 hF
  · exact eqJ_X11_named_27 hF
theorem keep_X11_named {M : Mem} {z : Int64 × Mem} {v0 : Int32} {v1 : Int32} {v2 : Int32} {v3 : Int32} {v4 : Int32} (h : L_X11_named v0 v1 v2 v3 v4 M = some z) : KG M z.2 := by
  unfold L_X11_named at h
  have hg : KG M M := KG.rf
  rcases itor h with h | h
  · exact hg.trans (keepJ_X11_named_27 h)
  · exact hg.trans (keepJ_X11_named_27 h)
def S_X11_isSignByte (v0 : Int32) (M : Mem) : Option (Int32 × Mem) :=
  if v0 = 37 then
  (some ((1 : Int32), M))
  else
  if v0 = 40 then
  (some ((1 : Int32), M))
  else
  if v0 = 41 then
  (some ((1 : Int32), M))
  else
  if v0 = 42 then
  (some ((1 : Int32), M))
  else
  if v0 = 43 then
  (some ((1 : Int32), M))
  else
  if v0 = 45 then
  (some ((1 : Int32), M))
  else
  if v0 = 46 then
  (some ((1 : Int32), M))
  else
  if v0 = 47 then
  (some ((1 : Int32), M))
  else
  if v0 = 58 then
  (some ((1 : Int32), M))
  else
  if v0 = 59 then
  (some ((1 : Int32), M))
  else
  if v0 = 60 then
  (some ((1 : Int32), M))
  else
  if v0 = 61 then
  (some ((1 : Int32), M))
  else
  if v0 = 62 then
  (some ((1 : Int32), M))
  else
  if v0 = 63 then
  (some ((1 : Int32), M))
  else
  if v0 = 91 then
  (some ((1 : Int32), M))
  else
  if v0 = 93 then
  (some ((1 : Int32), M))
  else
  if v0 = 123 then
  (some ((1 : Int32), M))
  else
  if v0 = 125 then
  (some ((1 : Int32), M))
  else
  (some ((0 : Int32), M))
theorem eqS_X11_isSignByte {M : Mem} (hF : FSR M) {v0 : Int32} : L_X11_isSignByte v0 M = S_X11_isSignByte v0 M := by
  unfold L_X11_isSignByte S_X11_isSignByte
  refine itc (fun _ => ?_) (fun _ => ?_)
  · rfl
  refine itc (fun _ => ?_) (fun _ => ?_)
  · rfl
  refine itc (fun _ => ?_) (fun _ => ?_)
  · rfl
  refine itc (fun _ => ?_) (fun _ => ?_)
  · rfl
  refine itc (fun _ => ?_) (fun _ => ?_)
  · rfl
  refine itc (fun _ => ?_) (fun _ => ?_)
  · rfl
  refine itc (fun _ => ?_) (fun _ => ?_)
  · rfl
  refine itc (fun _ => ?_) (fun _ => ?_)
  · rfl
  refine itc (fun _ => ?_) (fun _ => ?_)
  · rfl
  refine itc (fun _ => ?_) (fun _ => ?_)
  · rfl
  refine itc (fun _ => ?_) (fun _ => ?_)
  · rfl
  refine itc (fun _ => ?_) (fun _ => ?_)
  · rfl
  refine itc (fun _ => ?_) (fun _ => ?_)
  · rfl
  refine itc (fun _ => ?_) (fun _ => ?_)
  · rfl
  refine itc (fun _ => ?_) (fun _ => ?_)
  · rfl
  refine itc (fun _ => ?_) (fun _ => ?_)
  · rfl
  refine itc (fun _ => ?_) (fun _ => ?_)
  · rfl
  refine itc (fun _ => ?_) (fun _ => ?_)
  · rfl
  rfl
theorem keep_X11_isSignByte {M : Mem} {z : Int32 × Mem} {v0 : Int32} (h : L_X11_isSignByte v0 M = some z) : KG M z.2 := by
  unfold L_X11_isSignByte at h
  have hg : KG M M := KG.rf
  rcases itor h with h | h
  · obtain ⟨_, -, h⟩ := bnd h
    cases h; exact hg
  rcases itor h with h | h
  · obtain ⟨_, -, h⟩ := bnd h
    cases h; exact hg
  rcases itor h with h | h
  · obtain ⟨_, -, h⟩ := bnd h
    cases h; exact hg
  rcases itor h with h | h
  · obtain ⟨_, -, h⟩ := bnd h
    cases h; exact hg
  rcases itor h with h | h
  · obtain ⟨_, -, h⟩ := bnd h
    cases h; exact hg
  rcases itor h with h | h
  · obtain ⟨_, -, h⟩ := bnd h
    cases h; exact hg
  rcases itor h with h | h
  · obtain ⟨_, -, h⟩ := bnd h
    cases h; exact hg
  rcases itor h with h | h
  · obtain ⟨_, -, h⟩ := bnd h
    cases h; exact hg
  rcases itor h with h | h
  · obtain ⟨_, -, h⟩ := bnd h
    cases h; exact hg
  rcases itor h with h | h
  · obtain ⟨_, -, h⟩ := bnd h
    cases h; exact hg
  rcases itor h with h | h
  · obtain ⟨_, -, h⟩ := bnd h
    cases h; exact hg
  rcases itor h with h | h
  · obtain ⟨_, -, h⟩ := bnd h
    cases h; exact hg
  rcases itor h with h | h
  · obtain ⟨_, -, h⟩ := bnd h
    cases h; exact hg
  rcases itor h with h | h
  · obtain ⟨_, -, h⟩ := bnd h
    cases h; exact hg
  rcases itor h with h | h
  · obtain ⟨_, -, h⟩ := bnd h
    cases h; exact hg
  rcases itor h with h | h
  · obtain ⟨_, -, h⟩ := bnd h
    cases h; exact hg
  rcases itor h with h | h
  · obtain ⟨_, -, h⟩ := bnd h
    cases h; exact hg
  rcases itor h with h | h
  · obtain ⟨_, -, h⟩ := bnd h
    cases h; exact hg
  obtain ⟨_, -, h⟩ := bnd h
  cases h; exact hg
def SJ_X11_advance_26 (k_0 : Mem → Option (Unit × Mem))  (M : Mem) : Option (Unit × Mem) :=
  k_0  (si M 181 5 ((gi M 181 5) + (1 : Int32)))
theorem eqJ_X11_advance_26 {M : Mem} {k_0 : Option Nat → Mem → Option (Unit × Mem)} {q_0 : Mem → Option (Unit × Mem)} (hk_0 : ∀  (Ma : Mem), FSR Ma → k_0 (some 181) Ma = q_0  Ma) (hF : FSR M) : J_X11_advance_26 k_0 (some 181) M = SJ_X11_advance_26 q_0  M := by
  unfold J_X11_advance_26 SJ_X11_advance_26
  refine (bi_fI (hF.kd 181)).trans ?_
  refine (bi_pI (hF.kd 181)).trans ?_
  have hF : FSR (si M 181 5 ((gi M 181 5) + (1 : Int32))) := hF.kg ⟨rfl, rfl, rfl⟩
  exact hk_0  _ hF
theorem keepJ_X11_advance_26 {M : Mem} {z : Unit × Mem} {k_0 : Option Nat → Mem → Option (Unit × Mem)} (hk_0 : ∀ (v0 : Option Nat) (Ma : Mem), k_0 v0 Ma = some z → KG Ma z.2) {v0 : Option Nat} (h : J_X11_advance_26 k_0 v0 M = some z) : KG M z.2 := by
  unfold J_X11_advance_26 at h
  have hg : KG M M := KG.rf
  obtain ⟨_, -, h⟩ := bnd h
  obtain ⟨_, hw, h⟩ := bnd h
  have hg := hg.trans (kg_pI hw)
  exact hg.trans (hk_0 _ _ h)
def SJ_X11_advance_139 (k_85 : Mem → Option (Unit × Mem))  (M : Mem) : Option (Unit × Mem) :=
  k_85  (si M 181 5 ((gi M 181 5) + (1 : Int32)))
theorem eqJ_X11_advance_139 {M : Mem} {k_85 : Option Nat → Mem → Option (Unit × Mem)} {q_85 : Mem → Option (Unit × Mem)} (hk_85 : ∀  (Ma : Mem), FSR Ma → k_85 (some 181) Ma = q_85  Ma) (hF : FSR M) : J_X11_advance_139 k_85 (some 181) M = SJ_X11_advance_139 q_85  M := by
  unfold J_X11_advance_139 SJ_X11_advance_139
  refine (bi_fI (hF.kd 181)).trans ?_
  refine (bi_pI (hF.kd 181)).trans ?_
  have hF : FSR (si M 181 5 ((gi M 181 5) + (1 : Int32))) := hF.kg ⟨rfl, rfl, rfl⟩
  exact hk_85  _ hF
theorem keepJ_X11_advance_139 {M : Mem} {z : Unit × Mem} {k_85 : Option Nat → Mem → Option (Unit × Mem)} (hk_85 : ∀ (v0 : Option Nat) (Ma : Mem), k_85 v0 Ma = some z → KG Ma z.2) {v0 : Option Nat} (h : J_X11_advance_139 k_85 v0 M = some z) : KG M z.2 := by
  unfold J_X11_advance_139 at h
  have hg : KG M M := KG.rf
  obtain ⟨_, -, h⟩ := bnd h
  obtain ⟨_, hw, h⟩ := bnd h
  have hg := hg.trans (kg_pI hw)
  exact hg.trans (hk_85 _ _ h)
def SJ_X11_advance_209 (k_177 : Int32 → Mem → Option (Unit × Mem)) (v2 : Int32) (M : Mem) : Option (Unit × Mem) :=
  k_177 (v2 + 1) M
theorem eqJ_X11_advance_209 {M : Mem} {k_177 : Option Nat → Int32 → Mem → Option (Unit × Mem)} {q_177 : Int32 → Mem → Option (Unit × Mem)} (hk_177 : ∀ (v2 : Int32) (Ma : Mem), FSR Ma → k_177 (some 181) v2 Ma = q_177 v2 Ma) (hF : FSR M) {v2 : Int32} : J_X11_advance_209 k_177 (some 181) v2 M = SJ_X11_advance_209 q_177 v2 M := by
  unfold J_X11_advance_209 SJ_X11_advance_209
  exact hk_177 _ _ hF
theorem keepJ_X11_advance_209 {M : Mem} {z : Unit × Mem} {k_177 : Option Nat → Int32 → Mem → Option (Unit × Mem)} (hk_177 : ∀ (v0 : Option Nat) (v2 : Int32) (Ma : Mem), k_177 v0 v2 Ma = some z → KG Ma z.2) {v0 : Option Nat} {v2 : Int32} (h : J_X11_advance_209 k_177 v0 v2 M = some z) : KG M z.2 := by
  unfold J_X11_advance_209 at h
  have hg : KG M M := KG.rf
  exact hg.trans (hk_177 _ _ _ h)
def SJ_X11_advance_215  (M : Mem) : Option (Unit × Mem) :=
  if (gi M 181 10) ≤ 0 then
  (some ((), M))
  else
  (some ((), si M 181 6 (2 : Int32)))
theorem eqJ_X11_advance_215 {M : Mem} (hF : FSR M) : J_X11_advance_215 (some 181) M = SJ_X11_advance_215  M := by
  unfold J_X11_advance_215 SJ_X11_advance_215
  refine (bi_fI (hF.kd 181)).trans ?_
  refine itc (fun _ => ?_) (fun _ => ?_)
  · rfl
  · refine (bi_pI (hF.kd 181)).trans ?_
    have hF : FSR (si M 181 6 (2 : Int32)) := hF.kg ⟨rfl, rfl, rfl⟩
    rfl
theorem keepJ_X11_advance_215 {M : Mem} {z : Unit × Mem} {v0 : Option Nat} (h : J_X11_advance_215 v0 M = some z) : KG M z.2 := by
  unfold J_X11_advance_215 at h
  have hg : KG M M := KG.rf
  obtain ⟨_, -, h⟩ := bnd h
  rcases itor h with h | h
  · cases h; exact hg
  · obtain ⟨_, hw, h⟩ := bnd h
    have hg := hg.trans (kg_pI hw)
    cases h; exact hg
def SJ_X11_advance_177 : Nat → Int32 → Mem → Option (Unit × Mem)
  | 0 => fun _ _ => none
  | n + 1 => fun v2 M =>
  if (13 : Int32) ≤ v2 then
  (SJ_X11_advance_215  M)
  else
  (if ¬ (gi M 181 6) = 0 then
  (SJ_X11_advance_215  M)
  else
  (gd (inb v2 13) (
  if ¬ (gl M 183 v2.toNatClampNeg) = (gl M 181 8) then
  (SJ_X11_advance_209 (SJ_X11_advance_177 n) v2 M)
  else
  (SJ_X11_advance_209 (SJ_X11_advance_177 n) v2 (si M 181 10 v2)))))
theorem eqJ_X11_advance_177 : ∀ (n : Nat) (v2 : Int32) (M : Mem), FSR M → J_X11_advance_177 n (some 181) v2 M = SJ_X11_advance_177 n v2 M := by
  intro n
  induction n with
  | zero => intro v2 M hF; rfl
  | succ n ih =>
    intro v2 M hF
    unfold J_X11_advance_177 SJ_X11_advance_177
    refine itc (fun _ => ?_) (fun _ => ?_)
    · exact eqJ_X11_advance_215 hF
    · refine (bi_fI (hF.kd 181)).trans ?_
      refine itc (fun _ => ?_) (fun _ => ?_)
      · exact eqJ_X11_advance_215 hF
      · refine (bi_fR (hF.kd 181) (hF.gr 13)).trans ?_
        refine (bi_aL (hF.kd 183) (hF.ln 183)).trans ?_
        refine gd_congr (fun _ => ?_)
        refine (bi_fL (hF.kd 181)).trans ?_
        refine itc (fun _ => ?_) (fun _ => ?_)
        · exact eqJ_X11_advance_209 ih hF
        · refine (bi_pI (hF.kd 181)).trans ?_
          have hF : FSR (si M 181 10 v2) := hF.kg ⟨rfl, rfl, rfl⟩
          exact eqJ_X11_advance_209 ih hF
theorem keepJ_X11_advance_177 {z : Unit × Mem} : ∀ (n : Nat) (v0 : Option Nat) (v2 : Int32) (M : Mem), J_X11_advance_177 n v0 v2 M = some z → KG M z.2 := by
  intro n
  induction n with
  | zero => intro v0 v2 M h; exact nomatch h
  | succ n ih =>
    intro v0 v2 M h
    unfold J_X11_advance_177 at h
    have hg : KG M M := KG.rf
    rcases itor h with h | h
    · exact hg.trans (keepJ_X11_advance_215 h)
    · obtain ⟨_, -, h⟩ := bnd h
      rcases itor h with h | h
      · exact hg.trans (keepJ_X11_advance_215 h)
      · obtain ⟨_, -, h⟩ := bnd h
        obtain ⟨_, -, h⟩ := bnd h
        obtain ⟨_, -, h⟩ := bnd h
        rcases itor h with h | h
        · exact hg.trans (keepJ_X11_advance_209 ih h)
        · obtain ⟨_, hw, h⟩ := bnd h
          have hg := hg.trans (kg_pI hw)
          exact hg.trans (keepJ_X11_advance_209 ih h)
def SJ_X11_advance_172 (s1 : Int32) (M : Mem) : Option (Unit × Mem) :=
  SJ_X11_advance_177 FU (1 : Int32) (si M 181 6 s1)
theorem eqJ_X11_advance_172 {M : Mem} (hF : FSR M) {s1 : Int32} : J_X11_advance_172 (some 181) (some 181) s1 M = SJ_X11_advance_172 s1 M := by
  unfold J_X11_advance_172 SJ_X11_advance_172
  refine (bi_pI (hF.kd 181)).trans ?_
  have hF : FSR (si M 181 6 s1) := hF.kg ⟨rfl, rfl, rfl⟩
  exact eqJ_X11_advance_177 FU _ _ hF
theorem keepJ_X11_advance_172 {M : Mem} {z : Unit × Mem} {v0 : Option Nat} {s0 : Option Nat} {s1 : Int32} (h : J_X11_advance_172 v0 s0 s1 M = some z) : KG M z.2 := by
  unfold J_X11_advance_172 at h
  have hg : KG M M := KG.rf
  obtain ⟨_, hw, h⟩ := bnd h
  have hg := hg.trans (kg_pI hw)
  exact hg.trans (keepJ_X11_advance_177 FU _ _ _ h)
def SJ_X11_advance_85 : Nat → Mem → Option (Unit × Mem)
  | 0 => fun  _ => none
  | n + 1 => fun  M =>
  (S_X11_byteAt (gi M 181 5) M).bind fun w1 =>
  (L_X11_isLetter w1.1 w1.2).bind fun w2 =>
  if w2.1 = 0 then
  (if ((gi w2.2 181 5) - (gi w2.2 181 7)) ≤ (8 : Int32) then
  (SJ_X11_advance_172 (0 : Int32) w2.2)
  else
  (SJ_X11_advance_172 (5 : Int32) w2.2))
  else
  (if (8 : Int32) ≤ ((gi w2.2 181 5) - (gi w2.2 181 7)) then
  (SJ_X11_advance_139 (SJ_X11_advance_85 n)  w2.2)
  else
  ((S_X11_byteAt (gi w2.2 181 5) w2.2).bind fun w3 =>
  SJ_X11_advance_139 (SJ_X11_advance_85 n)  (sl w3.2 181 8 ((((32 : Int64) * (gl w2.2 181 8)) + w3.1.toInt64) - (96 : Int64)))))
theorem eqJ_X11_advance_85 : ∀ (n : Nat)  (M : Mem), FSR M → J_X11_advance_85 n (some 181) M = SJ_X11_advance_85 n  M := by
  intro n
  induction n with
  | zero => intro  M hF; rfl
  | succ n ih =>
    intro  M hF
    unfold J_X11_advance_85 SJ_X11_advance_85
    refine (bi_fI (hF.kd 181)).trans ?_
    refine (bi_ck (hF.kd 181)).trans ?_
    refine bdc (eqS_X11_byteAt hF) (fun w1 hw => ?_)
    have hF := hF.kg (keep_X11_byteAt hw)
    refine bdc rfl (fun w2 hw => ?_)
    have hF := hF.kg (keep_X11_isLetter hw)
    refine itc (fun _ => ?_) (fun _ => ?_)
    · refine (bi_fI (hF.kd 181)).trans ?_
      refine (bi_fI (hF.kd 181)).trans ?_
      refine itc (fun _ => ?_) (fun _ => ?_)
      · exact eqJ_X11_advance_172 hF
      · exact eqJ_X11_advance_172 hF
    · refine (bi_fI (hF.kd 181)).trans ?_
      refine (bi_fI (hF.kd 181)).trans ?_
      refine itc (fun _ => ?_) (fun _ => ?_)
      · exact eqJ_X11_advance_139 ih hF
      · refine (bi_fL (hF.kd 181)).trans ?_
        refine (bi_fI (hF.kd 181)).trans ?_
        refine (bi_ck (hF.kd 181)).trans ?_
        refine bdc (eqS_X11_byteAt hF) (fun w3 hw => ?_)
        have hF := hF.kg (keep_X11_byteAt hw)
        refine (bi_pL (hF.kd 181)).trans ?_
        have hF : FSR (sl w3.2 181 8 ((((32 : Int64) * (gl w2.2 181 8)) + w3.1.toInt64) - (96 : Int64))) := hF.kg ⟨rfl, rfl, rfl⟩
        exact eqJ_X11_advance_139 ih hF
theorem keepJ_X11_advance_85 {z : Unit × Mem} : ∀ (n : Nat) (v0 : Option Nat) (M : Mem), J_X11_advance_85 n v0 M = some z → KG M z.2 := by
  intro n
  induction n with
  | zero => intro v0 M h; exact nomatch h
  | succ n ih =>
    intro v0 M h
    unfold J_X11_advance_85 at h
    have hg : KG M M := KG.rf
    obtain ⟨_, -, h⟩ := bnd h
    obtain ⟨_, -, h⟩ := bnd h
    obtain ⟨w1, hw, h⟩ := bnd h
    have hg := hg.trans (keep_X11_byteAt hw)
    obtain ⟨w2, hw, h⟩ := bnd h
    have hg := hg.trans (keep_X11_isLetter hw)
    rcases itor h with h | h
    · obtain ⟨_, -, h⟩ := bnd h
      obtain ⟨_, -, h⟩ := bnd h
      rcases itor h with h | h
      · exact hg.trans (keepJ_X11_advance_172 h)
      · exact hg.trans (keepJ_X11_advance_172 h)
    · obtain ⟨_, -, h⟩ := bnd h
      obtain ⟨_, -, h⟩ := bnd h
      rcases itor h with h | h
      · exact hg.trans (keepJ_X11_advance_139 ih h)
      · obtain ⟨_, -, h⟩ := bnd h
        obtain ⟨_, -, h⟩ := bnd h
        obtain ⟨_, -, h⟩ := bnd h
        obtain ⟨w3, hw, h⟩ := bnd h
        have hg := hg.trans (keep_X11_byteAt hw)
        obtain ⟨_, hw, h⟩ := bnd h
        have hg := hg.trans (kg_pL hw)
        exact hg.trans (keepJ_X11_advance_139 ih h)
def SJ_X11_advance_293 (k_242 : Mem → Option (Unit × Mem))  (M : Mem) : Option (Unit × Mem) :=
  k_242  (si M 181 5 ((gi M 181 5) + (1 : Int32)))
theorem eqJ_X11_advance_293 {M : Mem} {k_242 : Option Nat → Mem → Option (Unit × Mem)} {q_242 : Mem → Option (Unit × Mem)} (hk_242 : ∀  (Ma : Mem), FSR Ma → k_242 (some 181) Ma = q_242  Ma) (hF : FSR M) : J_X11_advance_293 k_242 (some 181) M = SJ_X11_advance_293 q_242  M := by
  unfold J_X11_advance_293 SJ_X11_advance_293
  refine (bi_fI (hF.kd 181)).trans ?_
  refine (bi_pI (hF.kd 181)).trans ?_
  have hF : FSR (si M 181 5 ((gi M 181 5) + (1 : Int32))) := hF.kg ⟨rfl, rfl, rfl⟩
  exact hk_242  _ hF
theorem keepJ_X11_advance_293 {M : Mem} {z : Unit × Mem} {k_242 : Option Nat → Mem → Option (Unit × Mem)} (hk_242 : ∀ (v0 : Option Nat) (Ma : Mem), k_242 v0 Ma = some z → KG Ma z.2) {v0 : Option Nat} (h : J_X11_advance_293 k_242 v0 M = some z) : KG M z.2 := by
  unfold J_X11_advance_293 at h
  have hg : KG M M := KG.rf
  obtain ⟨_, -, h⟩ := bnd h
  obtain ⟨_, hw, h⟩ := bnd h
  have hg := hg.trans (kg_pI hw)
  exact hg.trans (hk_242 _ _ h)
def SJ_X11_advance_326 (s1 : Int32) (M : Mem) : Option (Unit × Mem) :=
  some ((), si M 181 6 s1)
theorem eqJ_X11_advance_326 {M : Mem} (hF : FSR M) {s1 : Int32} : J_X11_advance_326 (some 181) s1 M = SJ_X11_advance_326 s1 M := by
  unfold J_X11_advance_326 SJ_X11_advance_326
  refine (bi_pI (hF.kd 181)).trans ?_
  have hF : FSR (si M 181 6 s1) := hF.kg ⟨rfl, rfl, rfl⟩
  rfl
theorem keepJ_X11_advance_326 {M : Mem} {z : Unit × Mem} {s0 : Option Nat} {s1 : Int32} (h : J_X11_advance_326 s0 s1 M = some z) : KG M z.2 := by
  unfold J_X11_advance_326 at h
  have hg : KG M M := KG.rf
  obtain ⟨_, hw, h⟩ := bnd h
  have hg := hg.trans (kg_pI hw)
  cases h; exact hg
def SJ_X11_advance_242 : Nat → Mem → Option (Unit × Mem)
  | 0 => fun  _ => none
  | n + 1 => fun  M =>
  (S_X11_byteAt (gi M 181 5) M).bind fun w4 =>
  (L_X11_isDigit w4.1 w4.2).bind fun w5 =>
  if w5.1 = 0 then
  (if ((gi w5.2 181 5) - (gi w5.2 181 7)) ≤ (9 : Int32) then
  (SJ_X11_advance_326 (1 : Int32) w5.2)
  else
  (SJ_X11_advance_326 (5 : Int32) w5.2))
  else
  (if (9 : Int32) ≤ ((gi w5.2 181 5) - (gi w5.2 181 7)) then
  (SJ_X11_advance_293 (SJ_X11_advance_242 n)  w5.2)
  else
  ((S_X11_byteAt (gi w5.2 181 5) w5.2).bind fun w6 =>
  SJ_X11_advance_293 (SJ_X11_advance_242 n)  (si w6.2 181 9 ((((10 : Int32) * (gi w5.2 181 9)) + w6.1) - (48 : Int32)))))
theorem eqJ_X11_advance_242 : ∀ (n : Nat)  (M : Mem), FSR M → J_X11_advance_242 n (some 181) M = SJ_X11_advance_242 n  M := by
  intro n
  induction n with
  | zero => intro  M hF; rfl
  | succ n ih =>
    intro  M hF
    unfold J_X11_advance_242 SJ_X11_advance_242
    refine (bi_fI (hF.kd 181)).trans ?_
    refine (bi_ck (hF.kd 181)).trans ?_
    refine bdc (eqS_X11_byteAt hF) (fun w4 hw => ?_)
    have hF := hF.kg (keep_X11_byteAt hw)
    refine bdc rfl (fun w5 hw => ?_)
    have hF := hF.kg (keep_X11_isDigit hw)
    refine itc (fun _ => ?_) (fun _ => ?_)
    · refine (bi_fI (hF.kd 181)).trans ?_
      refine (bi_fI (hF.kd 181)).trans ?_
      refine itc (fun _ => ?_) (fun _ => ?_)
      · exact eqJ_X11_advance_326 hF
      · exact eqJ_X11_advance_326 hF
    · refine (bi_fI (hF.kd 181)).trans ?_
      refine (bi_fI (hF.kd 181)).trans ?_
      refine itc (fun _ => ?_) (fun _ => ?_)
      · exact eqJ_X11_advance_293 ih hF
      · refine (bi_fI (hF.kd 181)).trans ?_
        refine (bi_fI (hF.kd 181)).trans ?_
        refine (bi_ck (hF.kd 181)).trans ?_
        refine bdc (eqS_X11_byteAt hF) (fun w6 hw => ?_)
        have hF := hF.kg (keep_X11_byteAt hw)
        refine (bi_pI (hF.kd 181)).trans ?_
        have hF : FSR (si w6.2 181 9 ((((10 : Int32) * (gi w5.2 181 9)) + w6.1) - (48 : Int32))) := hF.kg ⟨rfl, rfl, rfl⟩
        exact eqJ_X11_advance_293 ih hF
theorem keepJ_X11_advance_242 {z : Unit × Mem} : ∀ (n : Nat) (v0 : Option Nat) (M : Mem), J_X11_advance_242 n v0 M = some z → KG M z.2 := by
  intro n
  induction n with
  | zero => intro v0 M h; exact nomatch h
  | succ n ih =>
    intro v0 M h
    unfold J_X11_advance_242 at h
    have hg : KG M M := KG.rf
    obtain ⟨_, -, h⟩ := bnd h
    obtain ⟨_, -, h⟩ := bnd h
    obtain ⟨w4, hw, h⟩ := bnd h
    have hg := hg.trans (keep_X11_byteAt hw)
    obtain ⟨w5, hw, h⟩ := bnd h
    have hg := hg.trans (keep_X11_isDigit hw)
    rcases itor h with h | h
    · obtain ⟨_, -, h⟩ := bnd h
      obtain ⟨_, -, h⟩ := bnd h
      rcases itor h with h | h
      · exact hg.trans (keepJ_X11_advance_326 h)
      · exact hg.trans (keepJ_X11_advance_326 h)
    · obtain ⟨_, -, h⟩ := bnd h
      obtain ⟨_, -, h⟩ := bnd h
      rcases itor h with h | h
      · exact hg.trans (keepJ_X11_advance_293 ih h)
      · obtain ⟨_, -, h⟩ := bnd h
        obtain ⟨_, -, h⟩ := bnd h
        obtain ⟨_, -, h⟩ := bnd h
        obtain ⟨w6, hw, h⟩ := bnd h
        have hg := hg.trans (keep_X11_byteAt hw)
        obtain ⟨_, hw, h⟩ := bnd h
        have hg := hg.trans (kg_pI hw)
        exact hg.trans (keepJ_X11_advance_293 ih h)
def SJ_X11_advance_355 (s1 : Int32) (M : Mem) : Option (Unit × Mem) :=
  some ((), si M 181 6 s1)
theorem eqJ_X11_advance_355 {M : Mem} (hF : FSR M) {s1 : Int32} : J_X11_advance_355 (some 181) s1 M = SJ_X11_advance_355 s1 M := by
  unfold J_X11_advance_355 SJ_X11_advance_355
  refine (bi_pI (hF.kd 181)).trans ?_
  have hF : FSR (si M 181 6 s1) := hF.kg ⟨rfl, rfl, rfl⟩
  rfl
theorem keepJ_X11_advance_355 {M : Mem} {z : Unit × Mem} {s0 : Option Nat} {s1 : Int32} (h : J_X11_advance_355 s0 s1 M = some z) : KG M z.2 := by
  unfold J_X11_advance_355 at h
  have hg : KG M M := KG.rf
  obtain ⟨_, hw, h⟩ := bnd h
  have hg := hg.trans (kg_pI hw)
  cases h; exact hg
def SJ_X11_advance_0 : Nat → Mem → Option (Unit × Mem)
  | 0 => fun  _ => none
  | n + 1 => fun  M =>
  (S_X11_byteAt (gi M 181 5) M).bind fun w7 =>
  if w7.1 = (10 : Int32) then
  (SJ_X11_advance_26 (SJ_X11_advance_0 n)  w7.2)
  else
  ((S_X11_byteAt (gi w7.2 181 5) w7.2).bind fun w8 =>
  if ¬ w8.1 = (32 : Int32) then
  ((S_X11_byteAt (gi (si w8.2 181 7 (gi w8.2 181 5)) 181 5) (si w8.2 181 7 (gi w8.2 181 5))).bind fun w9 =>
  if 0 ≤ w9.1 then
  ((L_X11_isLetter w9.1 (si w9.2 181 10 (0 : Int32))).bind fun w10 =>
  if w10.1 = 0 then
  ((L_X11_isDigit w9.1 w10.2).bind fun w11 =>
  if w11.1 = 0 then
  ((L_X11_isSignByte w9.1 (si w11.2 181 5 ((gi w11.2 181 5) + (1 : Int32)))).bind fun w12 =>
  if w12.1 = 0 then
  (SJ_X11_advance_355 (5 : Int32) w12.2)
  else
  (SJ_X11_advance_355 (3 : Int32) w12.2))
  else
  (SJ_X11_advance_242 FU  (si w11.2 181 9 (0 : Int32))))
  else
  (SJ_X11_advance_85 FU  (sl w10.2 181 8 (0 : Int64))))
  else
  (some ((), si (si w9.2 181 10 (0 : Int32)) 181 6 (4 : Int32))))
  else
  (SJ_X11_advance_26 (SJ_X11_advance_0 n)  w8.2))
theorem eqJ_X11_advance_0 : ∀ (n : Nat)  (M : Mem), FSR M → J_X11_advance_0 n (some 181) M = SJ_X11_advance_0 n  M := by
  intro n
  induction n with
  | zero => intro  M hF; rfl
  | succ n ih =>
    intro  M hF
    unfold J_X11_advance_0 SJ_X11_advance_0
    refine (bi_fI (hF.kd 181)).trans ?_
    refine (bi_ck (hF.kd 181)).trans ?_
    refine bdc (eqS_X11_byteAt hF) (fun w7 hw => ?_)
    have hF := hF.kg (keep_X11_byteAt hw)
    refine itc (fun _ => ?_) (fun _ => ?_)
    · exact eqJ_X11_advance_26 ih hF
    · refine (bi_fI (hF.kd 181)).trans ?_
      refine (bi_ck (hF.kd 181)).trans ?_
      refine bdc (eqS_X11_byteAt hF) (fun w8 hw => ?_)
      have hF := hF.kg (keep_X11_byteAt hw)
      refine itc (fun _ => ?_) (fun _ => ?_)
      · refine (bi_fI (hF.kd 181)).trans ?_
        refine (bi_pI (hF.kd 181)).trans ?_
        have hF : FSR (si w8.2 181 7 (gi w8.2 181 5)) := hF.kg ⟨rfl, rfl, rfl⟩
        refine (bi_fI (hF.kd 181)).trans ?_
        refine (bi_ck (hF.kd 181)).trans ?_
        refine bdc (eqS_X11_byteAt hF) (fun w9 hw => ?_)
        have hF := hF.kg (keep_X11_byteAt hw)
        refine (bi_pI (hF.kd 181)).trans ?_
        have hF : FSR (si w9.2 181 10 (0 : Int32)) := hF.kg ⟨rfl, rfl, rfl⟩
        refine itc (fun _ => ?_) (fun _ => ?_)
        · refine bdc rfl (fun w10 hw => ?_)
          have hF := hF.kg (keep_X11_isLetter hw)
          refine itc (fun _ => ?_) (fun _ => ?_)
          · refine bdc rfl (fun w11 hw => ?_)
            have hF := hF.kg (keep_X11_isDigit hw)
            refine itc (fun _ => ?_) (fun _ => ?_)
            · refine (bi_fI (hF.kd 181)).trans ?_
              refine (bi_pI (hF.kd 181)).trans ?_
              have hF : FSR (si w11.2 181 5 ((gi w11.2 181 5) + (1 : Int32))) := hF.kg ⟨rfl, rfl, rfl⟩
              refine bdc rfl (fun w12 hw => ?_)
              have hF := hF.kg (keep_X11_isSignByte hw)
              refine itc (fun _ => ?_) (fun _ => ?_)
              · exact eqJ_X11_advance_355 hF
              · exact eqJ_X11_advance_355 hF
            · refine (bi_pI (hF.kd 181)).trans ?_
              have hF : FSR (si w11.2 181 9 (0 : Int32)) := hF.kg ⟨rfl, rfl, rfl⟩
              exact eqJ_X11_advance_242 FU  _ hF
          · refine (bi_pL (hF.kd 181)).trans ?_
            have hF : FSR (sl w10.2 181 8 (0 : Int64)) := hF.kg ⟨rfl, rfl, rfl⟩
            exact eqJ_X11_advance_85 FU  _ hF
        · refine (bi_pI (hF.kd 181)).trans ?_
          have hF : FSR (si (si w9.2 181 10 (0 : Int32)) 181 6 (4 : Int32)) := hF.kg ⟨rfl, rfl, rfl⟩
          rfl
      · exact eqJ_X11_advance_26 ih hF
theorem keepJ_X11_advance_0 {z : Unit × Mem} : ∀ (n : Nat) (v0 : Option Nat) (M : Mem), J_X11_advance_0 n v0 M = some z → KG M z.2 := by
  intro n
  induction n with
  | zero => intro v0 M h; exact nomatch h
  | succ n ih =>
    intro v0 M h
    unfold J_X11_advance_0 at h
    have hg : KG M M := KG.rf
    obtain ⟨_, -, h⟩ := bnd h
    obtain ⟨_, -, h⟩ := bnd h
    obtain ⟨w7, hw, h⟩ := bnd h
    have hg := hg.trans (keep_X11_byteAt hw)
    rcases itor h with h | h
    · exact hg.trans (keepJ_X11_advance_26 ih h)
    · obtain ⟨_, -, h⟩ := bnd h
      obtain ⟨_, -, h⟩ := bnd h
      obtain ⟨w8, hw, h⟩ := bnd h
      have hg := hg.trans (keep_X11_byteAt hw)
      rcases itor h with h | h
      · obtain ⟨_, -, h⟩ := bnd h
        obtain ⟨_, hw, h⟩ := bnd h
        have hg := hg.trans (kg_pI hw)
        obtain ⟨_, -, h⟩ := bnd h
        obtain ⟨_, -, h⟩ := bnd h
        obtain ⟨w9, hw, h⟩ := bnd h
        have hg := hg.trans (keep_X11_byteAt hw)
        obtain ⟨_, hw, h⟩ := bnd h
        have hg := hg.trans (kg_pI hw)
        rcases itor h with h | h
        · obtain ⟨w10, hw, h⟩ := bnd h
          have hg := hg.trans (keep_X11_isLetter hw)
          rcases itor h with h | h
          · obtain ⟨w11, hw, h⟩ := bnd h
            have hg := hg.trans (keep_X11_isDigit hw)
            rcases itor h with h | h
            · obtain ⟨_, -, h⟩ := bnd h
              obtain ⟨_, hw, h⟩ := bnd h
              have hg := hg.trans (kg_pI hw)
              obtain ⟨w12, hw, h⟩ := bnd h
              have hg := hg.trans (keep_X11_isSignByte hw)
              rcases itor h with h | h
              · exact hg.trans (keepJ_X11_advance_355 h)
              · exact hg.trans (keepJ_X11_advance_355 h)
            · obtain ⟨_, hw, h⟩ := bnd h
              have hg := hg.trans (kg_pI hw)
              exact hg.trans (keepJ_X11_advance_242 FU _ _ h)
          · obtain ⟨_, hw, h⟩ := bnd h
            have hg := hg.trans (kg_pL hw)
            exact hg.trans (keepJ_X11_advance_85 FU _ _ h)
        · obtain ⟨_, hw, h⟩ := bnd h
          have hg := hg.trans (kg_pI hw)
          cases h; exact hg
      · exact hg.trans (keepJ_X11_advance_26 ih h)
def S_X11_advance  (M : Mem) : Option (Unit × Mem) :=
  SJ_X11_advance_0 FU  M
theorem eqS_X11_advance {M : Mem} (hF : FSR M) : L_X11_advance (some 181) M = S_X11_advance  M := by
  unfold L_X11_advance S_X11_advance
  exact eqJ_X11_advance_0 FU  _ hF
theorem keep_X11_advance {M : Mem} {z : Unit × Mem} {v0 : Option Nat} (h : L_X11_advance v0 M = some z) : KG M z.2 := by
  unfold L_X11_advance at h
  have hg : KG M M := KG.rf
  exact hg.trans (keepJ_X11_advance_0 FU _ _ h)
def S_X11_stops  (M : Mem) : Option (Unit × Mem) :=
  if (gi M 181 11) = 0 then
  (some ((), si (si (si M 181 11 (1 : Int32)) 181 2 (1 : Int32)) 181 3 (gi (si (si M 181 11 (1 : Int32)) 181 2 (1 : Int32)) 181 7)))
  else
  (some ((), M))
theorem eqS_X11_stops {M : Mem} (hF : FSR M) : L_X11_stops (some 181) M = S_X11_stops  M := by
  unfold L_X11_stops S_X11_stops
  refine (bi_fI (hF.kd 181)).trans ?_
  refine itc (fun _ => ?_) (fun _ => ?_)
  · refine (bi_pZl (hF.kd 181) (by decide)).trans ?_
    have hF : FSR (si M 181 11 (1 : Int32)) := hF.kg ⟨rfl, rfl, rfl⟩
    refine (bi_pI (hF.kd 181)).trans ?_
    have hF : FSR (si (si M 181 11 (1 : Int32)) 181 2 (1 : Int32)) := hF.kg ⟨rfl, rfl, rfl⟩
    refine (bi_fI (hF.kd 181)).trans ?_
    refine (bi_pI (hF.kd 181)).trans ?_
    have hF : FSR (si (si (si M 181 11 (1 : Int32)) 181 2 (1 : Int32)) 181 3 (gi (si (si M 181 11 (1 : Int32)) 181 2 (1 : Int32)) 181 7)) := hF.kg ⟨rfl, rfl, rfl⟩
    rfl
  · rfl
theorem keep_X11_stops {M : Mem} {z : Unit × Mem} {v0 : Option Nat} (h : L_X11_stops v0 M = some z) : KG M z.2 := by
  unfold L_X11_stops at h
  have hg : KG M M := KG.rf
  obtain ⟨_, -, h⟩ := bnd h
  rcases itor h with h | h
  · obtain ⟨_, hw, h⟩ := bnd h
    have hg := hg.trans (kg_pZ hw)
    obtain ⟨_, hw, h⟩ := bnd h
    have hg := hg.trans (kg_pI hw)
    obtain ⟨_, -, h⟩ := bnd h
    obtain ⟨_, hw, h⟩ := bnd h
    have hg := hg.trans (kg_pI hw)
    cases h; exact hg
  · cases h; exact hg
def SJ_X11_tells_39 (v1 : Int32) (v2 : Int32) (M : Mem) : Option (Unit × Mem) :=
  some ((), si (si M 181 2 v1) 181 3 v2)
theorem eqJ_X11_tells_39 {M : Mem} (hF : FSR M) {v1 : Int32} {v2 : Int32} : J_X11_tells_39 (some 181) v1 v2 M = SJ_X11_tells_39 v1 v2 M := by
  unfold J_X11_tells_39 SJ_X11_tells_39
  refine (bi_pI (hF.kd 181)).trans ?_
  have hF : FSR (si M 181 2 v1) := hF.kg ⟨rfl, rfl, rfl⟩
  refine (bi_pI (hF.kd 181)).trans ?_
  have hF : FSR (si (si M 181 2 v1) 181 3 v2) := hF.kg ⟨rfl, rfl, rfl⟩
  rfl
theorem keepJ_X11_tells_39 {M : Mem} {z : Unit × Mem} {v0 : Option Nat} {v1 : Int32} {v2 : Int32} (h : J_X11_tells_39 v0 v1 v2 M = some z) : KG M z.2 := by
  unfold J_X11_tells_39 at h
  have hg : KG M M := KG.rf
  obtain ⟨_, hw, h⟩ := bnd h
  have hg := hg.trans (kg_pI hw)
  obtain ⟨_, hw, h⟩ := bnd h
  have hg := hg.trans (kg_pI hw)
  cases h; exact hg
def S_X11_tells (v1 : Int32) (v2 : Int32) (M : Mem) : Option (Unit × Mem) :=
  if ¬ (gi M 181 11) = 0 then
  (some ((), M))
  else
  (if (gi M 181 2) = 0 then
  (SJ_X11_tells_39 v1 v2 M)
  else
  (if (gi M 181 3) < v2 then
  (some ((), M))
  else
  (if ¬ v2 = (gi M 181 3) then
  (SJ_X11_tells_39 v1 v2 M)
  else
  (if v1 < (gi M 181 2) then
  (SJ_X11_tells_39 v1 v2 M)
  else
  (some ((), M))))))
theorem eqS_X11_tells {M : Mem} (hF : FSR M) {v1 : Int32} {v2 : Int32} : L_X11_tells (some 181) v1 v2 M = S_X11_tells v1 v2 M := by
  unfold L_X11_tells S_X11_tells
  refine (bi_fI (hF.kd 181)).trans ?_
  refine itc (fun _ => ?_) (fun _ => ?_)
  · rfl
  · refine (bi_fI (hF.kd 181)).trans ?_
    refine itc (fun _ => ?_) (fun _ => ?_)
    · exact eqJ_X11_tells_39 hF
    · refine (bi_fI (hF.kd 181)).trans ?_
      refine itc (fun _ => ?_) (fun _ => ?_)
      · rfl
      · refine (bi_fI (hF.kd 181)).trans ?_
        refine itc (fun _ => ?_) (fun _ => ?_)
        · exact eqJ_X11_tells_39 hF
        · refine (bi_fI (hF.kd 181)).trans ?_
          refine itc (fun _ => ?_) (fun _ => ?_)
          · exact eqJ_X11_tells_39 hF
          · rfl
theorem keep_X11_tells {M : Mem} {z : Unit × Mem} {v0 : Option Nat} {v1 : Int32} {v2 : Int32} (h : L_X11_tells v0 v1 v2 M = some z) : KG M z.2 := by
  unfold L_X11_tells at h
  have hg : KG M M := KG.rf
  obtain ⟨_, -, h⟩ := bnd h
  rcases itor h with h | h
  · cases h; exact hg
  · obtain ⟨_, -, h⟩ := bnd h
    rcases itor h with h | h
    · exact hg.trans (keepJ_X11_tells_39 h)
    · obtain ⟨_, -, h⟩ := bnd h
      rcases itor h with h | h
      · cases h; exact hg
      · obtain ⟨_, -, h⟩ := bnd h
        rcases itor h with h | h
        · exact hg.trans (keepJ_X11_tells_39 h)
        · obtain ⟨_, -, h⟩ := bnd h
          rcases itor h with h | h
          · exact hg.trans (keepJ_X11_tells_39 h)
          · cases h; exact hg
def S_X11_isSign (v1 : Int32) (M : Mem) : Option (Int32 × Mem) :=
  if ¬ (gi M 181 6) = (3 : Int32) then
  (some ((0 : Int32), M))
  else
  (gd (inb (gi M 181 7) 900) (
  if ¬ (gi M 182 (gi M 181 7).toNatClampNeg) = v1 then
  (some ((0 : Int32), M))
  else
  (some ((1 : Int32), M))))
theorem eqS_X11_isSign {M : Mem} (hF : FSR M) {v1 : Int32} : L_X11_isSign (some 181) v1 M = S_X11_isSign v1 M := by
  unfold L_X11_isSign S_X11_isSign
  refine (bi_fI (hF.kd 181)).trans ?_
  refine itc (fun _ => ?_) (fun _ => ?_)
  · rfl
  · refine (bi_fR (hF.kd 181) (hF.gr 0)).trans ?_
    refine (bi_fI (hF.kd 181)).trans ?_
    refine (bi_aI (hF.kd 182) (hF.ln 182)).trans ?_
    refine gd_congr (fun _ => ?_)
    refine itc (fun _ => ?_) (fun _ => ?_)
    · rfl
    · rfl
theorem keep_X11_isSign {M : Mem} {z : Int32 × Mem} {v0 : Option Nat} {v1 : Int32} (h : L_X11_isSign v0 v1 M = some z) : KG M z.2 := by
  unfold L_X11_isSign at h
  have hg : KG M M := KG.rf
  obtain ⟨_, -, h⟩ := bnd h
  rcases itor h with h | h
  · obtain ⟨_, -, h⟩ := bnd h
    cases h; exact hg
  · obtain ⟨_, -, h⟩ := bnd h
    obtain ⟨_, -, h⟩ := bnd h
    obtain ⟨_, -, h⟩ := bnd h
    rcases itor h with h | h
    · obtain ⟨_, -, h⟩ := bnd h
      cases h; exact hg
    · obtain ⟨_, -, h⟩ := bnd h
      cases h; exact hg
def S_X11_takes (v1 : Int32) (M : Mem) : Option (Int32 × Mem) :=
  if ¬ (gi M 181 11) = 0 then
  (some ((0 : Int32), M))
  else
  ((S_X11_isSign v1 M).bind fun w1 =>
  if ¬ w1.1 = 0 then
  ((S_X11_advance w1.2).bind fun w2 =>
  some ((1 : Int32), w2.2))
  else
  (some ((0 : Int32), w1.2)))
theorem eqS_X11_takes {M : Mem} (hF : FSR M) {v1 : Int32} : L_X11_takes (some 181) v1 M = S_X11_takes v1 M := by
  unfold L_X11_takes S_X11_takes
  refine (bi_fI (hF.kd 181)).trans ?_
  refine itc (fun _ => ?_) (fun _ => ?_)
  · rfl
  · refine (bi_ck (hF.kd 181)).trans ?_
    refine bdc (eqS_X11_isSign hF) (fun w1 hw => ?_)
    have hF := hF.kg (keep_X11_isSign hw)
    refine itc (fun _ => ?_) (fun _ => ?_)
    · refine (bi_ck (hF.kd 181)).trans ?_
      refine bdc (eqS_X11_advance hF) (fun w2 hw => ?_)
      have hF := hF.kg (keep_X11_advance hw)
      rfl
    · rfl
theorem keep_X11_takes {M : Mem} {z : Int32 × Mem} {v0 : Option Nat} {v1 : Int32} (h : L_X11_takes v0 v1 M = some z) : KG M z.2 := by
  unfold L_X11_takes at h
  have hg : KG M M := KG.rf
  obtain ⟨_, -, h⟩ := bnd h
  rcases itor h with h | h
  · obtain ⟨_, -, h⟩ := bnd h
    cases h; exact hg
  · obtain ⟨_, -, h⟩ := bnd h
    obtain ⟨w1, hw, h⟩ := bnd h
    have hg := hg.trans (keep_X11_isSign hw)
    rcases itor h with h | h
    · obtain ⟨_, -, h⟩ := bnd h
      obtain ⟨w2, hw, h⟩ := bnd h
      have hg := hg.trans (keep_X11_advance hw)
      obtain ⟨_, -, h⟩ := bnd h
      cases h; exact hg
    · obtain ⟨_, -, h⟩ := bnd h
      cases h; exact hg
def S_X11_must (v1 : Int32) (M : Mem) : Option (Unit × Mem) :=
  if (gi M 181 11) = 0 then
  ((S_X11_isSign v1 M).bind fun w1 =>
  if w1.1 = 0 then
  ((S_X11_stops w1.2).bind fun w2 =>
  some ((), w2.2))
  else
  ((S_X11_advance w1.2).bind fun w3 =>
  some ((), w3.2)))
  else
  (some ((), M))
theorem eqS_X11_must {M : Mem} (hF : FSR M) {v1 : Int32} : L_X11_must (some 181) v1 M = S_X11_must v1 M := by
  unfold L_X11_must S_X11_must
  refine (bi_fI (hF.kd 181)).trans ?_
  refine itc (fun _ => ?_) (fun _ => ?_)
  · refine (bi_ck (hF.kd 181)).trans ?_
    refine bdc (eqS_X11_isSign hF) (fun w1 hw => ?_)
    have hF := hF.kg (keep_X11_isSign hw)
    refine itc (fun _ => ?_) (fun _ => ?_)
    · refine (bi_ck (hF.kd 181)).trans ?_
      refine bdc (eqS_X11_stops hF) (fun w2 hw => ?_)
      have hF := hF.kg (keep_X11_stops hw)
      rfl
    · refine (bi_ck (hF.kd 181)).trans ?_
      refine bdc (eqS_X11_advance hF) (fun w3 hw => ?_)
      have hF := hF.kg (keep_X11_advance hw)
      rfl
  · rfl
theorem keep_X11_must {M : Mem} {z : Unit × Mem} {v0 : Option Nat} {v1 : Int32} (h : L_X11_must v0 v1 M = some z) : KG M z.2 := by
  unfold L_X11_must at h
  have hg : KG M M := KG.rf
  obtain ⟨_, -, h⟩ := bnd h
  rcases itor h with h | h
  · obtain ⟨_, -, h⟩ := bnd h
    obtain ⟨w1, hw, h⟩ := bnd h
    have hg := hg.trans (keep_X11_isSign hw)
    rcases itor h with h | h
    · obtain ⟨_, -, h⟩ := bnd h
      obtain ⟨w2, hw, h⟩ := bnd h
      have hg := hg.trans (keep_X11_stops hw)
      cases h; exact hg
    · obtain ⟨_, -, h⟩ := bnd h
      obtain ⟨w3, hw, h⟩ := bnd h
      have hg := hg.trans (keep_X11_advance hw)
      cases h; exact hg
  · cases h; exact hg
def S_X11_isWord (v1 : Int32) (M : Mem) : Option (Int32 × Mem) :=
  if ¬ (gi M 181 11) = 0 then
  (some ((0 : Int32), M))
  else
  (if ¬ (gi M 181 6) = (2 : Int32) then
  (some ((0 : Int32), M))
  else
  (if ¬ (gi M 181 10) = v1 then
  (some ((0 : Int32), M))
  else
  (some ((1 : Int32), M))))
theorem eqS_X11_isWord {M : Mem} (hF : FSR M) {v1 : Int32} : L_X11_isWord (some 181) v1 M = S_X11_isWord v1 M := by
  unfold L_X11_isWord S_X11_isWord
  refine (bi_fI (hF.kd 181)).trans ?_
  refine itc (fun _ => ?_) (fun _ => ?_)
  · rfl
  · refine (bi_fI (hF.kd 181)).trans ?_
    refine itc (fun _ => ?_) (fun _ => ?_)
    · rfl
    · refine (bi_fI (hF.kd 181)).trans ?_
      refine itc (fun _ => ?_) (fun _ => ?_)
      · rfl
      · rfl
theorem keep_X11_isWord {M : Mem} {z : Int32 × Mem} {v0 : Option Nat} {v1 : Int32} (h : L_X11_isWord v0 v1 M = some z) : KG M z.2 := by
  unfold L_X11_isWord at h
  have hg : KG M M := KG.rf
  obtain ⟨_, -, h⟩ := bnd h
  rcases itor h with h | h
  · obtain ⟨_, -, h⟩ := bnd h
    cases h; exact hg
  · obtain ⟨_, -, h⟩ := bnd h
    rcases itor h with h | h
    · obtain ⟨_, -, h⟩ := bnd h
      cases h; exact hg
    · obtain ⟨_, -, h⟩ := bnd h
      rcases itor h with h | h
      · obtain ⟨_, -, h⟩ := bnd h
        cases h; exact hg
      · obtain ⟨_, -, h⟩ := bnd h
        cases h; exact hg
def S_X11_emit (v1 : Int32) (v2 : Int64) (v4 : Int32) (M : Mem) : Option (Unit × Mem) :=
  gd (inb (gi M 181 27) 2000) (
  gd (inb (gi (si M 191 (gi M 181 27).toNatClampNeg v1) 181 27) 2000) (
  gd (inb (gi (sl (si M 191 (gi M 181 27).toNatClampNeg v1) 192 (gi (si M 191 (gi M 181 27).toNatClampNeg v1) 181 27).toNatClampNeg v2) 181 27) 2000) (
  some ((), si (si (sl (si M 191 (gi M 181 27).toNatClampNeg v1) 192 (gi (si M 191 (gi M 181 27).toNatClampNeg v1) 181 27).toNatClampNeg v2) 193 (gi (sl (si M 191 (gi M 181 27).toNatClampNeg v1) 192 (gi (si M 191 (gi M 181 27).toNatClampNeg v1) 181 27).toNatClampNeg v2) 181 27).toNatClampNeg v4) 181 27 ((gi (si (sl (si M 191 (gi M 181 27).toNatClampNeg v1) 192 (gi (si M 191 (gi M 181 27).toNatClampNeg v1) 181 27).toNatClampNeg v2) 193 (gi (sl (si M 191 (gi M 181 27).toNatClampNeg v1) 192 (gi (si M 191 (gi M 181 27).toNatClampNeg v1) 181 27).toNatClampNeg v2) 181 27).toNatClampNeg v4) 181 27) + (1 : Int32))))))
theorem eqS_X11_emit {M : Mem} (hF : FSR M) {v1 : Int32} {v2 : Int64} {v4 : Int32} : L_X11_emit (some 181) v1 v2 v4 M = S_X11_emit v1 v2 v4 M := by
  unfold L_X11_emit S_X11_emit
  refine (bi_fR (hF.kd 181) (hF.gr 28)).trans ?_
  refine (bi_fI (hF.kd 181)).trans ?_
  refine (bi_uI (hF.kd 191) (hF.ln 191)).trans ?_
  refine gd_congr (fun _ => ?_)
  have hF : FSR (si M 191 (gi M 181 27).toNatClampNeg v1) := hF.kg ⟨rfl, rfl, rfl⟩
  refine (bi_fR (hF.kd 181) (hF.gr 29)).trans ?_
  refine (bi_fI (hF.kd 181)).trans ?_
  refine (bi_uL (hF.kd 192) (hF.ln 192)).trans ?_
  refine gd_congr (fun _ => ?_)
  have hF : FSR (sl (si M 191 (gi M 181 27).toNatClampNeg v1) 192 (gi (si M 191 (gi M 181 27).toNatClampNeg v1) 181 27).toNatClampNeg v2) := hF.kg ⟨rfl, rfl, rfl⟩
  refine (bi_fR (hF.kd 181) (hF.gr 30)).trans ?_
  refine (bi_fI (hF.kd 181)).trans ?_
  refine (bi_uI (hF.kd 193) (hF.ln 193)).trans ?_
  refine gd_congr (fun _ => ?_)
  have hF : FSR (si (sl (si M 191 (gi M 181 27).toNatClampNeg v1) 192 (gi (si M 191 (gi M 181 27).toNatClampNeg v1) 181 27).toNatClampNeg v2) 193 (gi (sl (si M 191 (gi M 181 27).toNatClampNeg v1) 192 (gi (si M 191 (gi M 181 27).toNatClampNeg v1) 181 27).toNatClampNeg v2) 181 27).toNatClampNeg v4) := hF.kg ⟨rfl, rfl, rfl⟩
  refine (bi_fI (hF.kd 181)).trans ?_
  refine (bi_pI (hF.kd 181)).trans ?_
  have hF : FSR (si (si (sl (si M 191 (gi M 181 27).toNatClampNeg v1) 192 (gi (si M 191 (gi M 181 27).toNatClampNeg v1) 181 27).toNatClampNeg v2) 193 (gi (sl (si M 191 (gi M 181 27).toNatClampNeg v1) 192 (gi (si M 191 (gi M 181 27).toNatClampNeg v1) 181 27).toNatClampNeg v2) 181 27).toNatClampNeg v4) 181 27 ((gi (si (sl (si M 191 (gi M 181 27).toNatClampNeg v1) 192 (gi (si M 191 (gi M 181 27).toNatClampNeg v1) 181 27).toNatClampNeg v2) 193 (gi (sl (si M 191 (gi M 181 27).toNatClampNeg v1) 192 (gi (si M 191 (gi M 181 27).toNatClampNeg v1) 181 27).toNatClampNeg v2) 181 27).toNatClampNeg v4) 181 27) + (1 : Int32))) := hF.kg ⟨rfl, rfl, rfl⟩
  rfl
theorem keep_X11_emit {M : Mem} {z : Unit × Mem} {v0 : Option Nat} {v1 : Int32} {v2 : Int64} {v4 : Int32} (h : L_X11_emit v0 v1 v2 v4 M = some z) : KG M z.2 := by
  unfold L_X11_emit at h
  have hg : KG M M := KG.rf
  obtain ⟨_, -, h⟩ := bnd h
  obtain ⟨_, -, h⟩ := bnd h
  obtain ⟨_, hw, h⟩ := bnd h
  have hg := hg.trans (kg_uI hw)
  obtain ⟨_, -, h⟩ := bnd h
  obtain ⟨_, -, h⟩ := bnd h
  obtain ⟨_, hw, h⟩ := bnd h
  have hg := hg.trans (kg_uL hw)
  obtain ⟨_, -, h⟩ := bnd h
  obtain ⟨_, -, h⟩ := bnd h
  obtain ⟨_, hw, h⟩ := bnd h
  have hg := hg.trans (kg_uI hw)
  obtain ⟨_, -, h⟩ := bnd h
  obtain ⟨_, hw, h⟩ := bnd h
  have hg := hg.trans (kg_pI hw)
  cases h; exact hg
def SJ_X11_yearOf_26 (v2 : Int32) (M : Mem) : Option (Int32 × Mem) :=
  (S_X11_tells (3 : Int32) v2 M).bind fun w1 =>
  some ((-1 : Int32), w1.2)
theorem eqJ_X11_yearOf_26 {M : Mem} (hF : FSR M) {v2 : Int32} : J_X11_yearOf_26 (some 181) v2 M = SJ_X11_yearOf_26 v2 M := by
  unfold J_X11_yearOf_26 SJ_X11_yearOf_26
  refine (bi_ck (hF.kd 181)).trans ?_
  refine bdc (eqS_X11_tells hF) (fun w1 hw => ?_)
  have hF := hF.kg (keep_X11_tells hw)
  rfl
theorem keepJ_X11_yearOf_26 {M : Mem} {z : Int32 × Mem} {v0 : Option Nat} {v2 : Int32} (h : J_X11_yearOf_26 v0 v2 M = some z) : KG M z.2 := by
  unfold J_X11_yearOf_26 at h
  have hg : KG M M := KG.rf
  obtain ⟨_, -, h⟩ := bnd h
  obtain ⟨w1, hw, h⟩ := bnd h
  have hg := hg.trans (keep_X11_tells hw)
  cases h; exact hg
def S_X11_yearOf (v1 : Int32) (v2 : Int32) (M : Mem) : Option (Int32 × Mem) :=
  if v1 < (1700 : Int32) then
  (SJ_X11_yearOf_26 v2 M)
  else
  (if (1730 : Int32) ≤ v1 then
  (SJ_X11_yearOf_26 v2 M)
  else
  (if ¬ (v1 - (1700 : Int32)) = (gi M 181 12) then
  (some (v1 - (1700 : Int32), si M 181 35 ((gi M 181 35) ||| ((1 : Int32) <<< ((v1 - (1700 : Int32)) &&& 31)))))
  else
  (SJ_X11_yearOf_26 v2 M)))
theorem eqS_X11_yearOf {M : Mem} (hF : FSR M) {v1 : Int32} {v2 : Int32} : L_X11_yearOf (some 181) v1 v2 M = S_X11_yearOf v1 v2 M := by
  unfold L_X11_yearOf S_X11_yearOf
  refine itc (fun _ => ?_) (fun _ => ?_)
  · exact eqJ_X11_yearOf_26 hF
  · refine itc (fun _ => ?_) (fun _ => ?_)
    · exact eqJ_X11_yearOf_26 hF
    · refine (bi_fI (hF.kd 181)).trans ?_
      refine itc (fun _ => ?_) (fun _ => ?_)
      · refine (bi_fI (hF.kd 181)).trans ?_
        refine (bi_pI (hF.kd 181)).trans ?_
        have hF : FSR (si M 181 35 ((gi M 181 35) ||| ((1 : Int32) <<< ((v1 - (1700 : Int32)) &&& 31)))) := hF.kg ⟨rfl, rfl, rfl⟩
        rfl
      · exact eqJ_X11_yearOf_26 hF
theorem keep_X11_yearOf {M : Mem} {z : Int32 × Mem} {v0 : Option Nat} {v1 : Int32} {v2 : Int32} (h : L_X11_yearOf v0 v1 v2 M = some z) : KG M z.2 := by
  unfold L_X11_yearOf at h
  have hg : KG M M := KG.rf
  rcases itor h with h | h
  · exact hg.trans (keepJ_X11_yearOf_26 h)
  · rcases itor h with h | h
    · exact hg.trans (keepJ_X11_yearOf_26 h)
    · obtain ⟨_, -, h⟩ := bnd h
      rcases itor h with h | h
      · obtain ⟨_, -, h⟩ := bnd h
        obtain ⟨_, hw, h⟩ := bnd h
        have hg := hg.trans (kg_pI hw)
        cases h; exact hg
      · exact hg.trans (keepJ_X11_yearOf_26 h)
def SJ_X11_takesName_14  (M : Mem) : Option (Int64 × Mem) :=
  (S_X11_stops M).bind fun w1 =>
  some ((0 : Int64), w1.2)
theorem eqJ_X11_takesName_14 {M : Mem} (hF : FSR M) : J_X11_takesName_14 (some 181) M = SJ_X11_takesName_14  M := by
  unfold J_X11_takesName_14 SJ_X11_takesName_14
  refine (bi_ck (hF.kd 181)).trans ?_
  refine bdc (eqS_X11_stops hF) (fun w1 hw => ?_)
  have hF := hF.kg (keep_X11_stops hw)
  rfl
theorem keepJ_X11_takesName_14 {M : Mem} {z : Int64 × Mem} {v0 : Option Nat} (h : J_X11_takesName_14 v0 M = some z) : KG M z.2 := by
  unfold J_X11_takesName_14 at h
  have hg : KG M M := KG.rf
  obtain ⟨_, -, h⟩ := bnd h
  obtain ⟨w1, hw, h⟩ := bnd h
  have hg := hg.trans (keep_X11_stops hw)
  cases h; exact hg
def S_X11_takesName  (M : Mem) : Option (Int64 × Mem) :=
  if ¬ (gi M 181 11) = 0 then
  (SJ_X11_takesName_14  M)
  else
  (if (gi M 181 6) = 0 then
  ((S_X11_advance M).bind fun w2 =>
  some (gl M 181 8, w2.2))
  else
  (SJ_X11_takesName_14  M))
theorem eqS_X11_takesName {M : Mem} (hF : FSR M) : L_X11_takesName (some 181) M = S_X11_takesName  M := by
  unfold L_X11_takesName S_X11_takesName
  refine (bi_fI (hF.kd 181)).trans ?_
  refine itc (fun _ => ?_) (fun _ => ?_)
  · exact eqJ_X11_takesName_14 hF
  · refine (bi_fI (hF.kd 181)).trans ?_
    refine itc (fun _ => ?_) (fun _ => ?_)
    · refine (bi_fL (hF.kd 181)).trans ?_
      refine (bi_ck (hF.kd 181)).trans ?_
      refine bdc (eqS_X11_advance hF) (fun w2 hw => ?_)
      have hF := hF.kg (keep_X11_advance hw)
      rfl
    · exact eqJ_X11_takesName_14 hF
theorem keep_X11_takesName {M : Mem} {z : Int64 × Mem} {v0 : Option Nat} (h : L_X11_takesName v0 M = some z) : KG M z.2 := by
  unfold L_X11_takesName at h
  have hg : KG M M := KG.rf
  obtain ⟨_, -, h⟩ := bnd h
  rcases itor h with h | h
  · exact hg.trans (keepJ_X11_takesName_14 h)
  · obtain ⟨_, -, h⟩ := bnd h
    rcases itor h with h | h
    · obtain ⟨_, -, h⟩ := bnd h
      obtain ⟨_, -, h⟩ := bnd h
      obtain ⟨w2, hw, h⟩ := bnd h
      have hg := hg.trans (keep_X11_advance hw)
      cases h; exact hg
    · exact hg.trans (keepJ_X11_takesName_14 h)
def SJ_X11_takesNumber_15  (M : Mem) : Option (Int32 × Mem) :=
  (S_X11_stops M).bind fun w1 =>
  some ((0 : Int32), w1.2)
theorem eqJ_X11_takesNumber_15 {M : Mem} (hF : FSR M) : J_X11_takesNumber_15 (some 181) M = SJ_X11_takesNumber_15  M := by
  unfold J_X11_takesNumber_15 SJ_X11_takesNumber_15
  refine (bi_ck (hF.kd 181)).trans ?_
  refine bdc (eqS_X11_stops hF) (fun w1 hw => ?_)
  have hF := hF.kg (keep_X11_stops hw)
  rfl
theorem keepJ_X11_takesNumber_15 {M : Mem} {z : Int32 × Mem} {v0 : Option Nat} (h : J_X11_takesNumber_15 v0 M = some z) : KG M z.2 := by
  unfold J_X11_takesNumber_15 at h
  have hg : KG M M := KG.rf
  obtain ⟨_, -, h⟩ := bnd h
  obtain ⟨w1, hw, h⟩ := bnd h
  have hg := hg.trans (keep_X11_stops hw)
  cases h; exact hg
def S_X11_takesNumber  (M : Mem) : Option (Int32 × Mem) :=
  if ¬ (gi M 181 11) = 0 then
  (SJ_X11_takesNumber_15  M)
  else
  (if (gi M 181 6) = (1 : Int32) then
  ((S_X11_advance M).bind fun w2 =>
  some (gi M 181 9, w2.2))
  else
  (SJ_X11_takesNumber_15  M))
theorem eqS_X11_takesNumber {M : Mem} (hF : FSR M) : L_X11_takesNumber (some 181) M = S_X11_takesNumber  M := by
  unfold L_X11_takesNumber S_X11_takesNumber
  refine (bi_fI (hF.kd 181)).trans ?_
  refine itc (fun _ => ?_) (fun _ => ?_)
  · exact eqJ_X11_takesNumber_15 hF
  · refine (bi_fI (hF.kd 181)).trans ?_
    refine itc (fun _ => ?_) (fun _ => ?_)
    · refine (bi_fI (hF.kd 181)).trans ?_
      refine (bi_ck (hF.kd 181)).trans ?_
      refine bdc (eqS_X11_advance hF) (fun w2 hw => ?_)
      have hF := hF.kg (keep_X11_advance hw)
      rfl
    · exact eqJ_X11_takesNumber_15 hF
theorem keep_X11_takesNumber {M : Mem} {z : Int32 × Mem} {v0 : Option Nat} (h : L_X11_takesNumber v0 M = some z) : KG M z.2 := by
  unfold L_X11_takesNumber at h
  have hg : KG M M := KG.rf
  obtain ⟨_, -, h⟩ := bnd h
  rcases itor h with h | h
  · exact hg.trans (keepJ_X11_takesNumber_15 h)
  · obtain ⟨_, -, h⟩ := bnd h
    rcases itor h with h | h
    · obtain ⟨_, -, h⟩ := bnd h
      obtain ⟨_, -, h⟩ := bnd h
      obtain ⟨w2, hw, h⟩ := bnd h
      have hg := hg.trans (keep_X11_advance hw)
      cases h; exact hg
    · exact hg.trans (keepJ_X11_takesNumber_15 h)
def SJ_X11_plainPart_105 (v1 : Int32) (M : Mem) : Option (Unit × Mem) :=
  if v1 = 0 then
  (some ((), M))
  else
  ((S_X11_emit (8 : Int32) (0 : Int64) (-1 : Int32) M).bind fun w1 =>
  some ((), w1.2))
theorem eqJ_X11_plainPart_105 {M : Mem} (hF : FSR M) {v1 : Int32} : J_X11_plainPart_105 (some 181) v1 M = SJ_X11_plainPart_105 v1 M := by
  unfold J_X11_plainPart_105 SJ_X11_plainPart_105
  refine itc (fun _ => ?_) (fun _ => ?_)
  · rfl
  · refine (bi_ck (hF.kd 181)).trans ?_
    refine bdc (eqS_X11_emit hF) (fun w1 hw => ?_)
    have hF := hF.kg (keep_X11_emit hw)
    rfl
theorem keepJ_X11_plainPart_105 {M : Mem} {z : Unit × Mem} {v0 : Option Nat} {v1 : Int32} (h : J_X11_plainPart_105 v0 v1 M = some z) : KG M z.2 := by
  unfold J_X11_plainPart_105 at h
  have hg : KG M M := KG.rf
  rcases itor h with h | h
  · cases h; exact hg
  · obtain ⟨_, -, h⟩ := bnd h
    obtain ⟨w1, hw, h⟩ := bnd h
    have hg := hg.trans (keep_X11_emit hw)
    cases h; exact hg
def SJ_X11_plainPart_98 (v1 : Int32) (M : Mem) : Option (Unit × Mem) :=
  SJ_X11_plainPart_105 v1 M
theorem eqJ_X11_plainPart_98 {M : Mem} (hF : FSR M) {v1 : Int32} : J_X11_plainPart_98 (some 181) v1 M = SJ_X11_plainPart_98 v1 M := by
  unfold J_X11_plainPart_98 SJ_X11_plainPart_98
  exact eqJ_X11_plainPart_105 hF
theorem keepJ_X11_plainPart_98 {M : Mem} {z : Unit × Mem} {v0 : Option Nat} {v1 : Int32} (h : J_X11_plainPart_98 v0 v1 M = some z) : KG M z.2 := by
  unfold J_X11_plainPart_98 at h
  have hg : KG M M := KG.rf
  exact hg.trans (keepJ_X11_plainPart_105 h)
def S_X11_plainPart  (M : Mem) : Option (Unit × Mem) :=
  (S_X11_takes (45 : Int32) M).bind fun w2 =>
  if (gi w2.2 181 11) = 0 then
  (if ¬ (gi w2.2 181 6) = 0 then
  (if ¬ (gi w2.2 181 6) = (1 : Int32) then
  ((S_X11_stops w2.2).bind fun w3 =>
  SJ_X11_plainPart_105 w2.1 w3.2)
  else
  ((S_X11_advance w2.2).bind fun w4 =>
  (S_X11_takes (46 : Int32) w4.2).bind fun w5 =>
  if w5.1 = 0 then
  ((S_X11_emit (0 : Int32) ((gi w2.2 181 9).toInt64) (-1 : Int32) w5.2).bind fun w6 =>
  SJ_X11_plainPart_98 w2.1 w6.2)
  else
  ((S_X11_takesName w5.2).bind fun w7 =>
  (S_X11_yearOf (gi w2.2 181 9) (gi w2.2 181 7) w7.2).bind fun w8 =>
  (S_X11_emit (6 : Int32) w7.1 w8.1 w8.2).bind fun w9 =>
  SJ_X11_plainPart_98 w2.1 w9.2)))
  else
  ((S_X11_emit (6 : Int32) (gl w2.2 181 8) (-1 : Int32) w2.2).bind fun w10 =>
  (S_X11_advance w10.2).bind fun w11 =>
  SJ_X11_plainPart_105 w2.1 w11.2))
  else
  (some ((), w2.2))
theorem eqS_X11_plainPart {M : Mem} (hF : FSR M) : L_X11_plainPart (some 181) M = S_X11_plainPart  M := by
  unfold L_X11_plainPart S_X11_plainPart
  refine (bi_ck (hF.kd 181)).trans ?_
  refine bdc (eqS_X11_takes hF) (fun w2 hw => ?_)
  have hF := hF.kg (keep_X11_takes hw)
  refine (bi_fI (hF.kd 181)).trans ?_
  refine itc (fun _ => ?_) (fun _ => ?_)
  · refine (bi_fI (hF.kd 181)).trans ?_
    refine itc (fun _ => ?_) (fun _ => ?_)
    · refine (bi_fI (hF.kd 181)).trans ?_
      refine itc (fun _ => ?_) (fun _ => ?_)
      · refine (bi_ck (hF.kd 181)).trans ?_
        refine bdc (eqS_X11_stops hF) (fun w3 hw => ?_)
        have hF := hF.kg (keep_X11_stops hw)
        exact eqJ_X11_plainPart_105 hF
      · refine (bi_fI (hF.kd 181)).trans ?_
        refine (bi_fI (hF.kd 181)).trans ?_
        refine (bi_ck (hF.kd 181)).trans ?_
        refine bdc (eqS_X11_advance hF) (fun w4 hw => ?_)
        have hF := hF.kg (keep_X11_advance hw)
        refine (bi_ck (hF.kd 181)).trans ?_
        refine bdc (eqS_X11_takes hF) (fun w5 hw => ?_)
        have hF := hF.kg (keep_X11_takes hw)
        refine itc (fun _ => ?_) (fun _ => ?_)
        · refine (bi_ck (hF.kd 181)).trans ?_
          refine bdc (eqS_X11_emit hF) (fun w6 hw => ?_)
          have hF := hF.kg (keep_X11_emit hw)
          exact eqJ_X11_plainPart_98 hF
        · refine (bi_ck (hF.kd 181)).trans ?_
          refine bdc (eqS_X11_takesName hF) (fun w7 hw => ?_)
          have hF := hF.kg (keep_X11_takesName hw)
          refine (bi_ck (hF.kd 181)).trans ?_
          refine bdc (eqS_X11_yearOf hF) (fun w8 hw => ?_)
          have hF := hF.kg (keep_X11_yearOf hw)
          refine (bi_ck (hF.kd 181)).trans ?_
          refine bdc (eqS_X11_emit hF) (fun w9 hw => ?_)
          have hF := hF.kg (keep_X11_emit hw)
          exact eqJ_X11_plainPart_98 hF
    · refine (bi_fL (hF.kd 181)).trans ?_
      refine (bi_ck (hF.kd 181)).trans ?_
      refine bdc (eqS_X11_emit hF) (fun w10 hw => ?_)
      have hF := hF.kg (keep_X11_emit hw)
      refine (bi_ck (hF.kd 181)).trans ?_
      refine bdc (eqS_X11_advance hF) (fun w11 hw => ?_)
      have hF := hF.kg (keep_X11_advance hw)
      exact eqJ_X11_plainPart_105 hF
  · rfl
theorem keep_X11_plainPart {M : Mem} {z : Unit × Mem} {v0 : Option Nat} (h : L_X11_plainPart v0 M = some z) : KG M z.2 := by
  unfold L_X11_plainPart at h
  have hg : KG M M := KG.rf
  obtain ⟨_, -, h⟩ := bnd h
  obtain ⟨w2, hw, h⟩ := bnd h
  have hg := hg.trans (keep_X11_takes hw)
  obtain ⟨_, -, h⟩ := bnd h
  rcases itor h with h | h
  · obtain ⟨_, -, h⟩ := bnd h
    rcases itor h with h | h
    · obtain ⟨_, -, h⟩ := bnd h
      rcases itor h with h | h
      · obtain ⟨_, -, h⟩ := bnd h
        obtain ⟨w3, hw, h⟩ := bnd h
        have hg := hg.trans (keep_X11_stops hw)
        exact hg.trans (keepJ_X11_plainPart_105 h)
      · obtain ⟨_, -, h⟩ := bnd h
        obtain ⟨_, -, h⟩ := bnd h
        obtain ⟨_, -, h⟩ := bnd h
        obtain ⟨w4, hw, h⟩ := bnd h
        have hg := hg.trans (keep_X11_advance hw)
        obtain ⟨_, -, h⟩ := bnd h
        obtain ⟨w5, hw, h⟩ := bnd h
        have hg := hg.trans (keep_X11_takes hw)
        rcases itor h with h | h
        · obtain ⟨_, -, h⟩ := bnd h
          obtain ⟨w6, hw, h⟩ := bnd h
          have hg := hg.trans (keep_X11_emit hw)
          exact hg.trans (keepJ_X11_plainPart_98 h)
        · obtain ⟨_, -, h⟩ := bnd h
          obtain ⟨w7, hw, h⟩ := bnd h
          have hg := hg.trans (keep_X11_takesName hw)
          obtain ⟨_, -, h⟩ := bnd h
          obtain ⟨w8, hw, h⟩ := bnd h
          have hg := hg.trans (keep_X11_yearOf hw)
          obtain ⟨_, -, h⟩ := bnd h
          obtain ⟨w9, hw, h⟩ := bnd h
          have hg := hg.trans (keep_X11_emit hw)
          exact hg.trans (keepJ_X11_plainPart_98 h)
    · obtain ⟨_, -, h⟩ := bnd h
      obtain ⟨_, -, h⟩ := bnd h
      obtain ⟨w10, hw, h⟩ := bnd h
      have hg := hg.trans (keep_X11_emit hw)
      obtain ⟨_, -, h⟩ := bnd h
      obtain ⟨w11, hw, h⟩ := bnd h
      have hg := hg.trans (keep_X11_advance hw)
      exact hg.trans (keepJ_X11_plainPart_105 h)
  · cases h; exact hg
def SJ_X11_plainProduct_4 : Nat → Mem → Option (Unit × Mem)
  | 0 => fun  _ => none
  | n + 1 => fun  M =>
  (S_X11_takes (42 : Int32) M).bind fun w1 =>
  if w1.1 = 0 then
  (some ((), w1.2))
  else
  ((S_X11_plainPart w1.2).bind fun w2 =>
  (S_X11_emit (42 : Int32) (0 : Int64) (-1 : Int32) w2.2).bind fun w3 =>
  SJ_X11_plainProduct_4 n  w3.2)
theorem eqJ_X11_plainProduct_4 : ∀ (n : Nat)  (M : Mem), FSR M → J_X11_plainProduct_4 n (some 181) M = SJ_X11_plainProduct_4 n  M := by
  intro n
  induction n with
  | zero => intro  M hF; rfl
  | succ n ih =>
    intro  M hF
    unfold J_X11_plainProduct_4 SJ_X11_plainProduct_4
    refine (bi_ck (hF.kd 181)).trans ?_
    refine bdc (eqS_X11_takes hF) (fun w1 hw => ?_)
    have hF := hF.kg (keep_X11_takes hw)
    refine itc (fun _ => ?_) (fun _ => ?_)
    · rfl
    · refine (bi_ck (hF.kd 181)).trans ?_
      refine bdc (eqS_X11_plainPart hF) (fun w2 hw => ?_)
      have hF := hF.kg (keep_X11_plainPart hw)
      refine (bi_ck (hF.kd 181)).trans ?_
      refine bdc (eqS_X11_emit hF) (fun w3 hw => ?_)
      have hF := hF.kg (keep_X11_emit hw)
      exact ih  _ hF
theorem keepJ_X11_plainProduct_4 {z : Unit × Mem} : ∀ (n : Nat) (v0 : Option Nat) (M : Mem), J_X11_plainProduct_4 n v0 M = some z → KG M z.2 := by
  intro n
  induction n with
  | zero => intro v0 M h; exact nomatch h
  | succ n ih =>
    intro v0 M h
    unfold J_X11_plainProduct_4 at h
    have hg : KG M M := KG.rf
    obtain ⟨_, -, h⟩ := bnd h
    obtain ⟨w1, hw, h⟩ := bnd h
    have hg := hg.trans (keep_X11_takes hw)
    rcases itor h with h | h
    · cases h; exact hg
    · obtain ⟨_, -, h⟩ := bnd h
      obtain ⟨w2, hw, h⟩ := bnd h
      have hg := hg.trans (keep_X11_plainPart hw)
      obtain ⟨_, -, h⟩ := bnd h
      obtain ⟨w3, hw, h⟩ := bnd h
      have hg := hg.trans (keep_X11_emit hw)
      exact hg.trans (ih _ _ h)
def S_X11_plainProduct  (M : Mem) : Option (Unit × Mem) :=
  (S_X11_plainPart M).bind fun w4 =>
  SJ_X11_plainProduct_4 FU  w4.2
theorem eqS_X11_plainProduct {M : Mem} (hF : FSR M) : L_X11_plainProduct (some 181) M = S_X11_plainProduct  M := by
  unfold L_X11_plainProduct S_X11_plainProduct
  refine (bi_ck (hF.kd 181)).trans ?_
  refine bdc (eqS_X11_plainPart hF) (fun w4 hw => ?_)
  have hF := hF.kg (keep_X11_plainPart hw)
  exact eqJ_X11_plainProduct_4 FU  _ hF
theorem keep_X11_plainProduct {M : Mem} {z : Unit × Mem} {v0 : Option Nat} (h : L_X11_plainProduct v0 M = some z) : KG M z.2 := by
  unfold L_X11_plainProduct at h
  have hg : KG M M := KG.rf
  obtain ⟨_, -, h⟩ := bnd h
  obtain ⟨w4, hw, h⟩ := bnd h
  have hg := hg.trans (keep_X11_plainPart hw)
  exact hg.trans (keepJ_X11_plainProduct_4 FU _ _ h)
def SJ_X11_plainSum_29 (k_4 : Mem → Option (Unit × Mem))  (M : Mem) : Option (Unit × Mem) :=
  gd (inb (gi M 181 7) 900) (
  (S_X11_advance M).bind fun w1 =>
  (S_X11_plainProduct w1.2).bind fun w2 =>
  (S_X11_emit (gi M 182 (gi M 181 7).toNatClampNeg) (0 : Int64) (-1 : Int32) w2.2).bind fun w3 =>
  k_4  w3.2)
theorem eqJ_X11_plainSum_29 {M : Mem} {k_4 : Option Nat → Mem → Option (Unit × Mem)} {q_4 : Mem → Option (Unit × Mem)} (hk_4 : ∀  (Ma : Mem), FSR Ma → k_4 (some 181) Ma = q_4  Ma) (hF : FSR M) : J_X11_plainSum_29 k_4 (some 181) M = SJ_X11_plainSum_29 q_4  M := by
  unfold J_X11_plainSum_29 SJ_X11_plainSum_29
  refine (bi_fR (hF.kd 181) (hF.gr 0)).trans ?_
  refine (bi_fI (hF.kd 181)).trans ?_
  refine (bi_aI (hF.kd 182) (hF.ln 182)).trans ?_
  refine gd_congr (fun _ => ?_)
  refine (bi_ck (hF.kd 181)).trans ?_
  refine bdc (eqS_X11_advance hF) (fun w1 hw => ?_)
  have hF := hF.kg (keep_X11_advance hw)
  refine (bi_ck (hF.kd 181)).trans ?_
  refine bdc (eqS_X11_plainProduct hF) (fun w2 hw => ?_)
  have hF := hF.kg (keep_X11_plainProduct hw)
  refine (bi_ck (hF.kd 181)).trans ?_
  refine bdc (eqS_X11_emit hF) (fun w3 hw => ?_)
  have hF := hF.kg (keep_X11_emit hw)
  exact hk_4  _ hF
theorem keepJ_X11_plainSum_29 {M : Mem} {z : Unit × Mem} {k_4 : Option Nat → Mem → Option (Unit × Mem)} (hk_4 : ∀ (v0 : Option Nat) (Ma : Mem), k_4 v0 Ma = some z → KG Ma z.2) {v0 : Option Nat} (h : J_X11_plainSum_29 k_4 v0 M = some z) : KG M z.2 := by
  unfold J_X11_plainSum_29 at h
  have hg : KG M M := KG.rf
  obtain ⟨_, -, h⟩ := bnd h
  obtain ⟨_, -, h⟩ := bnd h
  obtain ⟨_, -, h⟩ := bnd h
  obtain ⟨_, -, h⟩ := bnd h
  obtain ⟨w1, hw, h⟩ := bnd h
  have hg := hg.trans (keep_X11_advance hw)
  obtain ⟨_, -, h⟩ := bnd h
  obtain ⟨w2, hw, h⟩ := bnd h
  have hg := hg.trans (keep_X11_plainProduct hw)
  obtain ⟨_, -, h⟩ := bnd h
  obtain ⟨w3, hw, h⟩ := bnd h
  have hg := hg.trans (keep_X11_emit hw)
  exact hg.trans (hk_4 _ _ h)
def SJ_X11_plainSum_57  (M : Mem) : Option (Unit × Mem) :=
  (S_X11_emit (11 : Int32) (0 : Int64) (-1 : Int32) M).bind fun w4 =>
  some ((), w4.2)
theorem eqJ_X11_plainSum_57 {M : Mem} (hF : FSR M) : J_X11_plainSum_57 (some 181) M = SJ_X11_plainSum_57  M := by
  unfold J_X11_plainSum_57 SJ_X11_plainSum_57
  refine (bi_ck (hF.kd 181)).trans ?_
  refine bdc (eqS_X11_emit hF) (fun w4 hw => ?_)
  have hF := hF.kg (keep_X11_emit hw)
  rfl
theorem keepJ_X11_plainSum_57 {M : Mem} {z : Unit × Mem} {v0 : Option Nat} (h : J_X11_plainSum_57 v0 M = some z) : KG M z.2 := by
  unfold J_X11_plainSum_57 at h
  have hg : KG M M := KG.rf
  obtain ⟨_, -, h⟩ := bnd h
  obtain ⟨w4, hw, h⟩ := bnd h
  have hg := hg.trans (keep_X11_emit hw)
  cases h; exact hg
def SJ_X11_plainSum_4 : Nat → Mem → Option (Unit × Mem)
  | 0 => fun  _ => none
  | n + 1 => fun  M =>
  if ¬ (gi M 181 11) = 0 then
  (SJ_X11_plainSum_57  M)
  else
  ((S_X11_isSign (43 : Int32) M).bind fun w5 =>
  if ¬ w5.1 = 0 then
  (SJ_X11_plainSum_29 (SJ_X11_plainSum_4 n)  w5.2)
  else
  ((S_X11_isSign (45 : Int32) w5.2).bind fun w6 =>
  if w6.1 = 0 then
  (SJ_X11_plainSum_57  w6.2)
  else
  (SJ_X11_plainSum_29 (SJ_X11_plainSum_4 n)  w6.2)))
theorem eqJ_X11_plainSum_4 : ∀ (n : Nat)  (M : Mem), FSR M → J_X11_plainSum_4 n (some 181) M = SJ_X11_plainSum_4 n  M := by
  intro n
  induction n with
  | zero => intro  M hF; rfl
  | succ n ih =>
    intro  M hF
    unfold J_X11_plainSum_4 SJ_X11_plainSum_4
    refine (bi_fI (hF.kd 181)).trans ?_
    refine itc (fun _ => ?_) (fun _ => ?_)
    · exact eqJ_X11_plainSum_57 hF
    · refine (bi_ck (hF.kd 181)).trans ?_
      refine bdc (eqS_X11_isSign hF) (fun w5 hw => ?_)
      have hF := hF.kg (keep_X11_isSign hw)
      refine itc (fun _ => ?_) (fun _ => ?_)
      · exact eqJ_X11_plainSum_29 ih hF
      · refine (bi_ck (hF.kd 181)).trans ?_
        refine bdc (eqS_X11_isSign hF) (fun w6 hw => ?_)
        have hF := hF.kg (keep_X11_isSign hw)
        refine itc (fun _ => ?_) (fun _ => ?_)
        · exact eqJ_X11_plainSum_57 hF
        · exact eqJ_X11_plainSum_29 ih hF
theorem keepJ_X11_plainSum_4 {z : Unit × Mem} : ∀ (n : Nat) (v0 : Option Nat) (M : Mem), J_X11_plainSum_4 n v0 M = some z → KG M z.2 := by
  intro n
  induction n with
  | zero => intro v0 M h; exact nomatch h
  | succ n ih =>
    intro v0 M h
    unfold J_X11_plainSum_4 at h
    have hg : KG M M := KG.rf
    obtain ⟨_, -, h⟩ := bnd h
    rcases itor h with h | h
    · exact hg.trans (keepJ_X11_plainSum_57 h)
    · obtain ⟨_, -, h⟩ := bnd h
      obtain ⟨w5, hw, h⟩ := bnd h
      have hg := hg.trans (keep_X11_isSign hw)
      rcases itor h with h | h
      · exact hg.trans (keepJ_X11_plainSum_29 ih h)
      · obtain ⟨_, -, h⟩ := bnd h
        obtain ⟨w6, hw, h⟩ := bnd h
        have hg := hg.trans (keep_X11_isSign hw)
        rcases itor h with h | h
        · exact hg.trans (keepJ_X11_plainSum_57 h)
        · exact hg.trans (keepJ_X11_plainSum_29 ih h)
def S_X11_plainSum  (M : Mem) : Option (Unit × Mem) :=
  (S_X11_plainProduct M).bind fun w7 =>
  SJ_X11_plainSum_4 FU  w7.2
theorem eqS_X11_plainSum {M : Mem} (hF : FSR M) : L_X11_plainSum (some 181) M = S_X11_plainSum  M := by
  unfold L_X11_plainSum S_X11_plainSum
  refine (bi_ck (hF.kd 181)).trans ?_
  refine bdc (eqS_X11_plainProduct hF) (fun w7 hw => ?_)
  have hF := hF.kg (keep_X11_plainProduct hw)
  exact eqJ_X11_plainSum_4 FU  _ hF
theorem keep_X11_plainSum {M : Mem} {z : Unit × Mem} {v0 : Option Nat} (h : L_X11_plainSum v0 M = some z) : KG M z.2 := by
  unfold L_X11_plainSum at h
  have hg : KG M M := KG.rf
  obtain ⟨_, -, h⟩ := bnd h
  obtain ⟨w7, hw, h⟩ := bnd h
  have hg := hg.trans (keep_X11_plainProduct hw)
  exact hg.trans (keepJ_X11_plainSum_4 FU _ _ h)
def S_X11_called (rS : Mem → Option (Unit × Mem)) (v1 : Int64) (v3 : Int32) (M : Mem) : Option (Unit × Mem) :=
  (S_X11_takes (91 : Int32) M).bind fun w1 =>
  if w1.1 = 0 then
  ((S_X11_emit (6 : Int32) v1 v3 w1.2).bind fun w2 =>
  some ((), w2.2))
  else
  ((rS w1.2).bind fun w3 =>
  (S_X11_must (93 : Int32) w3.2).bind fun w4 =>
  (S_X11_emit (7 : Int32) v1 v3 w4.2).bind fun w5 =>
  some ((), w5.2))
theorem eqS_X11_called {M : Mem} {rF : Option Nat → Mem → Option (Unit × Mem)} {rS : Mem → Option (Unit × Mem)} (hrS : ∀  (Ma : Mem), FSR Ma → rF (some 181)  Ma = rS  Ma) (hrK : ∀ (a0 : Option Nat) (Ma : Mem) (w : Unit × Mem), rF a0 Ma = some w → KG Ma w.2) (hF : FSR M) {v1 : Int64} {v3 : Int32} : L_X11_called rF (some 181) v1 v3 M = S_X11_called rS v1 v3 M := by
  unfold L_X11_called S_X11_called
  refine (bi_ck (hF.kd 181)).trans ?_
  refine bdc (eqS_X11_takes hF) (fun w1 hw => ?_)
  have hF := hF.kg (keep_X11_takes hw)
  refine itc (fun _ => ?_) (fun _ => ?_)
  · refine (bi_ck (hF.kd 181)).trans ?_
    refine bdc (eqS_X11_emit hF) (fun w2 hw => ?_)
    have hF := hF.kg (keep_X11_emit hw)
    rfl
  · refine (bi_ck (hF.kd 181)).trans ?_
    refine bdc (hrS  _ hF) (fun w3 hw => ?_)
    have hF := hF.kg (hrK _ _ _ hw)
    refine (bi_ck (hF.kd 181)).trans ?_
    refine bdc (eqS_X11_must hF) (fun w4 hw => ?_)
    have hF := hF.kg (keep_X11_must hw)
    refine (bi_ck (hF.kd 181)).trans ?_
    refine bdc (eqS_X11_emit hF) (fun w5 hw => ?_)
    have hF := hF.kg (keep_X11_emit hw)
    rfl
theorem keep_X11_called {M : Mem} {z : Unit × Mem} {rF : Option Nat → Mem → Option (Unit × Mem)} (hrK : ∀ (a0 : Option Nat) (Ma : Mem) (w : Unit × Mem), rF a0 Ma = some w → KG Ma w.2) {v0 : Option Nat} {v1 : Int64} {v3 : Int32} (h : L_X11_called rF v0 v1 v3 M = some z) : KG M z.2 := by
  unfold L_X11_called at h
  have hg : KG M M := KG.rf
  obtain ⟨_, -, h⟩ := bnd h
  obtain ⟨w1, hw, h⟩ := bnd h
  have hg := hg.trans (keep_X11_takes hw)
  rcases itor h with h | h
  · obtain ⟨_, -, h⟩ := bnd h
    obtain ⟨w2, hw, h⟩ := bnd h
    have hg := hg.trans (keep_X11_emit hw)
    cases h; exact hg
  · obtain ⟨_, -, h⟩ := bnd h
    obtain ⟨w3, hw, h⟩ := bnd h
    have hg := hg.trans (hrK _ _ _ hw)
    obtain ⟨_, -, h⟩ := bnd h
    obtain ⟨w4, hw, h⟩ := bnd h
    have hg := hg.trans (keep_X11_must hw)
    obtain ⟨_, -, h⟩ := bnd h
    obtain ⟨w5, hw, h⟩ := bnd h
    have hg := hg.trans (keep_X11_emit hw)
    cases h; exact hg
def SJ_X11_atom_143 (rS : Mem → Option (Unit × Mem))  (M : Mem) : Option (Unit × Mem) :=
  (S_X11_emit (((1 : Int32) + (gi M 181 10)) - (8 : Int32)) (0 : Int64) (-1 : Int32) M).bind fun w1 =>
  (S_X11_advance w1.2).bind fun w2 =>
  some ((), w2.2)
theorem eqJ_X11_atom_143 {M : Mem} {rF : Option Nat → Mem → Option (Unit × Mem)} {rS : Mem → Option (Unit × Mem)} (hrS : ∀  (Ma : Mem), FSR Ma → rF (some 181)  Ma = rS  Ma) (hrK : ∀ (a0 : Option Nat) (Ma : Mem) (w : Unit × Mem), rF a0 Ma = some w → KG Ma w.2) (hF : FSR M) : J_X11_atom_143 rF (some 181) M = SJ_X11_atom_143 rS  M := by
  unfold J_X11_atom_143 SJ_X11_atom_143
  refine (bi_fI (hF.kd 181)).trans ?_
  refine (bi_ck (hF.kd 181)).trans ?_
  refine bdc (eqS_X11_emit hF) (fun w1 hw => ?_)
  have hF := hF.kg (keep_X11_emit hw)
  refine (bi_ck (hF.kd 181)).trans ?_
  refine bdc (eqS_X11_advance hF) (fun w2 hw => ?_)
  have hF := hF.kg (keep_X11_advance hw)
  rfl
theorem keepJ_X11_atom_143 {M : Mem} {z : Unit × Mem} {rF : Option Nat → Mem → Option (Unit × Mem)} (hrK : ∀ (a0 : Option Nat) (Ma : Mem) (w : Unit × Mem), rF a0 Ma = some w → KG Ma w.2) {v0 : Option Nat} (h : J_X11_atom_143 rF v0 M = some z) : KG M z.2 := by
  unfold J_X11_atom_143 at h
  have hg : KG M M := KG.rf
  obtain ⟨_, -, h⟩ := bnd h
  obtain ⟨_, -, h⟩ := bnd h
  obtain ⟨w1, hw, h⟩ := bnd h
  have hg := hg.trans (keep_X11_emit hw)
  obtain ⟨_, -, h⟩ := bnd h
  obtain ⟨w2, hw, h⟩ := bnd h
  have hg := hg.trans (keep_X11_advance hw)
  cases h; exact hg
def SJ_X11_atom_136 (rS : Mem → Option (Unit × Mem)) (v1 : Int32) (M : Mem) : Option (Unit × Mem) :=
  (S_X11_tells (6 : Int32) v1 M).bind fun w3 =>
  SJ_X11_atom_143 rS  w3.2
theorem eqJ_X11_atom_136 {M : Mem} {rF : Option Nat → Mem → Option (Unit × Mem)} {rS : Mem → Option (Unit × Mem)} (hrS : ∀  (Ma : Mem), FSR Ma → rF (some 181)  Ma = rS  Ma) (hrK : ∀ (a0 : Option Nat) (Ma : Mem) (w : Unit × Mem), rF a0 Ma = some w → KG Ma w.2) (hF : FSR M) {v1 : Int32} : J_X11_atom_136 rF (some 181) v1 M = SJ_X11_atom_136 rS v1 M := by
  unfold J_X11_atom_136 SJ_X11_atom_136
  refine (bi_ck (hF.kd 181)).trans ?_
  refine bdc (eqS_X11_tells hF) (fun w3 hw => ?_)
  have hF := hF.kg (keep_X11_tells hw)
  exact eqJ_X11_atom_143 hrS hrK hF
theorem keepJ_X11_atom_136 {M : Mem} {z : Unit × Mem} {rF : Option Nat → Mem → Option (Unit × Mem)} (hrK : ∀ (a0 : Option Nat) (Ma : Mem) (w : Unit × Mem), rF a0 Ma = some w → KG Ma w.2) {v0 : Option Nat} {v1 : Int32} (h : J_X11_atom_136 rF v0 v1 M = some z) : KG M z.2 := by
  unfold J_X11_atom_136 at h
  have hg : KG M M := KG.rf
  obtain ⟨_, -, h⟩ := bnd h
  obtain ⟨w3, hw, h⟩ := bnd h
  have hg := hg.trans (keep_X11_tells hw)
  exact hg.trans (keepJ_X11_atom_143 hrK h)
def SJ_X11_atom_165 (rS : Mem → Option (Unit × Mem))  (M : Mem) : Option (Unit × Mem) :=
  (S_X11_takes (40 : Int32) M).bind fun w4 =>
  if w4.1 = 0 then
  ((S_X11_stops w4.2).bind fun w5 =>
  some ((), w5.2))
  else
  ((rS w4.2).bind fun w6 =>
  (S_X11_must (41 : Int32) w6.2).bind fun w7 =>
  some ((), w7.2))
theorem eqJ_X11_atom_165 {M : Mem} {rF : Option Nat → Mem → Option (Unit × Mem)} {rS : Mem → Option (Unit × Mem)} (hrS : ∀  (Ma : Mem), FSR Ma → rF (some 181)  Ma = rS  Ma) (hrK : ∀ (a0 : Option Nat) (Ma : Mem) (w : Unit × Mem), rF a0 Ma = some w → KG Ma w.2) (hF : FSR M) : J_X11_atom_165 rF (some 181) M = SJ_X11_atom_165 rS  M := by
  unfold J_X11_atom_165 SJ_X11_atom_165
  refine (bi_ck (hF.kd 181)).trans ?_
  refine bdc (eqS_X11_takes hF) (fun w4 hw => ?_)
  have hF := hF.kg (keep_X11_takes hw)
  refine itc (fun _ => ?_) (fun _ => ?_)
  · refine (bi_ck (hF.kd 181)).trans ?_
    refine bdc (eqS_X11_stops hF) (fun w5 hw => ?_)
    have hF := hF.kg (keep_X11_stops hw)
    rfl
  · refine (bi_ck (hF.kd 181)).trans ?_
    refine bdc (hrS  _ hF) (fun w6 hw => ?_)
    have hF := hF.kg (hrK _ _ _ hw)
    refine (bi_ck (hF.kd 181)).trans ?_
    refine bdc (eqS_X11_must hF) (fun w7 hw => ?_)
    have hF := hF.kg (keep_X11_must hw)
    rfl
theorem keepJ_X11_atom_165 {M : Mem} {z : Unit × Mem} {rF : Option Nat → Mem → Option (Unit × Mem)} (hrK : ∀ (a0 : Option Nat) (Ma : Mem) (w : Unit × Mem), rF a0 Ma = some w → KG Ma w.2) {v0 : Option Nat} (h : J_X11_atom_165 rF v0 M = some z) : KG M z.2 := by
  unfold J_X11_atom_165 at h
  have hg : KG M M := KG.rf
  obtain ⟨_, -, h⟩ := bnd h
  obtain ⟨w4, hw, h⟩ := bnd h
  have hg := hg.trans (keep_X11_takes hw)
  rcases itor h with h | h
  · obtain ⟨_, -, h⟩ := bnd h
    obtain ⟨w5, hw, h⟩ := bnd h
    have hg := hg.trans (keep_X11_stops hw)
    cases h; exact hg
  · obtain ⟨_, -, h⟩ := bnd h
    obtain ⟨w6, hw, h⟩ := bnd h
    have hg := hg.trans (hrK _ _ _ hw)
    obtain ⟨_, -, h⟩ := bnd h
    obtain ⟨w7, hw, h⟩ := bnd h
    have hg := hg.trans (keep_X11_must hw)
    cases h; exact hg
def S_X11_atom (rS : Mem → Option (Unit × Mem))  (M : Mem) : Option (Unit × Mem) :=
  if (gi M 181 11) = 0 then
  (if ¬ (gi M 181 6) = 0 then
  (if ¬ (gi M 181 6) = (1 : Int32) then
  (if ¬ (gi M 181 6) = (2 : Int32) then
  (SJ_X11_atom_165 rS  M)
  else
  (if (gi M 181 10) < (8 : Int32) then
  (SJ_X11_atom_165 rS  M)
  else
  (if (12 : Int32) < (gi M 181 10) then
  (SJ_X11_atom_165 rS  M)
  else
  (if ¬ (gi M 181 10) = (8 : Int32) then
  (if ¬ (gi M 181 34) = 0 then
  (SJ_X11_atom_143 rS  M)
  else
  (SJ_X11_atom_136 rS (gi M 181 7) M))
  else
  (if ¬ (gi M 181 33) = 0 then
  (SJ_X11_atom_143 rS  M)
  else
  (SJ_X11_atom_136 rS (gi M 181 7) M))))))
  else
  ((S_X11_takesNumber M).bind fun w8 =>
  (S_X11_takes (46 : Int32) w8.2).bind fun w9 =>
  if w9.1 = 0 then
  ((S_X11_emit (0 : Int32) w8.1.toInt64 (-1 : Int32) w9.2).bind fun w10 =>
  some ((), w10.2))
  else
  ((S_X11_yearOf w8.1 (gi M 181 7) w9.2).bind fun w11 =>
  (S_X11_takesName w11.2).bind fun w12 =>
  (S_X11_called rS w12.1 w11.1 w12.2).bind fun w13 =>
  some ((), w13.2))))
  else
  ((S_X11_takesName M).bind fun w14 =>
  (S_X11_called rS w14.1 (-1 : Int32) w14.2).bind fun w15 =>
  some ((), w15.2)))
  else
  (some ((), M))
theorem eqS_X11_atom {M : Mem} {rF : Option Nat → Mem → Option (Unit × Mem)} {rS : Mem → Option (Unit × Mem)} (hrS : ∀  (Ma : Mem), FSR Ma → rF (some 181)  Ma = rS  Ma) (hrK : ∀ (a0 : Option Nat) (Ma : Mem) (w : Unit × Mem), rF a0 Ma = some w → KG Ma w.2) (hF : FSR M) : L_X11_atom rF (some 181) M = S_X11_atom rS  M := by
  unfold L_X11_atom S_X11_atom
  refine (bi_fI (hF.kd 181)).trans ?_
  refine itc (fun _ => ?_) (fun _ => ?_)
  · refine (bi_fI (hF.kd 181)).trans ?_
    refine (bi_fI (hF.kd 181)).trans ?_
    refine itc (fun _ => ?_) (fun _ => ?_)
    · refine (bi_fI (hF.kd 181)).trans ?_
      refine itc (fun _ => ?_) (fun _ => ?_)
      · refine (bi_fI (hF.kd 181)).trans ?_
        refine itc (fun _ => ?_) (fun _ => ?_)
        · exact eqJ_X11_atom_165 hrS hrK hF
        · refine (bi_fI (hF.kd 181)).trans ?_
          refine itc (fun _ => ?_) (fun _ => ?_)
          · exact eqJ_X11_atom_165 hrS hrK hF
          · refine (bi_fI (hF.kd 181)).trans ?_
            refine itc (fun _ => ?_) (fun _ => ?_)
            · exact eqJ_X11_atom_165 hrS hrK hF
            · refine (bi_fI (hF.kd 181)).trans ?_
              refine itc (fun _ => ?_) (fun _ => ?_)
              · refine (bi_fI (hF.kd 181)).trans ?_
                refine itc (fun _ => ?_) (fun _ => ?_)
                · exact eqJ_X11_atom_143 hrS hrK hF
                · exact eqJ_X11_atom_136 hrS hrK hF
              · refine (bi_fI (hF.kd 181)).trans ?_
                refine itc (fun _ => ?_) (fun _ => ?_)
                · exact eqJ_X11_atom_143 hrS hrK hF
                · exact eqJ_X11_atom_136 hrS hrK hF
      · refine (bi_ck (hF.kd 181)).trans ?_
        refine bdc (eqS_X11_takesNumber hF) (fun w8 hw => ?_)
        have hF := hF.kg (keep_X11_takesNumber hw)
        refine (bi_ck (hF.kd 181)).trans ?_
        refine bdc (eqS_X11_takes hF) (fun w9 hw => ?_)
        have hF := hF.kg (keep_X11_takes hw)
        refine itc (fun _ => ?_) (fun _ => ?_)
        · refine (bi_ck (hF.kd 181)).trans ?_
          refine bdc (eqS_X11_emit hF) (fun w10 hw => ?_)
          have hF := hF.kg (keep_X11_emit hw)
          rfl
        · refine (bi_ck (hF.kd 181)).trans ?_
          refine bdc (eqS_X11_yearOf hF) (fun w11 hw => ?_)
          have hF := hF.kg (keep_X11_yearOf hw)
          refine (bi_ck (hF.kd 181)).trans ?_
          refine bdc (eqS_X11_takesName hF) (fun w12 hw => ?_)
          have hF := hF.kg (keep_X11_takesName hw)
          refine (bi_ck (hF.kd 181)).trans ?_
          refine bdc (eqS_X11_called hrS hrK hF) (fun w13 hw => ?_)
          have hF := hF.kg (keep_X11_called hrK hw)
          rfl
    · refine (bi_ck (hF.kd 181)).trans ?_
      refine bdc (eqS_X11_takesName hF) (fun w14 hw => ?_)
      have hF := hF.kg (keep_X11_takesName hw)
      refine (bi_ck (hF.kd 181)).trans ?_
      refine bdc (eqS_X11_called hrS hrK hF) (fun w15 hw => ?_)
      have hF := hF.kg (keep_X11_called hrK hw)
      rfl
  · rfl
theorem keep_X11_atom {M : Mem} {z : Unit × Mem} {rF : Option Nat → Mem → Option (Unit × Mem)} (hrK : ∀ (a0 : Option Nat) (Ma : Mem) (w : Unit × Mem), rF a0 Ma = some w → KG Ma w.2) {v0 : Option Nat} (h : L_X11_atom rF v0 M = some z) : KG M z.2 := by
  unfold L_X11_atom at h
  have hg : KG M M := KG.rf
  obtain ⟨_, -, h⟩ := bnd h
  rcases itor h with h | h
  · obtain ⟨_, -, h⟩ := bnd h
    obtain ⟨_, -, h⟩ := bnd h
    rcases itor h with h | h
    · obtain ⟨_, -, h⟩ := bnd h
      rcases itor h with h | h
      · obtain ⟨_, -, h⟩ := bnd h
        rcases itor h with h | h
        · exact hg.trans (keepJ_X11_atom_165 hrK h)
        · obtain ⟨_, -, h⟩ := bnd h
          rcases itor h with h | h
          · exact hg.trans (keepJ_X11_atom_165 hrK h)
          · obtain ⟨_, -, h⟩ := bnd h
            rcases itor h with h | h
            · exact hg.trans (keepJ_X11_atom_165 hrK h)
            · obtain ⟨_, -, h⟩ := bnd h
              rcases itor h with h | h
              · obtain ⟨_, -, h⟩ := bnd h
                rcases itor h with h | h
                · exact hg.trans (keepJ_X11_atom_143 hrK h)
                · exact hg.trans (keepJ_X11_atom_136 hrK h)
              · obtain ⟨_, -, h⟩ := bnd h
                rcases itor h with h | h
                · exact hg.trans (keepJ_X11_atom_143 hrK h)
                · exact hg.trans (keepJ_X11_atom_136 hrK h)
      · obtain ⟨_, -, h⟩ := bnd h
        obtain ⟨w8, hw, h⟩ := bnd h
        have hg := hg.trans (keep_X11_takesNumber hw)
        obtain ⟨_, -, h⟩ := bnd h
        obtain ⟨w9, hw, h⟩ := bnd h
        have hg := hg.trans (keep_X11_takes hw)
        rcases itor h with h | h
        · obtain ⟨_, -, h⟩ := bnd h
          obtain ⟨w10, hw, h⟩ := bnd h
          have hg := hg.trans (keep_X11_emit hw)
          cases h; exact hg
        · obtain ⟨_, -, h⟩ := bnd h
          obtain ⟨w11, hw, h⟩ := bnd h
          have hg := hg.trans (keep_X11_yearOf hw)
          obtain ⟨_, -, h⟩ := bnd h
          obtain ⟨w12, hw, h⟩ := bnd h
          have hg := hg.trans (keep_X11_takesName hw)
          obtain ⟨_, -, h⟩ := bnd h
          obtain ⟨w13, hw, h⟩ := bnd h
          have hg := hg.trans (keep_X11_called hrK hw)
          cases h; exact hg
    · obtain ⟨_, -, h⟩ := bnd h
      obtain ⟨w14, hw, h⟩ := bnd h
      have hg := hg.trans (keep_X11_takesName hw)
      obtain ⟨_, -, h⟩ := bnd h
      obtain ⟨w15, hw, h⟩ := bnd h
      have hg := hg.trans (keep_X11_called hrK hw)
      cases h; exact hg
  · cases h; exact hg
def S_X11_signed (rS : Mem → Option (Unit × Mem))  (M : Mem) : Option (Unit × Mem) :=
  (S_X11_takes (45 : Int32) M).bind fun w1 =>
  (S_X11_atom rS w1.2).bind fun w2 =>
  if w1.1 = 0 then
  (some ((), w2.2))
  else
  ((S_X11_emit (8 : Int32) (0 : Int64) (-1 : Int32) w2.2).bind fun w3 =>
  some ((), w3.2))
theorem eqS_X11_signed {M : Mem} {rF : Option Nat → Mem → Option (Unit × Mem)} {rS : Mem → Option (Unit × Mem)} (hrS : ∀  (Ma : Mem), FSR Ma → rF (some 181)  Ma = rS  Ma) (hrK : ∀ (a0 : Option Nat) (Ma : Mem) (w : Unit × Mem), rF a0 Ma = some w → KG Ma w.2) (hF : FSR M) : L_X11_signed rF (some 181) M = S_X11_signed rS  M := by
  unfold L_X11_signed S_X11_signed
  refine (bi_ck (hF.kd 181)).trans ?_
  refine bdc (eqS_X11_takes hF) (fun w1 hw => ?_)
  have hF := hF.kg (keep_X11_takes hw)
  refine (bi_ck (hF.kd 181)).trans ?_
  refine bdc (eqS_X11_atom hrS hrK hF) (fun w2 hw => ?_)
  have hF := hF.kg (keep_X11_atom hrK hw)
  refine itc (fun _ => ?_) (fun _ => ?_)
  · rfl
  · refine (bi_ck (hF.kd 181)).trans ?_
    refine bdc (eqS_X11_emit hF) (fun w3 hw => ?_)
    have hF := hF.kg (keep_X11_emit hw)
    rfl
theorem keep_X11_signed {M : Mem} {z : Unit × Mem} {rF : Option Nat → Mem → Option (Unit × Mem)} (hrK : ∀ (a0 : Option Nat) (Ma : Mem) (w : Unit × Mem), rF a0 Ma = some w → KG Ma w.2) {v0 : Option Nat} (h : L_X11_signed rF v0 M = some z) : KG M z.2 := by
  unfold L_X11_signed at h
  have hg : KG M M := KG.rf
  obtain ⟨_, -, h⟩ := bnd h
  obtain ⟨w1, hw, h⟩ := bnd h
  have hg := hg.trans (keep_X11_takes hw)
  obtain ⟨_, -, h⟩ := bnd h
  obtain ⟨w2, hw, h⟩ := bnd h
  have hg := hg.trans (keep_X11_atom hrK hw)
  rcases itor h with h | h
  · cases h; exact hg
  · obtain ⟨_, -, h⟩ := bnd h
    obtain ⟨w3, hw, h⟩ := bnd h
    have hg := hg.trans (keep_X11_emit hw)
    cases h; exact hg
def SJ_X11_product_38 (rS : Mem → Option (Unit × Mem)) (k_4 : Mem → Option (Unit × Mem))  (M : Mem) : Option (Unit × Mem) :=
  gd (inb (gi M 181 7) 900) (
  (S_X11_advance M).bind fun w1 =>
  (S_X11_signed rS w1.2).bind fun w2 =>
  (S_X11_emit (gi M 182 (gi M 181 7).toNatClampNeg) (0 : Int64) (-1 : Int32) w2.2).bind fun w3 =>
  k_4  w3.2)
theorem eqJ_X11_product_38 {M : Mem} {rF : Option Nat → Mem → Option (Unit × Mem)} {rS : Mem → Option (Unit × Mem)} (hrS : ∀  (Ma : Mem), FSR Ma → rF (some 181)  Ma = rS  Ma) (hrK : ∀ (a0 : Option Nat) (Ma : Mem) (w : Unit × Mem), rF a0 Ma = some w → KG Ma w.2) {k_4 : Option Nat → Mem → Option (Unit × Mem)} {q_4 : Mem → Option (Unit × Mem)} (hk_4 : ∀  (Ma : Mem), FSR Ma → k_4 (some 181) Ma = q_4  Ma) (hF : FSR M) : J_X11_product_38 rF k_4 (some 181) M = SJ_X11_product_38 rS q_4  M := by
  unfold J_X11_product_38 SJ_X11_product_38
  refine (bi_fR (hF.kd 181) (hF.gr 0)).trans ?_
  refine (bi_fI (hF.kd 181)).trans ?_
  refine (bi_aI (hF.kd 182) (hF.ln 182)).trans ?_
  refine gd_congr (fun _ => ?_)
  refine (bi_ck (hF.kd 181)).trans ?_
  refine bdc (eqS_X11_advance hF) (fun w1 hw => ?_)
  have hF := hF.kg (keep_X11_advance hw)
  refine (bi_ck (hF.kd 181)).trans ?_
  refine bdc (eqS_X11_signed hrS hrK hF) (fun w2 hw => ?_)
  have hF := hF.kg (keep_X11_signed hrK hw)
  refine (bi_ck (hF.kd 181)).trans ?_
  refine bdc (eqS_X11_emit hF) (fun w3 hw => ?_)
  have hF := hF.kg (keep_X11_emit hw)
  exact hk_4  _ hF
theorem keepJ_X11_product_38 {M : Mem} {z : Unit × Mem} {rF : Option Nat → Mem → Option (Unit × Mem)} (hrK : ∀ (a0 : Option Nat) (Ma : Mem) (w : Unit × Mem), rF a0 Ma = some w → KG Ma w.2) {k_4 : Option Nat → Mem → Option (Unit × Mem)} (hk_4 : ∀ (v0 : Option Nat) (Ma : Mem), k_4 v0 Ma = some z → KG Ma z.2) {v0 : Option Nat} (h : J_X11_product_38 rF k_4 v0 M = some z) : KG M z.2 := by
  unfold J_X11_product_38 at h
  have hg : KG M M := KG.rf
  obtain ⟨_, -, h⟩ := bnd h
  obtain ⟨_, -, h⟩ := bnd h
  obtain ⟨_, -, h⟩ := bnd h
  obtain ⟨_, -, h⟩ := bnd h
  obtain ⟨w1, hw, h⟩ := bnd h
  have hg := hg.trans (keep_X11_advance hw)
  obtain ⟨_, -, h⟩ := bnd h
  obtain ⟨w2, hw, h⟩ := bnd h
  have hg := hg.trans (keep_X11_signed hrK hw)
  obtain ⟨_, -, h⟩ := bnd h
  obtain ⟨w3, hw, h⟩ := bnd h
  have hg := hg.trans (keep_X11_emit hw)
  exact hg.trans (hk_4 _ _ h)
def SJ_X11_product_4 (rS : Mem → Option (Unit × Mem)) : Nat → Mem → Option (Unit × Mem)
  | 0 => fun  _ => none
  | n + 1 => fun  M =>
  if ¬ (gi M 181 11) = 0 then
  (some ((), M))
  else
  ((S_X11_isSign (42 : Int32) M).bind fun w4 =>
  if ¬ w4.1 = 0 then
  (SJ_X11_product_38 rS (SJ_X11_product_4 rS n)  w4.2)
  else
  ((S_X11_isSign (47 : Int32) w4.2).bind fun w5 =>
  if ¬ w5.1 = 0 then
  (SJ_X11_product_38 rS (SJ_X11_product_4 rS n)  w5.2)
  else
  ((S_X11_isSign (37 : Int32) w5.2).bind fun w6 =>
  if w6.1 = 0 then
  (some ((), w6.2))
  else
  (SJ_X11_product_38 rS (SJ_X11_product_4 rS n)  w6.2))))
theorem eqJ_X11_product_4 {rF : Option Nat → Mem → Option (Unit × Mem)} {rS : Mem → Option (Unit × Mem)} (hrS : ∀  (Ma : Mem), FSR Ma → rF (some 181)  Ma = rS  Ma) (hrK : ∀ (a0 : Option Nat) (Ma : Mem) (w : Unit × Mem), rF a0 Ma = some w → KG Ma w.2) : ∀ (n : Nat)  (M : Mem), FSR M → J_X11_product_4 rF n (some 181) M = SJ_X11_product_4 rS n  M := by
  intro n
  induction n with
  | zero => intro  M hF; rfl
  | succ n ih =>
    intro  M hF
    unfold J_X11_product_4 SJ_X11_product_4
    refine (bi_fI (hF.kd 181)).trans ?_
    refine itc (fun _ => ?_) (fun _ => ?_)
    · rfl
    · refine (bi_ck (hF.kd 181)).trans ?_
      refine bdc (eqS_X11_isSign hF) (fun w4 hw => ?_)
      have hF := hF.kg (keep_X11_isSign hw)
      refine itc (fun _ => ?_) (fun _ => ?_)
      · exact eqJ_X11_product_38 hrS hrK ih hF
      · refine (bi_ck (hF.kd 181)).trans ?_
        refine bdc (eqS_X11_isSign hF) (fun w5 hw => ?_)
        have hF := hF.kg (keep_X11_isSign hw)
        refine itc (fun _ => ?_) (fun _ => ?_)
        · exact eqJ_X11_product_38 hrS hrK ih hF
        · refine (bi_ck (hF.kd 181)).trans ?_
          refine bdc (eqS_X11_isSign hF) (fun w6 hw => ?_)
          have hF := hF.kg (keep_X11_isSign hw)
          refine itc (fun _ => ?_) (fun _ => ?_)
          · rfl
          · exact eqJ_X11_product_38 hrS hrK ih hF
theorem keepJ_X11_product_4 {z : Unit × Mem} {rF : Option Nat → Mem → Option (Unit × Mem)} (hrK : ∀ (a0 : Option Nat) (Ma : Mem) (w : Unit × Mem), rF a0 Ma = some w → KG Ma w.2) : ∀ (n : Nat) (v0 : Option Nat) (M : Mem), J_X11_product_4 rF n v0 M = some z → KG M z.2 := by
  intro n
  induction n with
  | zero => intro v0 M h; exact nomatch h
  | succ n ih =>
    intro v0 M h
    unfold J_X11_product_4 at h
    have hg : KG M M := KG.rf
    obtain ⟨_, -, h⟩ := bnd h
    rcases itor h with h | h
    · cases h; exact hg
    · obtain ⟨_, -, h⟩ := bnd h
      obtain ⟨w4, hw, h⟩ := bnd h
      have hg := hg.trans (keep_X11_isSign hw)
      rcases itor h with h | h
      · exact hg.trans (keepJ_X11_product_38 hrK ih h)
      · obtain ⟨_, -, h⟩ := bnd h
        obtain ⟨w5, hw, h⟩ := bnd h
        have hg := hg.trans (keep_X11_isSign hw)
        rcases itor h with h | h
        · exact hg.trans (keepJ_X11_product_38 hrK ih h)
        · obtain ⟨_, -, h⟩ := bnd h
          obtain ⟨w6, hw, h⟩ := bnd h
          have hg := hg.trans (keep_X11_isSign hw)
          rcases itor h with h | h
          · cases h; exact hg
          · exact hg.trans (keepJ_X11_product_38 hrK ih h)
def S_X11_product (rS : Mem → Option (Unit × Mem))  (M : Mem) : Option (Unit × Mem) :=
  (S_X11_signed rS M).bind fun w7 =>
  SJ_X11_product_4 rS FU  w7.2
theorem eqS_X11_product {M : Mem} {rF : Option Nat → Mem → Option (Unit × Mem)} {rS : Mem → Option (Unit × Mem)} (hrS : ∀  (Ma : Mem), FSR Ma → rF (some 181)  Ma = rS  Ma) (hrK : ∀ (a0 : Option Nat) (Ma : Mem) (w : Unit × Mem), rF a0 Ma = some w → KG Ma w.2) (hF : FSR M) : L_X11_product rF (some 181) M = S_X11_product rS  M := by
  unfold L_X11_product S_X11_product
  refine (bi_ck (hF.kd 181)).trans ?_
  refine bdc (eqS_X11_signed hrS hrK hF) (fun w7 hw => ?_)
  have hF := hF.kg (keep_X11_signed hrK hw)
  exact eqJ_X11_product_4 hrS hrK FU  _ hF
theorem keep_X11_product {M : Mem} {z : Unit × Mem} {rF : Option Nat → Mem → Option (Unit × Mem)} (hrK : ∀ (a0 : Option Nat) (Ma : Mem) (w : Unit × Mem), rF a0 Ma = some w → KG Ma w.2) {v0 : Option Nat} (h : L_X11_product rF v0 M = some z) : KG M z.2 := by
  unfold L_X11_product at h
  have hg : KG M M := KG.rf
  obtain ⟨_, -, h⟩ := bnd h
  obtain ⟨w7, hw, h⟩ := bnd h
  have hg := hg.trans (keep_X11_signed hrK hw)
  exact hg.trans (keepJ_X11_product_4 hrK FU _ _ h)
def SJ_X11_sum_29 (rS : Mem → Option (Unit × Mem)) (k_4 : Mem → Option (Unit × Mem))  (M : Mem) : Option (Unit × Mem) :=
  gd (inb (gi M 181 7) 900) (
  (S_X11_advance M).bind fun w1 =>
  (S_X11_product rS w1.2).bind fun w2 =>
  (S_X11_emit (gi M 182 (gi M 181 7).toNatClampNeg) (0 : Int64) (-1 : Int32) w2.2).bind fun w3 =>
  k_4  w3.2)
theorem eqJ_X11_sum_29 {M : Mem} {rF : Option Nat → Mem → Option (Unit × Mem)} {rS : Mem → Option (Unit × Mem)} (hrS : ∀  (Ma : Mem), FSR Ma → rF (some 181)  Ma = rS  Ma) (hrK : ∀ (a0 : Option Nat) (Ma : Mem) (w : Unit × Mem), rF a0 Ma = some w → KG Ma w.2) {k_4 : Option Nat → Mem → Option (Unit × Mem)} {q_4 : Mem → Option (Unit × Mem)} (hk_4 : ∀  (Ma : Mem), FSR Ma → k_4 (some 181) Ma = q_4  Ma) (hF : FSR M) : J_X11_sum_29 rF k_4 (some 181) M = SJ_X11_sum_29 rS q_4  M := by
  unfold J_X11_sum_29 SJ_X11_sum_29
  refine (bi_fR (hF.kd 181) (hF.gr 0)).trans ?_
  refine (bi_fI (hF.kd 181)).trans ?_
  refine (bi_aI (hF.kd 182) (hF.ln 182)).trans ?_
  refine gd_congr (fun _ => ?_)
  refine (bi_ck (hF.kd 181)).trans ?_
  refine bdc (eqS_X11_advance hF) (fun w1 hw => ?_)
  have hF := hF.kg (keep_X11_advance hw)
  refine (bi_ck (hF.kd 181)).trans ?_
  refine bdc (eqS_X11_product hrS hrK hF) (fun w2 hw => ?_)
  have hF := hF.kg (keep_X11_product hrK hw)
  refine (bi_ck (hF.kd 181)).trans ?_
  refine bdc (eqS_X11_emit hF) (fun w3 hw => ?_)
  have hF := hF.kg (keep_X11_emit hw)
  exact hk_4  _ hF
theorem keepJ_X11_sum_29 {M : Mem} {z : Unit × Mem} {rF : Option Nat → Mem → Option (Unit × Mem)} (hrK : ∀ (a0 : Option Nat) (Ma : Mem) (w : Unit × Mem), rF a0 Ma = some w → KG Ma w.2) {k_4 : Option Nat → Mem → Option (Unit × Mem)} (hk_4 : ∀ (v0 : Option Nat) (Ma : Mem), k_4 v0 Ma = some z → KG Ma z.2) {v0 : Option Nat} (h : J_X11_sum_29 rF k_4 v0 M = some z) : KG M z.2 := by
  unfold J_X11_sum_29 at h
  have hg : KG M M := KG.rf
  obtain ⟨_, -, h⟩ := bnd h
  obtain ⟨_, -, h⟩ := bnd h
  obtain ⟨_, -, h⟩ := bnd h
  obtain ⟨_, -, h⟩ := bnd h
  obtain ⟨w1, hw, h⟩ := bnd h
  have hg := hg.trans (keep_X11_advance hw)
  obtain ⟨_, -, h⟩ := bnd h
  obtain ⟨w2, hw, h⟩ := bnd h
  have hg := hg.trans (keep_X11_product hrK hw)
  obtain ⟨_, -, h⟩ := bnd h
  obtain ⟨w3, hw, h⟩ := bnd h
  have hg := hg.trans (keep_X11_emit hw)
  exact hg.trans (hk_4 _ _ h)
def SJ_X11_sum_4 (rS : Mem → Option (Unit × Mem)) : Nat → Mem → Option (Unit × Mem)
  | 0 => fun  _ => none
  | n + 1 => fun  M =>
  if ¬ (gi M 181 11) = 0 then
  (some ((), M))
  else
  ((S_X11_isSign (43 : Int32) M).bind fun w4 =>
  if ¬ w4.1 = 0 then
  (SJ_X11_sum_29 rS (SJ_X11_sum_4 rS n)  w4.2)
  else
  ((S_X11_isSign (45 : Int32) w4.2).bind fun w5 =>
  if w5.1 = 0 then
  (some ((), w5.2))
  else
  (SJ_X11_sum_29 rS (SJ_X11_sum_4 rS n)  w5.2)))
theorem eqJ_X11_sum_4 {rF : Option Nat → Mem → Option (Unit × Mem)} {rS : Mem → Option (Unit × Mem)} (hrS : ∀  (Ma : Mem), FSR Ma → rF (some 181)  Ma = rS  Ma) (hrK : ∀ (a0 : Option Nat) (Ma : Mem) (w : Unit × Mem), rF a0 Ma = some w → KG Ma w.2) : ∀ (n : Nat)  (M : Mem), FSR M → J_X11_sum_4 rF n (some 181) M = SJ_X11_sum_4 rS n  M := by
  intro n
  induction n with
  | zero => intro  M hF; rfl
  | succ n ih =>
    intro  M hF
    unfold J_X11_sum_4 SJ_X11_sum_4
    refine (bi_fI (hF.kd 181)).trans ?_
    refine itc (fun _ => ?_) (fun _ => ?_)
    · rfl
    · refine (bi_ck (hF.kd 181)).trans ?_
      refine bdc (eqS_X11_isSign hF) (fun w4 hw => ?_)
      have hF := hF.kg (keep_X11_isSign hw)
      refine itc (fun _ => ?_) (fun _ => ?_)
      · exact eqJ_X11_sum_29 hrS hrK ih hF
      · refine (bi_ck (hF.kd 181)).trans ?_
        refine bdc (eqS_X11_isSign hF) (fun w5 hw => ?_)
        have hF := hF.kg (keep_X11_isSign hw)
        refine itc (fun _ => ?_) (fun _ => ?_)
        · rfl
        · exact eqJ_X11_sum_29 hrS hrK ih hF
theorem keepJ_X11_sum_4 {z : Unit × Mem} {rF : Option Nat → Mem → Option (Unit × Mem)} (hrK : ∀ (a0 : Option Nat) (Ma : Mem) (w : Unit × Mem), rF a0 Ma = some w → KG Ma w.2) : ∀ (n : Nat) (v0 : Option Nat) (M : Mem), J_X11_sum_4 rF n v0 M = some z → KG M z.2 := by
  intro n
  induction n with
  | zero => intro v0 M h; exact nomatch h
  | succ n ih =>
    intro v0 M h
    unfold J_X11_sum_4 at h
    have hg : KG M M := KG.rf
    obtain ⟨_, -, h⟩ := bnd h
    rcases itor h with h | h
    · cases h; exact hg
    · obtain ⟨_, -, h⟩ := bnd h
      obtain ⟨w4, hw, h⟩ := bnd h
      have hg := hg.trans (keep_X11_isSign hw)
      rcases itor h with h | h
      · exact hg.trans (keepJ_X11_sum_29 hrK ih h)
      · obtain ⟨_, -, h⟩ := bnd h
        obtain ⟨w5, hw, h⟩ := bnd h
        have hg := hg.trans (keep_X11_isSign hw)
        rcases itor h with h | h
        · cases h; exact hg
        · exact hg.trans (keepJ_X11_sum_29 hrK ih h)
def S_X11_sum (rS : Mem → Option (Unit × Mem))  (M : Mem) : Option (Unit × Mem) :=
  (S_X11_product rS M).bind fun w6 =>
  SJ_X11_sum_4 rS FU  w6.2
theorem eqS_X11_sum {M : Mem} {rF : Option Nat → Mem → Option (Unit × Mem)} {rS : Mem → Option (Unit × Mem)} (hrS : ∀  (Ma : Mem), FSR Ma → rF (some 181)  Ma = rS  Ma) (hrK : ∀ (a0 : Option Nat) (Ma : Mem) (w : Unit × Mem), rF a0 Ma = some w → KG Ma w.2) (hF : FSR M) : L_X11_sum rF (some 181) M = S_X11_sum rS  M := by
  unfold L_X11_sum S_X11_sum
  refine (bi_ck (hF.kd 181)).trans ?_
  refine bdc (eqS_X11_product hrS hrK hF) (fun w6 hw => ?_)
  have hF := hF.kg (keep_X11_product hrK hw)
  exact eqJ_X11_sum_4 hrS hrK FU  _ hF
theorem keep_X11_sum {M : Mem} {z : Unit × Mem} {rF : Option Nat → Mem → Option (Unit × Mem)} (hrK : ∀ (a0 : Option Nat) (Ma : Mem) (w : Unit × Mem), rF a0 Ma = some w → KG Ma w.2) {v0 : Option Nat} (h : L_X11_sum rF v0 M = some z) : KG M z.2 := by
  unfold L_X11_sum at h
  have hg : KG M M := KG.rf
  obtain ⟨_, -, h⟩ := bnd h
  obtain ⟨w6, hw, h⟩ := bnd h
  have hg := hg.trans (keep_X11_product hrK hw)
  exact hg.trans (keepJ_X11_sum_4 hrK FU _ _ h)
def SJ_X11_compared_39 (rS : Mem → Option (Unit × Mem))  (M : Mem) : Option (Unit × Mem) :=
  gd (inb (gi M 181 7) 900) (
  (S_X11_advance M).bind fun w1 =>
  (S_X11_sum rS w1.2).bind fun w2 =>
  (S_X11_emit (gi M 182 (gi M 181 7).toNatClampNeg) (0 : Int64) (-1 : Int32) w2.2).bind fun w3 =>
  some ((), w3.2))
theorem eqJ_X11_compared_39 {M : Mem} {rF : Option Nat → Mem → Option (Unit × Mem)} {rS : Mem → Option (Unit × Mem)} (hrS : ∀  (Ma : Mem), FSR Ma → rF (some 181)  Ma = rS  Ma) (hrK : ∀ (a0 : Option Nat) (Ma : Mem) (w : Unit × Mem), rF a0 Ma = some w → KG Ma w.2) (hF : FSR M) : J_X11_compared_39 rF (some 181) M = SJ_X11_compared_39 rS  M := by
  unfold J_X11_compared_39 SJ_X11_compared_39
  refine (bi_fR (hF.kd 181) (hF.gr 0)).trans ?_
  refine (bi_fI (hF.kd 181)).trans ?_
  refine (bi_aI (hF.kd 182) (hF.ln 182)).trans ?_
  refine gd_congr (fun _ => ?_)
  refine (bi_ck (hF.kd 181)).trans ?_
  refine bdc (eqS_X11_advance hF) (fun w1 hw => ?_)
  have hF := hF.kg (keep_X11_advance hw)
  refine (bi_ck (hF.kd 181)).trans ?_
  refine bdc (eqS_X11_sum hrS hrK hF) (fun w2 hw => ?_)
  have hF := hF.kg (keep_X11_sum hrK hw)
  refine (bi_ck (hF.kd 181)).trans ?_
  refine bdc (eqS_X11_emit hF) (fun w3 hw => ?_)
  have hF := hF.kg (keep_X11_emit hw)
  rfl
theorem keepJ_X11_compared_39 {M : Mem} {z : Unit × Mem} {rF : Option Nat → Mem → Option (Unit × Mem)} (hrK : ∀ (a0 : Option Nat) (Ma : Mem) (w : Unit × Mem), rF a0 Ma = some w → KG Ma w.2) {v0 : Option Nat} (h : J_X11_compared_39 rF v0 M = some z) : KG M z.2 := by
  unfold J_X11_compared_39 at h
  have hg : KG M M := KG.rf
  obtain ⟨_, -, h⟩ := bnd h
  obtain ⟨_, -, h⟩ := bnd h
  obtain ⟨_, -, h⟩ := bnd h
  obtain ⟨_, -, h⟩ := bnd h
  obtain ⟨w1, hw, h⟩ := bnd h
  have hg := hg.trans (keep_X11_advance hw)
  obtain ⟨_, -, h⟩ := bnd h
  obtain ⟨w2, hw, h⟩ := bnd h
  have hg := hg.trans (keep_X11_sum hrK hw)
  obtain ⟨_, -, h⟩ := bnd h
  obtain ⟨w3, hw, h⟩ := bnd h
  have hg := hg.trans (keep_X11_emit hw)
  cases h; exact hg
def S_X11_compared (rS : Mem → Option (Unit × Mem))  (M : Mem) : Option (Unit × Mem) :=
  (S_X11_sum rS M).bind fun w4 =>
  if ¬ (gi w4.2 181 11) = 0 then
  (some ((), w4.2))
  else
  ((S_X11_isSign (61 : Int32) w4.2).bind fun w5 =>
  if ¬ w5.1 = 0 then
  (SJ_X11_compared_39 rS  w5.2)
  else
  ((S_X11_isSign (60 : Int32) w5.2).bind fun w6 =>
  if ¬ w6.1 = 0 then
  (SJ_X11_compared_39 rS  w6.2)
  else
  ((S_X11_isSign (62 : Int32) w6.2).bind fun w7 =>
  if ¬ w7.1 = 0 then
  (SJ_X11_compared_39 rS  w7.2)
  else
  (some ((), w7.2)))))
theorem eqS_X11_compared {M : Mem} {rF : Option Nat → Mem → Option (Unit × Mem)} {rS : Mem → Option (Unit × Mem)} (hrS : ∀  (Ma : Mem), FSR Ma → rF (some 181)  Ma = rS  Ma) (hrK : ∀ (a0 : Option Nat) (Ma : Mem) (w : Unit × Mem), rF a0 Ma = some w → KG Ma w.2) (hF : FSR M) : L_X11_compared rF (some 181) M = S_X11_compared rS  M := by
  unfold L_X11_compared S_X11_compared
  refine (bi_ck (hF.kd 181)).trans ?_
  refine bdc (eqS_X11_sum hrS hrK hF) (fun w4 hw => ?_)
  have hF := hF.kg (keep_X11_sum hrK hw)
  refine (bi_fI (hF.kd 181)).trans ?_
  refine itc (fun _ => ?_) (fun _ => ?_)
  · rfl
  · refine (bi_ck (hF.kd 181)).trans ?_
    refine bdc (eqS_X11_isSign hF) (fun w5 hw => ?_)
    have hF := hF.kg (keep_X11_isSign hw)
    refine itc (fun _ => ?_) (fun _ => ?_)
    · exact eqJ_X11_compared_39 hrS hrK hF
    · refine (bi_ck (hF.kd 181)).trans ?_
      refine bdc (eqS_X11_isSign hF) (fun w6 hw => ?_)
      have hF := hF.kg (keep_X11_isSign hw)
      refine itc (fun _ => ?_) (fun _ => ?_)
      · exact eqJ_X11_compared_39 hrS hrK hF
      · refine (bi_ck (hF.kd 181)).trans ?_
        refine bdc (eqS_X11_isSign hF) (fun w7 hw => ?_)
        have hF := hF.kg (keep_X11_isSign hw)
        refine itc (fun _ => ?_) (fun _ => ?_)
        · exact eqJ_X11_compared_39 hrS hrK hF
        · rfl
theorem keep_X11_compared {M : Mem} {z : Unit × Mem} {rF : Option Nat → Mem → Option (Unit × Mem)} (hrK : ∀ (a0 : Option Nat) (Ma : Mem) (w : Unit × Mem), rF a0 Ma = some w → KG Ma w.2) {v0 : Option Nat} (h : L_X11_compared rF v0 M = some z) : KG M z.2 := by
  unfold L_X11_compared at h
  have hg : KG M M := KG.rf
  obtain ⟨_, -, h⟩ := bnd h
  obtain ⟨w4, hw, h⟩ := bnd h
  have hg := hg.trans (keep_X11_sum hrK hw)
  obtain ⟨_, -, h⟩ := bnd h
  rcases itor h with h | h
  · cases h; exact hg
  · obtain ⟨_, -, h⟩ := bnd h
    obtain ⟨w5, hw, h⟩ := bnd h
    have hg := hg.trans (keep_X11_isSign hw)
    rcases itor h with h | h
    · exact hg.trans (keepJ_X11_compared_39 hrK h)
    · obtain ⟨_, -, h⟩ := bnd h
      obtain ⟨w6, hw, h⟩ := bnd h
      have hg := hg.trans (keep_X11_isSign hw)
      rcases itor h with h | h
      · exact hg.trans (keepJ_X11_compared_39 hrK h)
      · obtain ⟨_, -, h⟩ := bnd h
        obtain ⟨w7, hw, h⟩ := bnd h
        have hg := hg.trans (keep_X11_isSign hw)
        rcases itor h with h | h
        · exact hg.trans (keepJ_X11_compared_39 hrK h)
        · cases h; exact hg
def SJ_X11_formula_107 (rS : Mem → Option (Unit × Mem))  (M : Mem) : Option (Unit × Mem) :=
  some ((), si M 181 31 ((gi M 181 31) - (1 : Int32)))
theorem eqJ_X11_formula_107 {M : Mem} {rF : Option Nat → Mem → Option (Unit × Mem)} {rS : Mem → Option (Unit × Mem)} (hrS : ∀  (Ma : Mem), FSR Ma → rF (some 181)  Ma = rS  Ma) (hrK : ∀ (a0 : Option Nat) (Ma : Mem) (w : Unit × Mem), rF a0 Ma = some w → KG Ma w.2) (hF : FSR M) : J_X11_formula_107 rF (some 181) M = SJ_X11_formula_107 rS  M := by
  unfold J_X11_formula_107 SJ_X11_formula_107
  refine (bi_fI (hF.kd 181)).trans ?_
  refine (bi_pI (hF.kd 181)).trans ?_
  have hF : FSR (si M 181 31 ((gi M 181 31) - (1 : Int32))) := hF.kg ⟨rfl, rfl, rfl⟩
  rfl
theorem keepJ_X11_formula_107 {M : Mem} {z : Unit × Mem} {rF : Option Nat → Mem → Option (Unit × Mem)} (hrK : ∀ (a0 : Option Nat) (Ma : Mem) (w : Unit × Mem), rF a0 Ma = some w → KG Ma w.2) {v0 : Option Nat} (h : J_X11_formula_107 rF v0 M = some z) : KG M z.2 := by
  unfold J_X11_formula_107 at h
  have hg : KG M M := KG.rf
  obtain ⟨_, -, h⟩ := bnd h
  obtain ⟨_, hw, h⟩ := bnd h
  have hg := hg.trans (kg_pI hw)
  cases h; exact hg
def SB_X11_formula (rS : Mem → Option (Unit × Mem))  (M : Mem) : Option (Unit × Mem) :=
  if (gi M 181 11) = 0 then
  (if ¬ (gi M 181 31) = (12 : Int32) then
  ((S_X11_compared rS (si M 181 31 ((gi M 181 31) + (1 : Int32)))).bind fun w1 =>
  (S_X11_takes (63 : Int32) w1.2).bind fun w2 =>
  if w2.1 = 0 then
  (SJ_X11_formula_107 rS  w2.2)
  else
  ((S_X11_emit (9 : Int32) (0 : Int64) (-1 : Int32) w2.2).bind fun w3 =>
  (rS w3.2).bind fun w4 =>
  (S_X11_must (58 : Int32) w4.2).bind fun w5 =>
  (S_X11_emit (10 : Int32) (0 : Int64) (-1 : Int32) w5.2).bind fun w6 =>
  gd (inb (gi w2.2 181 27) 2000) (
  (rS (sl w6.2 192 (gi w2.2 181 27).toNatClampNeg ((gi w6.2 181 27).toInt64))).bind fun w7 =>
  gd (inb (gi w5.2 181 27) 2000) (
  SJ_X11_formula_107 rS  (sl w7.2 192 (gi w5.2 181 27).toNatClampNeg ((gi w7.2 181 27).toInt64))))))
  else
  ((S_X11_stops M).bind fun w8 =>
  some ((), w8.2)))
  else
  (some ((), M))
theorem eqB_X11_formula {M : Mem} {rF : Option Nat → Mem → Option (Unit × Mem)} {rS : Mem → Option (Unit × Mem)} (hrS : ∀  (Ma : Mem), FSR Ma → rF (some 181)  Ma = rS  Ma) (hrK : ∀ (a0 : Option Nat) (Ma : Mem) (w : Unit × Mem), rF a0 Ma = some w → KG Ma w.2) (hF : FSR M) : B_X11_formula rF (some 181) M = SB_X11_formula rS  M := by
  unfold B_X11_formula SB_X11_formula
  refine (bi_fI (hF.kd 181)).trans ?_
  refine itc (fun _ => ?_) (fun _ => ?_)
  · refine (bi_fI (hF.kd 181)).trans ?_
    refine itc (fun _ => ?_) (fun _ => ?_)
    · refine (bi_fI (hF.kd 181)).trans ?_
      refine (bi_pI (hF.kd 181)).trans ?_
      have hF : FSR (si M 181 31 ((gi M 181 31) + (1 : Int32))) := hF.kg ⟨rfl, rfl, rfl⟩
      refine (bi_ck (hF.kd 181)).trans ?_
      refine bdc (eqS_X11_compared hrS hrK hF) (fun w1 hw => ?_)
      have hF := hF.kg (keep_X11_compared hrK hw)
      refine (bi_ck (hF.kd 181)).trans ?_
      refine bdc (eqS_X11_takes hF) (fun w2 hw => ?_)
      have hF := hF.kg (keep_X11_takes hw)
      refine itc (fun _ => ?_) (fun _ => ?_)
      · exact eqJ_X11_formula_107 hrS hrK hF
      · refine (bi_fI (hF.kd 181)).trans ?_
        refine (bi_ck (hF.kd 181)).trans ?_
        refine bdc (eqS_X11_emit hF) (fun w3 hw => ?_)
        have hF := hF.kg (keep_X11_emit hw)
        refine (bi_ck (hF.kd 181)).trans ?_
        refine bdc (hrS  _ hF) (fun w4 hw => ?_)
        have hF := hF.kg (hrK _ _ _ hw)
        refine (bi_ck (hF.kd 181)).trans ?_
        refine bdc (eqS_X11_must hF) (fun w5 hw => ?_)
        have hF := hF.kg (keep_X11_must hw)
        refine (bi_fI (hF.kd 181)).trans ?_
        refine (bi_ck (hF.kd 181)).trans ?_
        refine bdc (eqS_X11_emit hF) (fun w6 hw => ?_)
        have hF := hF.kg (keep_X11_emit hw)
        refine (bi_fR (hF.kd 181) (hF.gr 29)).trans ?_
        refine (bi_fI (hF.kd 181)).trans ?_
        refine (bi_uL (hF.kd 192) (hF.ln 192)).trans ?_
        refine gd_congr (fun _ => ?_)
        have hF : FSR (sl w6.2 192 (gi w2.2 181 27).toNatClampNeg ((gi w6.2 181 27).toInt64)) := hF.kg ⟨rfl, rfl, rfl⟩
        refine (bi_ck (hF.kd 181)).trans ?_
        refine bdc (hrS  _ hF) (fun w7 hw => ?_)
        have hF := hF.kg (hrK _ _ _ hw)
        refine (bi_fR (hF.kd 181) (hF.gr 29)).trans ?_
        refine (bi_fI (hF.kd 181)).trans ?_
        refine (bi_uL (hF.kd 192) (hF.ln 192)).trans ?_
        refine gd_congr (fun _ => ?_)
        have hF : FSR (sl w7.2 192 (gi w5.2 181 27).toNatClampNeg ((gi w7.2 181 27).toInt64)) := hF.kg ⟨rfl, rfl, rfl⟩
        exact eqJ_X11_formula_107 hrS hrK hF
    · refine (bi_ck (hF.kd 181)).trans ?_
      refine bdc (eqS_X11_stops hF) (fun w8 hw => ?_)
      have hF := hF.kg (keep_X11_stops hw)
      rfl
  · rfl
theorem keepB_X11_formula {M : Mem} {z : Unit × Mem} {rF : Option Nat → Mem → Option (Unit × Mem)} (hrK : ∀ (a0 : Option Nat) (Ma : Mem) (w : Unit × Mem), rF a0 Ma = some w → KG Ma w.2) {v0 : Option Nat} (h : B_X11_formula rF v0 M = some z) : KG M z.2 := by
  unfold B_X11_formula at h
  have hg : KG M M := KG.rf
  obtain ⟨_, -, h⟩ := bnd h
  rcases itor h with h | h
  · obtain ⟨_, -, h⟩ := bnd h
    rcases itor h with h | h
    · obtain ⟨_, -, h⟩ := bnd h
      obtain ⟨_, hw, h⟩ := bnd h
      have hg := hg.trans (kg_pI hw)
      obtain ⟨_, -, h⟩ := bnd h
      obtain ⟨w1, hw, h⟩ := bnd h
      have hg := hg.trans (keep_X11_compared hrK hw)
      obtain ⟨_, -, h⟩ := bnd h
      obtain ⟨w2, hw, h⟩ := bnd h
      have hg := hg.trans (keep_X11_takes hw)
      rcases itor h with h | h
      · exact hg.trans (keepJ_X11_formula_107 hrK h)
      · obtain ⟨_, -, h⟩ := bnd h
        obtain ⟨_, -, h⟩ := bnd h
        obtain ⟨w3, hw, h⟩ := bnd h
        have hg := hg.trans (keep_X11_emit hw)
        obtain ⟨_, -, h⟩ := bnd h
        obtain ⟨w4, hw, h⟩ := bnd h
        have hg := hg.trans (hrK _ _ _ hw)
        obtain ⟨_, -, h⟩ := bnd h
        obtain ⟨w5, hw, h⟩ := bnd h
        have hg := hg.trans (keep_X11_must hw)
        obtain ⟨_, -, h⟩ := bnd h
        obtain ⟨_, -, h⟩ := bnd h
        obtain ⟨w6, hw, h⟩ := bnd h
        have hg := hg.trans (keep_X11_emit hw)
        obtain ⟨_, -, h⟩ := bnd h
        obtain ⟨_, -, h⟩ := bnd h
        obtain ⟨_, hw, h⟩ := bnd h
        have hg := hg.trans (kg_uL hw)
        obtain ⟨_, -, h⟩ := bnd h
        obtain ⟨w7, hw, h⟩ := bnd h
        have hg := hg.trans (hrK _ _ _ hw)
        obtain ⟨_, -, h⟩ := bnd h
        obtain ⟨_, -, h⟩ := bnd h
        obtain ⟨_, hw, h⟩ := bnd h
        have hg := hg.trans (kg_uL hw)
        exact hg.trans (keepJ_X11_formula_107 hrK h)
    · obtain ⟨_, -, h⟩ := bnd h
      obtain ⟨w8, hw, h⟩ := bnd h
      have hg := hg.trans (keep_X11_stops hw)
      cases h; exact hg
  · cases h; exact hg
theorem keep_X11_formula : ∀ (n : Nat) {M : Mem} {z : Unit × Mem} {v0 : Option Nat} (h : L_X11_formula n v0 M = some z), KG M z.2
  | 0 => fun h => nomatch h
  | n + 1 => fun h => keepB_X11_formula (rF := L_X11_formula n) (fun _ _ _ h => keep_X11_formula n h) h
def S_X11_formula : Nat → Mem → Option (Unit × Mem)
  | 0 => fun _ => none
  | n + 1 => SB_X11_formula (S_X11_formula n)
theorem eqS_X11_formula : ∀ (n : Nat) {M : Mem} (hF : FSR M), L_X11_formula n (some 181) M = S_X11_formula n  M
  | 0 => fun _ => rfl
  | n + 1 => fun hF => eqB_X11_formula (rF := L_X11_formula n) (rS := S_X11_formula n) (fun _ hF => eqS_X11_formula n hF) (fun _ _ _ h => keep_X11_formula n h) hF
def S_X11_whole  (M : Mem) : Option (Unit × Mem) :=
  (S_X11_formula 14 (si M 181 31 (0 : Int32))).bind fun w1 =>
  (S_X11_emit (11 : Int32) (0 : Int64) (-1 : Int32) w1.2).bind fun w2 =>
  some ((), w2.2)
theorem eqS_X11_whole {M : Mem} (hF : FSR M) : L_X11_whole (some 181) M = S_X11_whole  M := by
  unfold L_X11_whole S_X11_whole
  refine (bi_pI (hF.kd 181)).trans ?_
  have hF : FSR (si M 181 31 (0 : Int32)) := hF.kg ⟨rfl, rfl, rfl⟩
  refine (bi_ck (hF.kd 181)).trans ?_
  refine bdc (eqS_X11_formula 14 hF) (fun w1 hw => ?_)
  have hF := hF.kg (keep_X11_formula 14 hw)
  refine (bi_ck (hF.kd 181)).trans ?_
  refine bdc (eqS_X11_emit hF) (fun w2 hw => ?_)
  have hF := hF.kg (keep_X11_emit hw)
  rfl
theorem keep_X11_whole {M : Mem} {z : Unit × Mem} {v0 : Option Nat} (h : L_X11_whole v0 M = some z) : KG M z.2 := by
  unfold L_X11_whole at h
  have hg : KG M M := KG.rf
  obtain ⟨_, hw, h⟩ := bnd h
  have hg := hg.trans (kg_pI hw)
  obtain ⟨_, -, h⟩ := bnd h
  obtain ⟨w1, hw, h⟩ := bnd h
  have hg := hg.trans (keep_X11_formula 14 hw)
  obtain ⟨_, -, h⟩ := bnd h
  obtain ⟨w2, hw, h⟩ := bnd h
  have hg := hg.trans (keep_X11_emit hw)
  cases h; exact hg
def S_X11_mark (v1 : Int32) (v2 : Int32) (v3 : Int32) (M : Mem) : Option (Unit × Mem) :=
  gd (inb (gi M 181 21) 400) (
  gd (inb (gi (si M 188 (gi M 181 21).toNatClampNeg v1) 181 21) 400) (
  gd (inb (gi (si (si M 188 (gi M 181 21).toNatClampNeg v1) 189 (gi (si M 188 (gi M 181 21).toNatClampNeg v1) 181 21).toNatClampNeg v2) 181 21) 400) (
  some ((), si (si (si (si M 188 (gi M 181 21).toNatClampNeg v1) 189 (gi (si M 188 (gi M 181 21).toNatClampNeg v1) 181 21).toNatClampNeg v2) 190 (gi (si (si M 188 (gi M 181 21).toNatClampNeg v1) 189 (gi (si M 188 (gi M 181 21).toNatClampNeg v1) 181 21).toNatClampNeg v2) 181 21).toNatClampNeg v3) 181 21 ((gi (si (si (si M 188 (gi M 181 21).toNatClampNeg v1) 189 (gi (si M 188 (gi M 181 21).toNatClampNeg v1) 181 21).toNatClampNeg v2) 190 (gi (si (si M 188 (gi M 181 21).toNatClampNeg v1) 189 (gi (si M 188 (gi M 181 21).toNatClampNeg v1) 181 21).toNatClampNeg v2) 181 21).toNatClampNeg v3) 181 21) + (1 : Int32))))))
theorem eqS_X11_mark {M : Mem} (hF : FSR M) {v1 : Int32} {v2 : Int32} {v3 : Int32} : L_X11_mark (some 181) v1 v2 v3 M = S_X11_mark v1 v2 v3 M := by
  unfold L_X11_mark S_X11_mark
  refine (bi_fR (hF.kd 181) (hF.gr 23)).trans ?_
  refine (bi_fI (hF.kd 181)).trans ?_
  refine (bi_uI (hF.kd 188) (hF.ln 188)).trans ?_
  refine gd_congr (fun _ => ?_)
  have hF : FSR (si M 188 (gi M 181 21).toNatClampNeg v1) := hF.kg ⟨rfl, rfl, rfl⟩
  refine (bi_fR (hF.kd 181) (hF.gr 24)).trans ?_
  refine (bi_fI (hF.kd 181)).trans ?_
  refine (bi_uI (hF.kd 189) (hF.ln 189)).trans ?_
  refine gd_congr (fun _ => ?_)
  have hF : FSR (si (si M 188 (gi M 181 21).toNatClampNeg v1) 189 (gi (si M 188 (gi M 181 21).toNatClampNeg v1) 181 21).toNatClampNeg v2) := hF.kg ⟨rfl, rfl, rfl⟩
  refine (bi_fR (hF.kd 181) (hF.gr 25)).trans ?_
  refine (bi_fI (hF.kd 181)).trans ?_
  refine (bi_uI (hF.kd 190) (hF.ln 190)).trans ?_
  refine gd_congr (fun _ => ?_)
  have hF : FSR (si (si (si M 188 (gi M 181 21).toNatClampNeg v1) 189 (gi (si M 188 (gi M 181 21).toNatClampNeg v1) 181 21).toNatClampNeg v2) 190 (gi (si (si M 188 (gi M 181 21).toNatClampNeg v1) 189 (gi (si M 188 (gi M 181 21).toNatClampNeg v1) 181 21).toNatClampNeg v2) 181 21).toNatClampNeg v3) := hF.kg ⟨rfl, rfl, rfl⟩
  refine (bi_fI (hF.kd 181)).trans ?_
  refine (bi_pI (hF.kd 181)).trans ?_
  have hF : FSR (si (si (si (si M 188 (gi M 181 21).toNatClampNeg v1) 189 (gi (si M 188 (gi M 181 21).toNatClampNeg v1) 181 21).toNatClampNeg v2) 190 (gi (si (si M 188 (gi M 181 21).toNatClampNeg v1) 189 (gi (si M 188 (gi M 181 21).toNatClampNeg v1) 181 21).toNatClampNeg v2) 181 21).toNatClampNeg v3) 181 21 ((gi (si (si (si M 188 (gi M 181 21).toNatClampNeg v1) 189 (gi (si M 188 (gi M 181 21).toNatClampNeg v1) 181 21).toNatClampNeg v2) 190 (gi (si (si M 188 (gi M 181 21).toNatClampNeg v1) 189 (gi (si M 188 (gi M 181 21).toNatClampNeg v1) 181 21).toNatClampNeg v2) 181 21).toNatClampNeg v3) 181 21) + (1 : Int32))) := hF.kg ⟨rfl, rfl, rfl⟩
  rfl
theorem keep_X11_mark {M : Mem} {z : Unit × Mem} {v0 : Option Nat} {v1 : Int32} {v2 : Int32} {v3 : Int32} (h : L_X11_mark v0 v1 v2 v3 M = some z) : KG M z.2 := by
  unfold L_X11_mark at h
  have hg : KG M M := KG.rf
  obtain ⟨_, -, h⟩ := bnd h
  obtain ⟨_, -, h⟩ := bnd h
  obtain ⟨_, hw, h⟩ := bnd h
  have hg := hg.trans (kg_uI hw)
  obtain ⟨_, -, h⟩ := bnd h
  obtain ⟨_, -, h⟩ := bnd h
  obtain ⟨_, hw, h⟩ := bnd h
  have hg := hg.trans (kg_uI hw)
  obtain ⟨_, -, h⟩ := bnd h
  obtain ⟨_, -, h⟩ := bnd h
  obtain ⟨_, hw, h⟩ := bnd h
  have hg := hg.trans (kg_uI hw)
  obtain ⟨_, -, h⟩ := bnd h
  obtain ⟨_, hw, h⟩ := bnd h
  have hg := hg.trans (kg_pI hw)
  cases h; exact hg
