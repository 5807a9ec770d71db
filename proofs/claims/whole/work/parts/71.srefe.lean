def S_X11_lock (v1 : Int32) (v2 : Int32) (v3 : Int32) (v4 : Int32) (M : Mem) : Option (Int32 × Mem) :=
  (L_X11_isIn v1 (gi M 181 73) M).bind fun w1 =>
  if w1.1 = 0 then
  (some ((-1 : Int32), w1.2))
  else
  (gd (inb v1 20) (
  if (gi w1.2 224 v1.toNatClampNeg) = (8 : Int32) then
  (some ((-1 : Int32), w1.2))
  else
  ((L_X11_isIn v2 (100 : Int32) w1.2).bind fun w2 =>
  if w2.1 = 0 then
  (some ((-1 : Int32), w2.2))
  else
  ((L_X11_isYear v3 w2.2).bind fun w3 =>
  if w3.1 = 0 then
  (some ((-1 : Int32), w3.2))
  else
  (if v4 < (1 : Int32) then
  (some ((-1 : Int32), w3.2))
  else
  (if v4 ≤ (366 : Int32) then
  (gd (inb v1 20) (
  gd (inb (((8 : Int32) * v1) + (gi w3.2 224 v1.toNatClampNeg)) 160) (
  gd (inb (((8 : Int32) * v1) + (gi w3.2 224 v1.toNatClampNeg)) 160) (
  gd (inb (((8 : Int32) * v1) + (gi w3.2 224 v1.toNatClampNeg)) 160) (
  gd (inb v1 20) (
  gd (inb v1 20) (
  gd (inb v1 20) (
  some (gi (si (si (si (si w3.2 225 (((8 : Int32) * v1) + (gi w3.2 224 v1.toNatClampNeg)).toNatClampNeg v2) 226 (((8 : Int32) * v1) + (gi w3.2 224 v1.toNatClampNeg)).toNatClampNeg (v3 - (1700 : Int32))) 227 (((8 : Int32) * v1) + (gi w3.2 224 v1.toNatClampNeg)).toNatClampNeg v4) 224 v1.toNatClampNeg ((gi (si (si (si w3.2 225 (((8 : Int32) * v1) + (gi w3.2 224 v1.toNatClampNeg)).toNatClampNeg v2) 226 (((8 : Int32) * v1) + (gi w3.2 224 v1.toNatClampNeg)).toNatClampNeg (v3 - (1700 : Int32))) 227 (((8 : Int32) * v1) + (gi w3.2 224 v1.toNatClampNeg)).toNatClampNeg v4) 224 v1.toNatClampNeg) + (1 : Int32))) 224 v1.toNatClampNeg, si (si (si (si w3.2 225 (((8 : Int32) * v1) + (gi w3.2 224 v1.toNatClampNeg)).toNatClampNeg v2) 226 (((8 : Int32) * v1) + (gi w3.2 224 v1.toNatClampNeg)).toNatClampNeg (v3 - (1700 : Int32))) 227 (((8 : Int32) * v1) + (gi w3.2 224 v1.toNatClampNeg)).toNatClampNeg v4) 224 v1.toNatClampNeg ((gi (si (si (si w3.2 225 (((8 : Int32) * v1) + (gi w3.2 224 v1.toNatClampNeg)).toNatClampNeg v2) 226 (((8 : Int32) * v1) + (gi w3.2 224 v1.toNatClampNeg)).toNatClampNeg (v3 - (1700 : Int32))) 227 (((8 : Int32) * v1) + (gi w3.2 224 v1.toNatClampNeg)).toNatClampNeg v4) 224 v1.toNatClampNeg) + (1 : Int32)))))))))))
  else
  (some ((-1 : Int32), w3.2))))))))
theorem eqS_X11_lock {M : Mem} (hF : FSR M) {v1 : Int32} {v2 : Int32} {v3 : Int32} {v4 : Int32} : L_X11_lock (some 181) v1 v2 v3 v4 M = S_X11_lock v1 v2 v3 v4 M := by
  unfold L_X11_lock S_X11_lock
  refine (bi_fI (hF.kd 181)).trans ?_
  refine bdc rfl (fun w1 hw => ?_)
  have hF := hF.kg (keep_X11_isIn hw)
  refine itc (fun _ => ?_) (fun _ => ?_)
  · rfl
  · refine (bi_fR (hF.kd 181) (hF.gr 76)).trans ?_
    refine (bi_aI (hF.kd 224) (hF.ln 224)).trans ?_
    refine gd_congr (fun _ => ?_)
    refine itc (fun _ => ?_) (fun _ => ?_)
    · rfl
    · refine bdc rfl (fun w2 hw => ?_)
      have hF := hF.kg (keep_X11_isIn hw)
      refine itc (fun _ => ?_) (fun _ => ?_)
      · rfl
      · refine bdc rfl (fun w3 hw => ?_)
        have hF := hF.kg (keep_X11_isYear hw)
        refine itc (fun _ => ?_) (fun _ => ?_)
        · rfl
        · refine itc (fun _ => ?_) (fun _ => ?_)
          · rfl
          · refine itc (fun _ => ?_) (fun _ => ?_)
            · refine (bi_fR (hF.kd 181) (hF.gr 76)).trans ?_
              refine (bi_aI (hF.kd 224) (hF.ln 224)).trans ?_
              refine gd_congr (fun _ => ?_)
              refine (bi_fR (hF.kd 181) (hF.gr 77)).trans ?_
              refine (bi_uI (hF.kd 225) (hF.ln 225)).trans ?_
              refine gd_congr (fun _ => ?_)
              have hF : FSR (si w3.2 225 (((8 : Int32) * v1) + (gi w3.2 224 v1.toNatClampNeg)).toNatClampNeg v2) := hF.kg ⟨rfl, rfl, rfl⟩
              refine (bi_fR (hF.kd 181) (hF.gr 78)).trans ?_
              refine (bi_uI (hF.kd 226) (hF.ln 226)).trans ?_
              refine gd_congr (fun _ => ?_)
              have hF : FSR (si (si w3.2 225 (((8 : Int32) * v1) + (gi w3.2 224 v1.toNatClampNeg)).toNatClampNeg v2) 226 (((8 : Int32) * v1) + (gi w3.2 224 v1.toNatClampNeg)).toNatClampNeg (v3 - (1700 : Int32))) := hF.kg ⟨rfl, rfl, rfl⟩
              refine (bi_fR (hF.kd 181) (hF.gr 79)).trans ?_
              refine (bi_uI (hF.kd 227) (hF.ln 227)).trans ?_
              refine gd_congr (fun _ => ?_)
              have hF : FSR (si (si (si w3.2 225 (((8 : Int32) * v1) + (gi w3.2 224 v1.toNatClampNeg)).toNatClampNeg v2) 226 (((8 : Int32) * v1) + (gi w3.2 224 v1.toNatClampNeg)).toNatClampNeg (v3 - (1700 : Int32))) 227 (((8 : Int32) * v1) + (gi w3.2 224 v1.toNatClampNeg)).toNatClampNeg v4) := hF.kg ⟨rfl, rfl, rfl⟩
              refine (bi_fR (hF.kd 181) (hF.gr 76)).trans ?_
              refine (bi_aI (hF.kd 224) (hF.ln 224)).trans ?_
              refine gd_congr (fun _ => ?_)
              refine (bi_uI (hF.kd 224) (hF.ln 224)).trans ?_
              refine gd_congr (fun _ => ?_)
              have hF : FSR (si (si (si (si w3.2 225 (((8 : Int32) * v1) + (gi w3.2 224 v1.toNatClampNeg)).toNatClampNeg v2) 226 (((8 : Int32) * v1) + (gi w3.2 224 v1.toNatClampNeg)).toNatClampNeg (v3 - (1700 : Int32))) 227 (((8 : Int32) * v1) + (gi w3.2 224 v1.toNatClampNeg)).toNatClampNeg v4) 224 v1.toNatClampNeg ((gi (si (si (si w3.2 225 (((8 : Int32) * v1) + (gi w3.2 224 v1.toNatClampNeg)).toNatClampNeg v2) 226 (((8 : Int32) * v1) + (gi w3.2 224 v1.toNatClampNeg)).toNatClampNeg (v3 - (1700 : Int32))) 227 (((8 : Int32) * v1) + (gi w3.2 224 v1.toNatClampNeg)).toNatClampNeg v4) 224 v1.toNatClampNeg) + (1 : Int32))) := hF.kg ⟨rfl, rfl, rfl⟩
              refine (bi_fR (hF.kd 181) (hF.gr 76)).trans ?_
              refine (bi_aI (hF.kd 224) (hF.ln 224)).trans ?_
              refine gd_congr (fun _ => ?_)
              rfl
            · rfl
theorem keep_X11_lock {M : Mem} {z : Int32 × Mem} {v0 : Option Nat} {v1 : Int32} {v2 : Int32} {v3 : Int32} {v4 : Int32} (h : L_X11_lock v0 v1 v2 v3 v4 M = some z) : KG M z.2 := by
  unfold L_X11_lock at h
  have hg : KG M M := KG.rf
  obtain ⟨_, -, h⟩ := bnd h
  obtain ⟨w1, hw, h⟩ := bnd h
  have hg := hg.trans (keep_X11_isIn hw)
  rcases itor h with h | h
  · cases h; exact hg
  · obtain ⟨_, -, h⟩ := bnd h
    obtain ⟨_, -, h⟩ := bnd h
    rcases itor h with h | h
    · cases h; exact hg
    · obtain ⟨w2, hw, h⟩ := bnd h
      have hg := hg.trans (keep_X11_isIn hw)
      rcases itor h with h | h
      · cases h; exact hg
      · obtain ⟨w3, hw, h⟩ := bnd h
        have hg := hg.trans (keep_X11_isYear hw)
        rcases itor h with h | h
        · cases h; exact hg
        · rcases itor h with h | h
          · cases h; exact hg
          · rcases itor h with h | h
            · obtain ⟨_, -, h⟩ := bnd h
              obtain ⟨_, -, h⟩ := bnd h
              obtain ⟨_, -, h⟩ := bnd h
              obtain ⟨_, hw, h⟩ := bnd h
              have hg := hg.trans (kg_uI hw)
              obtain ⟨_, -, h⟩ := bnd h
              obtain ⟨_, hw, h⟩ := bnd h
              have hg := hg.trans (kg_uI hw)
              obtain ⟨_, -, h⟩ := bnd h
              obtain ⟨_, hw, h⟩ := bnd h
              have hg := hg.trans (kg_uI hw)
              obtain ⟨_, -, h⟩ := bnd h
              obtain ⟨_, -, h⟩ := bnd h
              obtain ⟨_, hw, h⟩ := bnd h
              have hg := hg.trans (kg_uI hw)
              obtain ⟨_, -, h⟩ := bnd h
              obtain ⟨_, -, h⟩ := bnd h
              cases h; exact hg
            · cases h; exact hg
def SJ_X11_lined_81 (v1 : Int32) (v4 : Int32) (M : Mem) : Option (Int32 × Mem) :=
  if v4 < 0 then
  (some ((802 : Int32), M))
  else
  (gd (inb ((30 : Int32) + v4) 60) (
  if (gi M 194 ((30 : Int32) + v4).toNatClampNeg) = 0 then
  (some ((802 : Int32), M))
  else
  (gd (inb ((30 : Int32) + v4) 60) (
  if 0 ≤ (gi M 207 ((30 : Int32) + v4).toNatClampNeg) then
  (gd (inb v1 160) (
  gd (inb v1 160) (
  gd (inb ((30 : Int32) + v4) 60) (
  (S_X11_works (S_X11_needs 32) v4 (gi (si (si M 181 69 (gi M 225 v1.toNatClampNeg)) 181 70 (gi (si M 181 69 (gi M 225 v1.toNatClampNeg)) 227 v1.toNatClampNeg)) 207 ((30 : Int32) + v4).toNatClampNeg) (0 : Int32) (si (si M 181 69 (gi M 225 v1.toNatClampNeg)) 181 70 (gi (si M 181 69 (gi M 225 v1.toNatClampNeg)) 227 v1.toNatClampNeg))).bind fun w1 =>
  some (w1.1, w1.2)))))
  else
  (some ((802 : Int32), M))))))
theorem eqJ_X11_lined_81 {M : Mem} (hF : FSR M) {v1 : Int32} {v4 : Int32} : J_X11_lined_81 (some 181) v1 v4 M = SJ_X11_lined_81 v1 v4 M := by
  unfold J_X11_lined_81 SJ_X11_lined_81
  refine itc (fun _ => ?_) (fun _ => ?_)
  · rfl
  · refine (bi_fR (hF.kd 181) (hF.gr 36)).trans ?_
    refine (bi_aI (hF.kd 194) (hF.ln 194)).trans ?_
    refine gd_congr (fun _ => ?_)
    refine itc (fun _ => ?_) (fun _ => ?_)
    · rfl
    · refine (bi_fR (hF.kd 181) (hF.gr 49)).trans ?_
      refine (bi_aI (hF.kd 207) (hF.ln 207)).trans ?_
      refine gd_congr (fun _ => ?_)
      refine itc (fun _ => ?_) (fun _ => ?_)
      · refine (bi_fR (hF.kd 181) (hF.gr 77)).trans ?_
        refine (bi_aI (hF.kd 225) (hF.ln 225)).trans ?_
        refine gd_congr (fun _ => ?_)
        refine (bi_pI (hF.kd 181)).trans ?_
        have hF : FSR (si M 181 69 (gi M 225 v1.toNatClampNeg)) := hF.kg ⟨rfl, rfl, rfl⟩
        refine (bi_fR (hF.kd 181) (hF.gr 79)).trans ?_
        refine (bi_aI (hF.kd 227) (hF.ln 227)).trans ?_
        refine gd_congr (fun _ => ?_)
        refine (bi_pI (hF.kd 181)).trans ?_
        have hF : FSR (si (si M 181 69 (gi M 225 v1.toNatClampNeg)) 181 70 (gi (si M 181 69 (gi M 225 v1.toNatClampNeg)) 227 v1.toNatClampNeg)) := hF.kg ⟨rfl, rfl, rfl⟩
        refine (bi_fR (hF.kd 181) (hF.gr 49)).trans ?_
        refine (bi_aI (hF.kd 207) (hF.ln 207)).trans ?_
        refine gd_congr (fun _ => ?_)
        refine (bi_ck (hF.kd 181)).trans ?_
        refine bdc (eqS_X11_works (fun _ _ hF => eqS_X11_needs 32 hF) (fun _ _ _ _ h => keep_X11_needs 32 h) hF) (fun w1 hw => ?_)
        have hF := hF.kg (keep_X11_works (fun _ _ _ _ h => keep_X11_needs 32 h) hw)
        rfl
      · rfl
theorem keepJ_X11_lined_81 {M : Mem} {z : Int32 × Mem} {v0 : Option Nat} {v1 : Int32} {v4 : Int32} (h : J_X11_lined_81 v0 v1 v4 M = some z) : KG M z.2 := by
  unfold J_X11_lined_81 at h
  have hg : KG M M := KG.rf
  rcases itor h with h | h
  · cases h; exact hg
  · obtain ⟨_, -, h⟩ := bnd h
    obtain ⟨_, -, h⟩ := bnd h
    rcases itor h with h | h
    · cases h; exact hg
    · obtain ⟨_, -, h⟩ := bnd h
      obtain ⟨_, -, h⟩ := bnd h
      rcases itor h with h | h
      · obtain ⟨_, -, h⟩ := bnd h
        obtain ⟨_, -, h⟩ := bnd h
        obtain ⟨_, hw, h⟩ := bnd h
        have hg := hg.trans (kg_pI hw)
        obtain ⟨_, -, h⟩ := bnd h
        obtain ⟨_, -, h⟩ := bnd h
        obtain ⟨_, hw, h⟩ := bnd h
        have hg := hg.trans (kg_pI hw)
        obtain ⟨_, -, h⟩ := bnd h
        obtain ⟨_, -, h⟩ := bnd h
        obtain ⟨_, -, h⟩ := bnd h
        obtain ⟨w1, hw, h⟩ := bnd h
        have hg := hg.trans (keep_X11_works (fun _ _ _ _ h => keep_X11_needs 32 h) hw)
        cases h; exact hg
      · cases h; exact hg
def SJ_X11_lined_25 : Nat → Int32 → Int32 → Int32 → Mem → Option (Int32 × Mem)
  | 0 => fun _ _ _ _ => none
  | n + 1 => fun v1 v4 v5 M =>
  if (30 : Int32) < v5 then
  (SJ_X11_lined_81 v1 v4 M)
  else
  (if v4 < 0 then
  (SJ_X11_lined_81 v1 v4 M)
  else
  (gd (inb ((30 : Int32) + v4) 60) (
  if (gi M 194 ((30 : Int32) + v4).toNatClampNeg) = 0 then
  (SJ_X11_lined_81 v1 v4 M)
  else
  (gd (inb ((30 : Int32) + v4) 60) (
  if 0 ≤ (gi M 207 ((30 : Int32) + v4).toNatClampNeg) then
  (SJ_X11_lined_81 v1 v4 M)
  else
  (gd (inb ((30 : Int32) + v4) 60) (
  SJ_X11_lined_25 n v1 (gi M 195 ((30 : Int32) + v4).toNatClampNeg) (v5 + 1) M)))))))
theorem eqJ_X11_lined_25 : ∀ (n : Nat) (v1 : Int32) (v4 : Int32) (v5 : Int32) (M : Mem), FSR M → J_X11_lined_25 n (some 181) v1 v4 v5 M = SJ_X11_lined_25 n v1 v4 v5 M := by
  intro n
  induction n with
  | zero => intro v1 v4 v5 M hF; rfl
  | succ n ih =>
    intro v1 v4 v5 M hF
    unfold J_X11_lined_25 SJ_X11_lined_25
    refine itc (fun _ => ?_) (fun _ => ?_)
    · exact eqJ_X11_lined_81 hF
    · refine itc (fun _ => ?_) (fun _ => ?_)
      · exact eqJ_X11_lined_81 hF
      · refine (bi_fR (hF.kd 181) (hF.gr 36)).trans ?_
        refine (bi_aI (hF.kd 194) (hF.ln 194)).trans ?_
        refine gd_congr (fun _ => ?_)
        refine itc (fun _ => ?_) (fun _ => ?_)
        · exact eqJ_X11_lined_81 hF
        · refine (bi_fR (hF.kd 181) (hF.gr 49)).trans ?_
          refine (bi_aI (hF.kd 207) (hF.ln 207)).trans ?_
          refine gd_congr (fun _ => ?_)
          refine itc (fun _ => ?_) (fun _ => ?_)
          · exact eqJ_X11_lined_81 hF
          · refine (bi_fR (hF.kd 181) (hF.gr 37)).trans ?_
            refine (bi_aI (hF.kd 195) (hF.ln 195)).trans ?_
            refine gd_congr (fun _ => ?_)
            exact ih _ _ _ _ hF
theorem keepJ_X11_lined_25 {z : Int32 × Mem} : ∀ (n : Nat) (v0 : Option Nat) (v1 : Int32) (v4 : Int32) (v5 : Int32) (M : Mem), J_X11_lined_25 n v0 v1 v4 v5 M = some z → KG M z.2 := by
  intro n
  induction n with
  | zero => intro v0 v1 v4 v5 M h; exact nomatch h
  | succ n ih =>
    intro v0 v1 v4 v5 M h
    unfold J_X11_lined_25 at h
    have hg : KG M M := KG.rf
    rcases itor h with h | h
    · exact hg.trans (keepJ_X11_lined_81 h)
    · rcases itor h with h | h
      · exact hg.trans (keepJ_X11_lined_81 h)
      · obtain ⟨_, -, h⟩ := bnd h
        obtain ⟨_, -, h⟩ := bnd h
        rcases itor h with h | h
        · exact hg.trans (keepJ_X11_lined_81 h)
        · obtain ⟨_, -, h⟩ := bnd h
          obtain ⟨_, -, h⟩ := bnd h
          rcases itor h with h | h
          · exact hg.trans (keepJ_X11_lined_81 h)
          · obtain ⟨_, -, h⟩ := bnd h
            obtain ⟨_, -, h⟩ := bnd h
            exact hg.trans (ih _ _ _ _ _ h)
def S_X11_lined (v1 : Int32) (M : Mem) : Option (Int32 × Mem) :=
  gd (inb v1 160) (
  (S_X11_needs 32 (gi M 226 v1.toNatClampNeg) M).bind fun w2 =>
  if w2.1 = 0 then
  (SJ_X11_lined_25 FU v1 (gi M 226 v1.toNatClampNeg) (0 : Int32) w2.2)
  else
  (some (w2.1, w2.2)))
theorem eqS_X11_lined {M : Mem} (hF : FSR M) {v1 : Int32} : L_X11_lined (some 181) v1 M = S_X11_lined v1 M := by
  unfold L_X11_lined S_X11_lined
  refine (bi_fR (hF.kd 181) (hF.gr 78)).trans ?_
  refine (bi_aI (hF.kd 226) (hF.ln 226)).trans ?_
  refine gd_congr (fun _ => ?_)
  refine (bi_ck (hF.kd 181)).trans ?_
  refine bdc (eqS_X11_needs 32 hF) (fun w2 hw => ?_)
  have hF := hF.kg (keep_X11_needs 32 hw)
  refine itc (fun _ => ?_) (fun _ => ?_)
  · exact eqJ_X11_lined_25 FU _ _ _ _ hF
  · rfl
theorem keep_X11_lined {M : Mem} {z : Int32 × Mem} {v0 : Option Nat} {v1 : Int32} (h : L_X11_lined v0 v1 M = some z) : KG M z.2 := by
  unfold L_X11_lined at h
  have hg : KG M M := KG.rf
  obtain ⟨_, -, h⟩ := bnd h
  obtain ⟨_, -, h⟩ := bnd h
  obtain ⟨_, -, h⟩ := bnd h
  obtain ⟨w2, hw, h⟩ := bnd h
  have hg := hg.trans (keep_X11_needs 32 hw)
  rcases itor h with h | h
  · exact hg.trans (keepJ_X11_lined_25 FU _ _ _ _ _ h)
  · cases h; exact hg
def SJ_X11_bill_54 : Nat → Int32 → Int64 → Int32 → Mem → Option (Int32 × Mem)
  | 0 => fun _ _ _ _ => none
  | n + 1 => fun v1 v2 v4 M =>
  gd (inb v1 20) (
  if (gi M 224 v1.toNatClampNeg) ≤ v4 then
  (gd (inb v1 20) (
  gd (inb v1 20) (
  gd (inb v1 20) (
  some ((0 : Int32), si (si (sl M 229 v1.toNatClampNeg v2) 228 v1.toNatClampNeg (gi (sl M 229 v1.toNatClampNeg v2) 224 v1.toNatClampNeg)) 181 83 ((gi (si (sl M 229 v1.toNatClampNeg v2) 228 v1.toNatClampNeg (gi (sl M 229 v1.toNatClampNeg v2) 224 v1.toNatClampNeg)) 181 83) + (1 : Int32)))))))
  else
  ((S_X11_lined (((8 : Int32) * v1) + v4) M).bind fun w1 =>
  if w1.1 = 0 then
  (gd (inb (((8 : Int32) * v1) + v4) 160) (
  SJ_X11_bill_54 n v1 (v2 + (gl (sl w1.2 230 (((8 : Int32) * v1) + v4).toNatClampNeg (gl w1.2 181 71)) 181 71)) (v4 + 1) (sl w1.2 230 (((8 : Int32) * v1) + v4).toNatClampNeg (gl w1.2 181 71))))
  else
  (some (w1.1, si w1.2 181 84 ((gi w1.2 181 84) + (1 : Int32))))))
theorem eqJ_X11_bill_54 : ∀ (n : Nat) (v1 : Int32) (v2 : Int64) (v4 : Int32) (M : Mem), FSR M → J_X11_bill_54 n (some 181) v1 v2 v4 M = SJ_X11_bill_54 n v1 v2 v4 M := by
  intro n
  induction n with
  | zero => intro v1 v2 v4 M hF; rfl
  | succ n ih =>
    intro v1 v2 v4 M hF
    unfold J_X11_bill_54 SJ_X11_bill_54
    refine (bi_fR (hF.kd 181) (hF.gr 76)).trans ?_
    refine (bi_aI (hF.kd 224) (hF.ln 224)).trans ?_
    refine gd_congr (fun _ => ?_)
    refine itc (fun _ => ?_) (fun _ => ?_)
    · refine (bi_fR (hF.kd 181) (hF.gr 81)).trans ?_
      refine (bi_uL (hF.kd 229) (hF.ln 229)).trans ?_
      refine gd_congr (fun _ => ?_)
      have hF : FSR (sl M 229 v1.toNatClampNeg v2) := hF.kg ⟨rfl, rfl, rfl⟩
      refine (bi_fR (hF.kd 181) (hF.gr 80)).trans ?_
      refine (bi_fR (hF.kd 181) (hF.gr 76)).trans ?_
      refine (bi_aI (hF.kd 224) (hF.ln 224)).trans ?_
      refine gd_congr (fun _ => ?_)
      refine (bi_uI (hF.kd 228) (hF.ln 228)).trans ?_
      refine gd_congr (fun _ => ?_)
      have hF : FSR (si (sl M 229 v1.toNatClampNeg v2) 228 v1.toNatClampNeg (gi (sl M 229 v1.toNatClampNeg v2) 224 v1.toNatClampNeg)) := hF.kg ⟨rfl, rfl, rfl⟩
      refine (bi_fI (hF.kd 181)).trans ?_
      refine (bi_pI (hF.kd 181)).trans ?_
      have hF : FSR (si (si (sl M 229 v1.toNatClampNeg v2) 228 v1.toNatClampNeg (gi (sl M 229 v1.toNatClampNeg v2) 224 v1.toNatClampNeg)) 181 83 ((gi (si (sl M 229 v1.toNatClampNeg v2) 228 v1.toNatClampNeg (gi (sl M 229 v1.toNatClampNeg v2) 224 v1.toNatClampNeg)) 181 83) + (1 : Int32))) := hF.kg ⟨rfl, rfl, rfl⟩
      rfl
    · refine (bi_ck (hF.kd 181)).trans ?_
      refine bdc (eqS_X11_lined hF) (fun w1 hw => ?_)
      have hF := hF.kg (keep_X11_lined hw)
      refine itc (fun _ => ?_) (fun _ => ?_)
      · refine (bi_fR (hF.kd 181) (hF.gr 82)).trans ?_
        refine (bi_fL (hF.kd 181)).trans ?_
        refine (bi_uL (hF.kd 230) (hF.ln 230)).trans ?_
        refine gd_congr (fun _ => ?_)
        have hF : FSR (sl w1.2 230 (((8 : Int32) * v1) + v4).toNatClampNeg (gl w1.2 181 71)) := hF.kg ⟨rfl, rfl, rfl⟩
        refine (bi_fL (hF.kd 181)).trans ?_
        exact ih _ _ _ _ hF
      · refine (bi_fI (hF.kd 181)).trans ?_
        refine (bi_pI (hF.kd 181)).trans ?_
        have hF : FSR (si w1.2 181 84 ((gi w1.2 181 84) + (1 : Int32))) := hF.kg ⟨rfl, rfl, rfl⟩
        rfl
theorem keepJ_X11_bill_54 {z : Int32 × Mem} : ∀ (n : Nat) (v0 : Option Nat) (v1 : Int32) (v2 : Int64) (v4 : Int32) (M : Mem), J_X11_bill_54 n v0 v1 v2 v4 M = some z → KG M z.2 := by
  intro n
  induction n with
  | zero => intro v0 v1 v2 v4 M h; exact nomatch h
  | succ n ih =>
    intro v0 v1 v2 v4 M h
    unfold J_X11_bill_54 at h
    have hg : KG M M := KG.rf
    obtain ⟨_, -, h⟩ := bnd h
    obtain ⟨_, -, h⟩ := bnd h
    rcases itor h with h | h
    · obtain ⟨_, -, h⟩ := bnd h
      obtain ⟨_, hw, h⟩ := bnd h
      have hg := hg.trans (kg_uL hw)
      obtain ⟨_, -, h⟩ := bnd h
      obtain ⟨_, -, h⟩ := bnd h
      obtain ⟨_, -, h⟩ := bnd h
      obtain ⟨_, hw, h⟩ := bnd h
      have hg := hg.trans (kg_uI hw)
      obtain ⟨_, -, h⟩ := bnd h
      obtain ⟨_, hw, h⟩ := bnd h
      have hg := hg.trans (kg_pI hw)
      cases h; exact hg
    · obtain ⟨_, -, h⟩ := bnd h
      obtain ⟨w1, hw, h⟩ := bnd h
      have hg := hg.trans (keep_X11_lined hw)
      rcases itor h with h | h
      · obtain ⟨_, -, h⟩ := bnd h
        obtain ⟨_, -, h⟩ := bnd h
        obtain ⟨_, hw, h⟩ := bnd h
        have hg := hg.trans (kg_uL hw)
        obtain ⟨_, -, h⟩ := bnd h
        exact hg.trans (ih _ _ _ _ _ h)
      · obtain ⟨_, -, h⟩ := bnd h
        obtain ⟨_, hw, h⟩ := bnd h
        have hg := hg.trans (kg_pI hw)
        cases h; exact hg
def S_X11_bill (v1 : Int32) (M : Mem) : Option (Int32 × Mem) :=
  (L_X11_isIn v1 (gi M 181 73) M).bind fun w2 =>
  if w2.1 = 0 then
  (some ((-1 : Int32), w2.2))
  else
  (gd (inb v1 20) (
  if ¬ (gi w2.2 224 v1.toNatClampNeg) = 0 then
  (gd (inb v1 20) (
  gd (inb v1 20) (
  gd (inb v1 20) (
  SJ_X11_bill_54 FU v1 (0 : Int64) (0 : Int32) (si (si (si w2.2 181 67 (gi w2.2 222 v1.toNatClampNeg)) 181 68 (gi (si w2.2 181 67 (gi w2.2 222 v1.toNatClampNeg)) 223 v1.toNatClampNeg)) 228 v1.toNatClampNeg (-1 : Int32))))))
  else
  (some ((-1 : Int32), w2.2))))
theorem eqS_X11_bill {M : Mem} (hF : FSR M) {v1 : Int32} : L_X11_bill (some 181) v1 M = S_X11_bill v1 M := by
  unfold L_X11_bill S_X11_bill
  refine (bi_fI (hF.kd 181)).trans ?_
  refine bdc rfl (fun w2 hw => ?_)
  have hF := hF.kg (keep_X11_isIn hw)
  refine itc (fun _ => ?_) (fun _ => ?_)
  · rfl
  · refine (bi_fR (hF.kd 181) (hF.gr 76)).trans ?_
    refine (bi_aI (hF.kd 224) (hF.ln 224)).trans ?_
    refine gd_congr (fun _ => ?_)
    refine itc (fun _ => ?_) (fun _ => ?_)
    · refine (bi_fR (hF.kd 181) (hF.gr 74)).trans ?_
      refine (bi_aI (hF.kd 222) (hF.ln 222)).trans ?_
      refine gd_congr (fun _ => ?_)
      refine (bi_pI (hF.kd 181)).trans ?_
      have hF : FSR (si w2.2 181 67 (gi w2.2 222 v1.toNatClampNeg)) := hF.kg ⟨rfl, rfl, rfl⟩
      refine (bi_fR (hF.kd 181) (hF.gr 75)).trans ?_
      refine (bi_aI (hF.kd 223) (hF.ln 223)).trans ?_
      refine gd_congr (fun _ => ?_)
      refine (bi_pI (hF.kd 181)).trans ?_
      have hF : FSR (si (si w2.2 181 67 (gi w2.2 222 v1.toNatClampNeg)) 181 68 (gi (si w2.2 181 67 (gi w2.2 222 v1.toNatClampNeg)) 223 v1.toNatClampNeg)) := hF.kg ⟨rfl, rfl, rfl⟩
      refine (bi_fR (hF.kd 181) (hF.gr 80)).trans ?_
      refine (bi_uI (hF.kd 228) (hF.ln 228)).trans ?_
      refine gd_congr (fun _ => ?_)
      have hF : FSR (si (si (si w2.2 181 67 (gi w2.2 222 v1.toNatClampNeg)) 181 68 (gi (si w2.2 181 67 (gi w2.2 222 v1.toNatClampNeg)) 223 v1.toNatClampNeg)) 228 v1.toNatClampNeg (-1 : Int32)) := hF.kg ⟨rfl, rfl, rfl⟩
      exact eqJ_X11_bill_54 FU _ _ _ _ hF
    · rfl
theorem keep_X11_bill {M : Mem} {z : Int32 × Mem} {v0 : Option Nat} {v1 : Int32} (h : L_X11_bill v0 v1 M = some z) : KG M z.2 := by
  unfold L_X11_bill at h
  have hg : KG M M := KG.rf
  obtain ⟨_, -, h⟩ := bnd h
  obtain ⟨w2, hw, h⟩ := bnd h
  have hg := hg.trans (keep_X11_isIn hw)
  rcases itor h with h | h
  · cases h; exact hg
  · obtain ⟨_, -, h⟩ := bnd h
    obtain ⟨_, -, h⟩ := bnd h
    rcases itor h with h | h
    · obtain ⟨_, -, h⟩ := bnd h
      obtain ⟨_, -, h⟩ := bnd h
      obtain ⟨_, hw, h⟩ := bnd h
      have hg := hg.trans (kg_pI hw)
      obtain ⟨_, -, h⟩ := bnd h
      obtain ⟨_, -, h⟩ := bnd h
      obtain ⟨_, hw, h⟩ := bnd h
      have hg := hg.trans (kg_pI hw)
      obtain ⟨_, -, h⟩ := bnd h
      obtain ⟨_, hw, h⟩ := bnd h
      have hg := hg.trans (kg_uI hw)
      exact hg.trans (keepJ_X11_bill_54 FU _ _ _ _ _ h)
    · cases h; exact hg
def S_X11_line (v1 : Int32) (v2 : Int32) (M : Mem) : Option (Int64 × Mem) :=
  (L_X11_isIn v1 (gi M 181 73) M).bind fun w1 =>
  if w1.1 = 0 then
  (some ((-2000000000000000 : Int64), w1.2))
  else
  (gd (inb v1 20) (
  if (gi w1.2 228 v1.toNatClampNeg) < 0 then
  (some ((-2000000000000000 : Int64), w1.2))
  else
  (if v2 < 0 then
  (some ((-2000000000000000 : Int64), w1.2))
  else
  (gd (inb v1 20) (
  if v2 ≤ (gi w1.2 228 v1.toNatClampNeg) then
  (if ¬ v2 = 0 then
  (gd (inb ((((8 : Int32) * v1) + v2) - (1 : Int32)) 160) (
  some (gl w1.2 230 ((((8 : Int32) * v1) + v2) - (1 : Int32)).toNatClampNeg, w1.2)))
  else
  (gd (inb v1 20) (
  some (gl w1.2 229 v1.toNatClampNeg, w1.2))))
  else
  (some ((-2000000000000000 : Int64), w1.2)))))))
theorem eqS_X11_line {M : Mem} (hF : FSR M) {v1 : Int32} {v2 : Int32} : L_X11_line (some 181) v1 v2 M = S_X11_line v1 v2 M := by
  unfold L_X11_line S_X11_line
  refine (bi_fI (hF.kd 181)).trans ?_
  refine bdc rfl (fun w1 hw => ?_)
  have hF := hF.kg (keep_X11_isIn hw)
  refine itc (fun _ => ?_) (fun _ => ?_)
  · rfl
  · refine (bi_fR (hF.kd 181) (hF.gr 80)).trans ?_
    refine (bi_aI (hF.kd 228) (hF.ln 228)).trans ?_
    refine gd_congr (fun _ => ?_)
    refine itc (fun _ => ?_) (fun _ => ?_)
    · rfl
    · refine itc (fun _ => ?_) (fun _ => ?_)
      · rfl
      · refine (bi_fR (hF.kd 181) (hF.gr 80)).trans ?_
        refine (bi_aI (hF.kd 228) (hF.ln 228)).trans ?_
        refine gd_congr (fun _ => ?_)
        refine itc (fun _ => ?_) (fun _ => ?_)
        · refine itc (fun _ => ?_) (fun _ => ?_)
          · refine (bi_fR (hF.kd 181) (hF.gr 82)).trans ?_
            refine (bi_aL (hF.kd 230) (hF.ln 230)).trans ?_
            refine gd_congr (fun _ => ?_)
            rfl
          · refine (bi_fR (hF.kd 181) (hF.gr 81)).trans ?_
            refine (bi_aL (hF.kd 229) (hF.ln 229)).trans ?_
            refine gd_congr (fun _ => ?_)
            rfl
        · rfl
theorem keep_X11_line {M : Mem} {z : Int64 × Mem} {v0 : Option Nat} {v1 : Int32} {v2 : Int32} (h : L_X11_line v0 v1 v2 M = some z) : KG M z.2 := by
  unfold L_X11_line at h
  have hg : KG M M := KG.rf
  obtain ⟨_, -, h⟩ := bnd h
  obtain ⟨w1, hw, h⟩ := bnd h
  have hg := hg.trans (keep_X11_isIn hw)
  rcases itor h with h | h
  · cases h; exact hg
  · obtain ⟨_, -, h⟩ := bnd h
    obtain ⟨_, -, h⟩ := bnd h
    rcases itor h with h | h
    · cases h; exact hg
    · rcases itor h with h | h
      · cases h; exact hg
      · obtain ⟨_, -, h⟩ := bnd h
        obtain ⟨_, -, h⟩ := bnd h
        rcases itor h with h | h
        · rcases itor h with h | h
          · obtain ⟨_, -, h⟩ := bnd h
            obtain ⟨_, -, h⟩ := bnd h
            cases h; exact hg
          · obtain ⟨_, -, h⟩ := bnd h
            obtain ⟨_, -, h⟩ := bnd h
            cases h; exact hg
        · cases h; exact hg
def S_X11_count (v1 : Int32) (M : Mem) : Option (Int32 × Mem) :=
  if v1 = 0 then
  (some (gi M 181 59, M))
  else
  if v1 = 1 then
  (some (gi M 181 66, M))
  else
  if v1 = 2 then
  (some (gi M 181 83, M))
  else
  if v1 = 3 then
  (some (gi M 181 84, M))
  else
  if v1 = 4 then
  (some (gi M 181 73, M))
  else
  (some ((-1 : Int32), M))
theorem eqS_X11_count {M : Mem} (hF : FSR M) {v1 : Int32} : L_X11_count (some 181) v1 M = S_X11_count v1 M := by
  unfold L_X11_count S_X11_count
  refine itc (fun _ => ?_) (fun _ => ?_)
  · refine (bi_fI (hF.kd 181)).trans ?_
    rfl
  refine itc (fun _ => ?_) (fun _ => ?_)
  · refine (bi_fI (hF.kd 181)).trans ?_
    rfl
  refine itc (fun _ => ?_) (fun _ => ?_)
  · refine (bi_fI (hF.kd 181)).trans ?_
    rfl
  refine itc (fun _ => ?_) (fun _ => ?_)
  · refine (bi_fI (hF.kd 181)).trans ?_
    rfl
  refine itc (fun _ => ?_) (fun _ => ?_)
  · refine (bi_fI (hF.kd 181)).trans ?_
    rfl
  rfl
theorem keep_X11_count {M : Mem} {z : Int32 × Mem} {v0 : Option Nat} {v1 : Int32} (h : L_X11_count v0 v1 M = some z) : KG M z.2 := by
  unfold L_X11_count at h
  have hg : KG M M := KG.rf
  rcases itor h with h | h
  · obtain ⟨_, -, h⟩ := bnd h
    cases h; exact hg
  rcases itor h with h | h
  · obtain ⟨_, -, h⟩ := bnd h
    cases h; exact hg
  rcases itor h with h | h
  · obtain ⟨_, -, h⟩ := bnd h
    cases h; exact hg
  rcases itor h with h | h
  · obtain ⟨_, -, h⟩ := bnd h
    cases h; exact hg
  rcases itor h with h | h
  · obtain ⟨_, -, h⟩ := bnd h
    cases h; exact hg
  cases h; exact hg
