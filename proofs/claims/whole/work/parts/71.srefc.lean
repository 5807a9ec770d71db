def SJ_X11_copies_282 : Nat → Int32 → Int32 → Int32 → Mem → Option (Unit × Mem)
  | 0 => fun _ _ _ _ => none
  | n + 1 => fun v1 v2 v3 M =>
  if (1200 : Int32) ≤ v3 then
  (some ((), M))
  else
  (gd (inb (((1200 : Int32) * v1) + v3) 72000) (
  gd (inb (((1200 : Int32) * v2) + v3) 72000) (
  gd (inb (((1200 : Int32) * v1) + v3) 72000) (
  gd (inb (((1200 : Int32) * v2) + v3) 72000) (
  gd (inb (((1200 : Int32) * v1) + v3) 72000) (
  gd (inb (((1200 : Int32) * v2) + v3) 72000) (
  SJ_X11_copies_282 n v1 v2 (v3 + 1) (si (sl (si M 208 (((1200 : Int32) * v2) + v3).toNatClampNeg (gi M 208 (((1200 : Int32) * v1) + v3).toNatClampNeg)) 209 (((1200 : Int32) * v2) + v3).toNatClampNeg (gl (si M 208 (((1200 : Int32) * v2) + v3).toNatClampNeg (gi M 208 (((1200 : Int32) * v1) + v3).toNatClampNeg)) 209 (((1200 : Int32) * v1) + v3).toNatClampNeg)) 210 (((1200 : Int32) * v2) + v3).toNatClampNeg (gi (sl (si M 208 (((1200 : Int32) * v2) + v3).toNatClampNeg (gi M 208 (((1200 : Int32) * v1) + v3).toNatClampNeg)) 209 (((1200 : Int32) * v2) + v3).toNatClampNeg (gl (si M 208 (((1200 : Int32) * v2) + v3).toNatClampNeg (gi M 208 (((1200 : Int32) * v1) + v3).toNatClampNeg)) 209 (((1200 : Int32) * v1) + v3).toNatClampNeg)) 210 (((1200 : Int32) * v1) + v3).toNatClampNeg)))))))))
theorem eqJ_X11_copies_282 : ∀ (n : Nat) (v1 : Int32) (v2 : Int32) (v3 : Int32) (M : Mem), FSR M → J_X11_copies_282 n (some 181) v1 v2 v3 M = SJ_X11_copies_282 n v1 v2 v3 M := by
  intro n
  induction n with
  | zero => intro v1 v2 v3 M hF; rfl
  | succ n ih =>
    intro v1 v2 v3 M hF
    unfold J_X11_copies_282 SJ_X11_copies_282
    refine itc (fun _ => ?_) (fun _ => ?_)
    · rfl
    · refine (bi_fR (hF.kd 181) (hF.gr 50)).trans ?_
      refine (bi_fR (hF.kd 181) (hF.gr 50)).trans ?_
      refine (bi_aI (hF.kd 208) (hF.ln 208)).trans ?_
      refine gd_congr (fun _ => ?_)
      refine (bi_uI (hF.kd 208) (hF.ln 208)).trans ?_
      refine gd_congr (fun _ => ?_)
      have hF : FSR (si M 208 (((1200 : Int32) * v2) + v3).toNatClampNeg (gi M 208 (((1200 : Int32) * v1) + v3).toNatClampNeg)) := hF.kg ⟨rfl, rfl, rfl⟩
      refine (bi_fR (hF.kd 181) (hF.gr 51)).trans ?_
      refine (bi_fR (hF.kd 181) (hF.gr 51)).trans ?_
      refine (bi_aL (hF.kd 209) (hF.ln 209)).trans ?_
      refine gd_congr (fun _ => ?_)
      refine (bi_uL (hF.kd 209) (hF.ln 209)).trans ?_
      refine gd_congr (fun _ => ?_)
      have hF : FSR (sl (si M 208 (((1200 : Int32) * v2) + v3).toNatClampNeg (gi M 208 (((1200 : Int32) * v1) + v3).toNatClampNeg)) 209 (((1200 : Int32) * v2) + v3).toNatClampNeg (gl (si M 208 (((1200 : Int32) * v2) + v3).toNatClampNeg (gi M 208 (((1200 : Int32) * v1) + v3).toNatClampNeg)) 209 (((1200 : Int32) * v1) + v3).toNatClampNeg)) := hF.kg ⟨rfl, rfl, rfl⟩
      refine (bi_fR (hF.kd 181) (hF.gr 52)).trans ?_
      refine (bi_fR (hF.kd 181) (hF.gr 52)).trans ?_
      refine (bi_aI (hF.kd 210) (hF.ln 210)).trans ?_
      refine gd_congr (fun _ => ?_)
      refine (bi_uI (hF.kd 210) (hF.ln 210)).trans ?_
      refine gd_congr (fun _ => ?_)
      have hF : FSR (si (sl (si M 208 (((1200 : Int32) * v2) + v3).toNatClampNeg (gi M 208 (((1200 : Int32) * v1) + v3).toNatClampNeg)) 209 (((1200 : Int32) * v2) + v3).toNatClampNeg (gl (si M 208 (((1200 : Int32) * v2) + v3).toNatClampNeg (gi M 208 (((1200 : Int32) * v1) + v3).toNatClampNeg)) 209 (((1200 : Int32) * v1) + v3).toNatClampNeg)) 210 (((1200 : Int32) * v2) + v3).toNatClampNeg (gi (sl (si M 208 (((1200 : Int32) * v2) + v3).toNatClampNeg (gi M 208 (((1200 : Int32) * v1) + v3).toNatClampNeg)) 209 (((1200 : Int32) * v2) + v3).toNatClampNeg (gl (si M 208 (((1200 : Int32) * v2) + v3).toNatClampNeg (gi M 208 (((1200 : Int32) * v1) + v3).toNatClampNeg)) 209 (((1200 : Int32) * v1) + v3).toNatClampNeg)) 210 (((1200 : Int32) * v1) + v3).toNatClampNeg)) := hF.kg ⟨rfl, rfl, rfl⟩
      exact ih _ _ _ _ hF
theorem keepJ_X11_copies_282 {z : Unit × Mem} : ∀ (n : Nat) (v0 : Option Nat) (v1 : Int32) (v2 : Int32) (v3 : Int32) (M : Mem), J_X11_copies_282 n v0 v1 v2 v3 M = some z → KG M z.2 := by
  intro n
  induction n with
  | zero => intro v0 v1 v2 v3 M h; exact nomatch h
  | succ n ih =>
    intro v0 v1 v2 v3 M h
    unfold J_X11_copies_282 at h
    have hg : KG M M := KG.rf
    rcases itor h with h | h
    · cases h; exact hg
    · obtain ⟨_, -, h⟩ := bnd h
      obtain ⟨_, -, h⟩ := bnd h
      obtain ⟨_, -, h⟩ := bnd h
      obtain ⟨_, hw, h⟩ := bnd h
      have hg := hg.trans (kg_uI hw)
      obtain ⟨_, -, h⟩ := bnd h
      obtain ⟨_, -, h⟩ := bnd h
      obtain ⟨_, -, h⟩ := bnd h
      obtain ⟨_, hw, h⟩ := bnd h
      have hg := hg.trans (kg_uL hw)
      obtain ⟨_, -, h⟩ := bnd h
      obtain ⟨_, -, h⟩ := bnd h
      obtain ⟨_, -, h⟩ := bnd h
      obtain ⟨_, hw, h⟩ := bnd h
      have hg := hg.trans (kg_uI hw)
      exact hg.trans (ih _ _ _ _ _ h)
def SJ_X11_copies_202 : Nat → Int32 → Int32 → Int32 → Mem → Option (Unit × Mem)
  | 0 => fun _ _ _ _ => none
  | n + 1 => fun v1 v2 v3 M =>
  if (120 : Int32) ≤ v3 then
  (SJ_X11_copies_282 FU v1 v2 (0 : Int32) M)
  else
  (gd (inb (((120 : Int32) * v1) + v3) 7200) (
  gd (inb (((120 : Int32) * v2) + v3) 7200) (
  gd (inb (((120 : Int32) * v1) + v3) 7200) (
  gd (inb (((120 : Int32) * v2) + v3) 7200) (
  gd (inb (((120 : Int32) * v1) + v3) 7200) (
  gd (inb (((120 : Int32) * v2) + v3) 7200) (
  SJ_X11_copies_202 n v1 v2 (v3 + 1) (si (si (si M 204 (((120 : Int32) * v2) + v3).toNatClampNeg (gi M 204 (((120 : Int32) * v1) + v3).toNatClampNeg)) 205 (((120 : Int32) * v2) + v3).toNatClampNeg (gi (si M 204 (((120 : Int32) * v2) + v3).toNatClampNeg (gi M 204 (((120 : Int32) * v1) + v3).toNatClampNeg)) 205 (((120 : Int32) * v1) + v3).toNatClampNeg)) 206 (((120 : Int32) * v2) + v3).toNatClampNeg (gi (si (si M 204 (((120 : Int32) * v2) + v3).toNatClampNeg (gi M 204 (((120 : Int32) * v1) + v3).toNatClampNeg)) 205 (((120 : Int32) * v2) + v3).toNatClampNeg (gi (si M 204 (((120 : Int32) * v2) + v3).toNatClampNeg (gi M 204 (((120 : Int32) * v1) + v3).toNatClampNeg)) 205 (((120 : Int32) * v1) + v3).toNatClampNeg)) 206 (((120 : Int32) * v1) + v3).toNatClampNeg)))))))))
theorem eqJ_X11_copies_202 : ∀ (n : Nat) (v1 : Int32) (v2 : Int32) (v3 : Int32) (M : Mem), FSR M → J_X11_copies_202 n (some 181) v1 v2 v3 M = SJ_X11_copies_202 n v1 v2 v3 M := by
  intro n
  induction n with
  | zero => intro v1 v2 v3 M hF; rfl
  | succ n ih =>
    intro v1 v2 v3 M hF
    unfold J_X11_copies_202 SJ_X11_copies_202
    refine itc (fun _ => ?_) (fun _ => ?_)
    · exact eqJ_X11_copies_282 FU _ _ _ _ hF
    · refine (bi_fR (hF.kd 181) (hF.gr 46)).trans ?_
      refine (bi_fR (hF.kd 181) (hF.gr 46)).trans ?_
      refine (bi_aI (hF.kd 204) (hF.ln 204)).trans ?_
      refine gd_congr (fun _ => ?_)
      refine (bi_uI (hF.kd 204) (hF.ln 204)).trans ?_
      refine gd_congr (fun _ => ?_)
      have hF : FSR (si M 204 (((120 : Int32) * v2) + v3).toNatClampNeg (gi M 204 (((120 : Int32) * v1) + v3).toNatClampNeg)) := hF.kg ⟨rfl, rfl, rfl⟩
      refine (bi_fR (hF.kd 181) (hF.gr 47)).trans ?_
      refine (bi_fR (hF.kd 181) (hF.gr 47)).trans ?_
      refine (bi_aI (hF.kd 205) (hF.ln 205)).trans ?_
      refine gd_congr (fun _ => ?_)
      refine (bi_uI (hF.kd 205) (hF.ln 205)).trans ?_
      refine gd_congr (fun _ => ?_)
      have hF : FSR (si (si M 204 (((120 : Int32) * v2) + v3).toNatClampNeg (gi M 204 (((120 : Int32) * v1) + v3).toNatClampNeg)) 205 (((120 : Int32) * v2) + v3).toNatClampNeg (gi (si M 204 (((120 : Int32) * v2) + v3).toNatClampNeg (gi M 204 (((120 : Int32) * v1) + v3).toNatClampNeg)) 205 (((120 : Int32) * v1) + v3).toNatClampNeg)) := hF.kg ⟨rfl, rfl, rfl⟩
      refine (bi_fR (hF.kd 181) (hF.gr 48)).trans ?_
      refine (bi_fR (hF.kd 181) (hF.gr 48)).trans ?_
      refine (bi_aI (hF.kd 206) (hF.ln 206)).trans ?_
      refine gd_congr (fun _ => ?_)
      refine (bi_uI (hF.kd 206) (hF.ln 206)).trans ?_
      refine gd_congr (fun _ => ?_)
      have hF : FSR (si (si (si M 204 (((120 : Int32) * v2) + v3).toNatClampNeg (gi M 204 (((120 : Int32) * v1) + v3).toNatClampNeg)) 205 (((120 : Int32) * v2) + v3).toNatClampNeg (gi (si M 204 (((120 : Int32) * v2) + v3).toNatClampNeg (gi M 204 (((120 : Int32) * v1) + v3).toNatClampNeg)) 205 (((120 : Int32) * v1) + v3).toNatClampNeg)) 206 (((120 : Int32) * v2) + v3).toNatClampNeg (gi (si (si M 204 (((120 : Int32) * v2) + v3).toNatClampNeg (gi M 204 (((120 : Int32) * v1) + v3).toNatClampNeg)) 205 (((120 : Int32) * v2) + v3).toNatClampNeg (gi (si M 204 (((120 : Int32) * v2) + v3).toNatClampNeg (gi M 204 (((120 : Int32) * v1) + v3).toNatClampNeg)) 205 (((120 : Int32) * v1) + v3).toNatClampNeg)) 206 (((120 : Int32) * v1) + v3).toNatClampNeg)) := hF.kg ⟨rfl, rfl, rfl⟩
      exact ih _ _ _ _ hF
theorem keepJ_X11_copies_202 {z : Unit × Mem} : ∀ (n : Nat) (v0 : Option Nat) (v1 : Int32) (v2 : Int32) (v3 : Int32) (M : Mem), J_X11_copies_202 n v0 v1 v2 v3 M = some z → KG M z.2 := by
  intro n
  induction n with
  | zero => intro v0 v1 v2 v3 M h; exact nomatch h
  | succ n ih =>
    intro v0 v1 v2 v3 M h
    unfold J_X11_copies_202 at h
    have hg : KG M M := KG.rf
    rcases itor h with h | h
    · exact hg.trans (keepJ_X11_copies_282 FU _ _ _ _ _ h)
    · obtain ⟨_, -, h⟩ := bnd h
      obtain ⟨_, -, h⟩ := bnd h
      obtain ⟨_, -, h⟩ := bnd h
      obtain ⟨_, hw, h⟩ := bnd h
      have hg := hg.trans (kg_uI hw)
      obtain ⟨_, -, h⟩ := bnd h
      obtain ⟨_, -, h⟩ := bnd h
      obtain ⟨_, -, h⟩ := bnd h
      obtain ⟨_, hw, h⟩ := bnd h
      have hg := hg.trans (kg_uI hw)
      obtain ⟨_, -, h⟩ := bnd h
      obtain ⟨_, -, h⟩ := bnd h
      obtain ⟨_, -, h⟩ := bnd h
      obtain ⟨_, hw, h⟩ := bnd h
      have hg := hg.trans (kg_uI hw)
      exact hg.trans (ih _ _ _ _ _ h)
def SJ_X11_copies_144 : Nat → Int32 → Int32 → Int32 → Mem → Option (Unit × Mem)
  | 0 => fun _ _ _ _ => none
  | n + 1 => fun v1 v2 v3 M =>
  if (6 : Int32) ≤ v3 then
  (SJ_X11_copies_202 FU v1 v2 (0 : Int32) M)
  else
  (gd (inb (((6 : Int32) * v1) + v3) 360) (
  gd (inb (((6 : Int32) * v2) + v3) 360) (
  gd (inb (((6 : Int32) * v1) + v3) 360) (
  gd (inb (((6 : Int32) * v2) + v3) 360) (
  SJ_X11_copies_144 n v1 v2 (v3 + 1) (si (sl M 201 (((6 : Int32) * v2) + v3).toNatClampNeg (gl M 201 (((6 : Int32) * v1) + v3).toNatClampNeg)) 202 (((6 : Int32) * v2) + v3).toNatClampNeg (gi (sl M 201 (((6 : Int32) * v2) + v3).toNatClampNeg (gl M 201 (((6 : Int32) * v1) + v3).toNatClampNeg)) 202 (((6 : Int32) * v1) + v3).toNatClampNeg)))))))
theorem eqJ_X11_copies_144 : ∀ (n : Nat) (v1 : Int32) (v2 : Int32) (v3 : Int32) (M : Mem), FSR M → J_X11_copies_144 n (some 181) v1 v2 v3 M = SJ_X11_copies_144 n v1 v2 v3 M := by
  intro n
  induction n with
  | zero => intro v1 v2 v3 M hF; rfl
  | succ n ih =>
    intro v1 v2 v3 M hF
    unfold J_X11_copies_144 SJ_X11_copies_144
    refine itc (fun _ => ?_) (fun _ => ?_)
    · exact eqJ_X11_copies_202 FU _ _ _ _ hF
    · refine (bi_fR (hF.kd 181) (hF.gr 43)).trans ?_
      refine (bi_fR (hF.kd 181) (hF.gr 43)).trans ?_
      refine (bi_aL (hF.kd 201) (hF.ln 201)).trans ?_
      refine gd_congr (fun _ => ?_)
      refine (bi_uL (hF.kd 201) (hF.ln 201)).trans ?_
      refine gd_congr (fun _ => ?_)
      have hF : FSR (sl M 201 (((6 : Int32) * v2) + v3).toNatClampNeg (gl M 201 (((6 : Int32) * v1) + v3).toNatClampNeg)) := hF.kg ⟨rfl, rfl, rfl⟩
      refine (bi_fR (hF.kd 181) (hF.gr 44)).trans ?_
      refine (bi_fR (hF.kd 181) (hF.gr 44)).trans ?_
      refine (bi_aI (hF.kd 202) (hF.ln 202)).trans ?_
      refine gd_congr (fun _ => ?_)
      refine (bi_uI (hF.kd 202) (hF.ln 202)).trans ?_
      refine gd_congr (fun _ => ?_)
      have hF : FSR (si (sl M 201 (((6 : Int32) * v2) + v3).toNatClampNeg (gl M 201 (((6 : Int32) * v1) + v3).toNatClampNeg)) 202 (((6 : Int32) * v2) + v3).toNatClampNeg (gi (sl M 201 (((6 : Int32) * v2) + v3).toNatClampNeg (gl M 201 (((6 : Int32) * v1) + v3).toNatClampNeg)) 202 (((6 : Int32) * v1) + v3).toNatClampNeg)) := hF.kg ⟨rfl, rfl, rfl⟩
      exact ih _ _ _ _ hF
theorem keepJ_X11_copies_144 {z : Unit × Mem} : ∀ (n : Nat) (v0 : Option Nat) (v1 : Int32) (v2 : Int32) (v3 : Int32) (M : Mem), J_X11_copies_144 n v0 v1 v2 v3 M = some z → KG M z.2 := by
  intro n
  induction n with
  | zero => intro v0 v1 v2 v3 M h; exact nomatch h
  | succ n ih =>
    intro v0 v1 v2 v3 M h
    unfold J_X11_copies_144 at h
    have hg : KG M M := KG.rf
    rcases itor h with h | h
    · exact hg.trans (keepJ_X11_copies_202 FU _ _ _ _ _ h)
    · obtain ⟨_, -, h⟩ := bnd h
      obtain ⟨_, -, h⟩ := bnd h
      obtain ⟨_, -, h⟩ := bnd h
      obtain ⟨_, hw, h⟩ := bnd h
      have hg := hg.trans (kg_uL hw)
      obtain ⟨_, -, h⟩ := bnd h
      obtain ⟨_, -, h⟩ := bnd h
      obtain ⟨_, -, h⟩ := bnd h
      obtain ⟨_, hw, h⟩ := bnd h
      have hg := hg.trans (kg_uI hw)
      exact hg.trans (ih _ _ _ _ _ h)
def SJ_X11_copies_86 : Nat → Int32 → Int32 → Int32 → Mem → Option (Unit × Mem)
  | 0 => fun _ _ _ _ => none
  | n + 1 => fun v1 v2 v3 M =>
  if (8 : Int32) ≤ v3 then
  (SJ_X11_copies_144 FU v1 v2 (0 : Int32) M)
  else
  (gd (inb (((8 : Int32) * v1) + v3) 480) (
  gd (inb (((8 : Int32) * v2) + v3) 480) (
  gd (inb (((8 : Int32) * v1) + v3) 480) (
  gd (inb (((8 : Int32) * v2) + v3) 480) (
  SJ_X11_copies_86 n v1 v2 (v3 + 1) (si (sl M 198 (((8 : Int32) * v2) + v3).toNatClampNeg (gl M 198 (((8 : Int32) * v1) + v3).toNatClampNeg)) 199 (((8 : Int32) * v2) + v3).toNatClampNeg (gi (sl M 198 (((8 : Int32) * v2) + v3).toNatClampNeg (gl M 198 (((8 : Int32) * v1) + v3).toNatClampNeg)) 199 (((8 : Int32) * v1) + v3).toNatClampNeg)))))))
theorem eqJ_X11_copies_86 : ∀ (n : Nat) (v1 : Int32) (v2 : Int32) (v3 : Int32) (M : Mem), FSR M → J_X11_copies_86 n (some 181) v1 v2 v3 M = SJ_X11_copies_86 n v1 v2 v3 M := by
  intro n
  induction n with
  | zero => intro v1 v2 v3 M hF; rfl
  | succ n ih =>
    intro v1 v2 v3 M hF
    unfold J_X11_copies_86 SJ_X11_copies_86
    refine itc (fun _ => ?_) (fun _ => ?_)
    · exact eqJ_X11_copies_144 FU _ _ _ _ hF
    · refine (bi_fR (hF.kd 181) (hF.gr 40)).trans ?_
      refine (bi_fR (hF.kd 181) (hF.gr 40)).trans ?_
      refine (bi_aL (hF.kd 198) (hF.ln 198)).trans ?_
      refine gd_congr (fun _ => ?_)
      refine (bi_uL (hF.kd 198) (hF.ln 198)).trans ?_
      refine gd_congr (fun _ => ?_)
      have hF : FSR (sl M 198 (((8 : Int32) * v2) + v3).toNatClampNeg (gl M 198 (((8 : Int32) * v1) + v3).toNatClampNeg)) := hF.kg ⟨rfl, rfl, rfl⟩
      refine (bi_fR (hF.kd 181) (hF.gr 41)).trans ?_
      refine (bi_fR (hF.kd 181) (hF.gr 41)).trans ?_
      refine (bi_aI (hF.kd 199) (hF.ln 199)).trans ?_
      refine gd_congr (fun _ => ?_)
      refine (bi_uI (hF.kd 199) (hF.ln 199)).trans ?_
      refine gd_congr (fun _ => ?_)
      have hF : FSR (si (sl M 198 (((8 : Int32) * v2) + v3).toNatClampNeg (gl M 198 (((8 : Int32) * v1) + v3).toNatClampNeg)) 199 (((8 : Int32) * v2) + v3).toNatClampNeg (gi (sl M 198 (((8 : Int32) * v2) + v3).toNatClampNeg (gl M 198 (((8 : Int32) * v1) + v3).toNatClampNeg)) 199 (((8 : Int32) * v1) + v3).toNatClampNeg)) := hF.kg ⟨rfl, rfl, rfl⟩
      exact ih _ _ _ _ hF
theorem keepJ_X11_copies_86 {z : Unit × Mem} : ∀ (n : Nat) (v0 : Option Nat) (v1 : Int32) (v2 : Int32) (v3 : Int32) (M : Mem), J_X11_copies_86 n v0 v1 v2 v3 M = some z → KG M z.2 := by
  intro n
  induction n with
  | zero => intro v0 v1 v2 v3 M h; exact nomatch h
  | succ n ih =>
    intro v0 v1 v2 v3 M h
    unfold J_X11_copies_86 at h
    have hg : KG M M := KG.rf
    rcases itor h with h | h
    · exact hg.trans (keepJ_X11_copies_144 FU _ _ _ _ _ h)
    · obtain ⟨_, -, h⟩ := bnd h
      obtain ⟨_, -, h⟩ := bnd h
      obtain ⟨_, -, h⟩ := bnd h
      obtain ⟨_, hw, h⟩ := bnd h
      have hg := hg.trans (kg_uL hw)
      obtain ⟨_, -, h⟩ := bnd h
      obtain ⟨_, -, h⟩ := bnd h
      obtain ⟨_, -, h⟩ := bnd h
      obtain ⟨_, hw, h⟩ := bnd h
      have hg := hg.trans (kg_uI hw)
      exact hg.trans (ih _ _ _ _ _ h)
def S_X11_copies (v1 : Int32) (M : Mem) : Option (Unit × Mem) :=
  gd (inb ((30 : Int32) + v1) 60) (
  gd (inb v1 60) (
  gd (inb ((30 : Int32) + v1) 60) (
  gd (inb v1 60) (
  gd (inb ((30 : Int32) + v1) 60) (
  gd (inb v1 60) (
  gd (inb ((30 : Int32) + v1) 60) (
  gd (inb v1 60) (
  gd (inb ((30 : Int32) + v1) 60) (
  gd (inb v1 60) (
  gd (inb ((30 : Int32) + v1) 60) (
  gd (inb v1 60) (
  gd (inb ((30 : Int32) + v1) 60) (
  SJ_X11_copies_86 FU v1 ((30 : Int32) + v1) (0 : Int32) (si (si (si (si (si (si (si M 194 ((30 : Int32) + v1).toNatClampNeg (vp_nar (aty 24) (1 : Int32))) 195 ((30 : Int32) + v1).toNatClampNeg (gi (si M 194 ((30 : Int32) + v1).toNatClampNeg (vp_nar (aty 24) (1 : Int32))) 195 v1.toNatClampNeg)) 196 ((30 : Int32) + v1).toNatClampNeg (gi (si (si M 194 ((30 : Int32) + v1).toNatClampNeg (vp_nar (aty 24) (1 : Int32))) 195 ((30 : Int32) + v1).toNatClampNeg (gi (si M 194 ((30 : Int32) + v1).toNatClampNeg (vp_nar (aty 24) (1 : Int32))) 195 v1.toNatClampNeg)) 196 v1.toNatClampNeg)) 197 ((30 : Int32) + v1).toNatClampNeg (gi (si (si (si M 194 ((30 : Int32) + v1).toNatClampNeg (vp_nar (aty 24) (1 : Int32))) 195 ((30 : Int32) + v1).toNatClampNeg (gi (si M 194 ((30 : Int32) + v1).toNatClampNeg (vp_nar (aty 24) (1 : Int32))) 195 v1.toNatClampNeg)) 196 ((30 : Int32) + v1).toNatClampNeg (gi (si (si M 194 ((30 : Int32) + v1).toNatClampNeg (vp_nar (aty 24) (1 : Int32))) 195 ((30 : Int32) + v1).toNatClampNeg (gi (si M 194 ((30 : Int32) + v1).toNatClampNeg (vp_nar (aty 24) (1 : Int32))) 195 v1.toNatClampNeg)) 196 v1.toNatClampNeg)) 197 v1.toNatClampNeg)) 200 ((30 : Int32) + v1).toNatClampNeg (gi (si (si (si (si M 194 ((30 : Int32) + v1).toNatClampNeg (vp_nar (aty 24) (1 : Int32))) 195 ((30 : Int32) + v1).toNatClampNeg (gi (si M 194 ((30 : Int32) + v1).toNatClampNeg (vp_nar (aty 24) (1 : Int32))) 195 v1.toNatClampNeg)) 196 ((30 : Int32) + v1).toNatClampNeg (gi (si (si M 194 ((30 : Int32) + v1).toNatClampNeg (vp_nar (aty 24) (1 : Int32))) 195 ((30 : Int32) + v1).toNatClampNeg (gi (si M 194 ((30 : Int32) + v1).toNatClampNeg (vp_nar (aty 24) (1 : Int32))) 195 v1.toNatClampNeg)) 196 v1.toNatClampNeg)) 197 ((30 : Int32) + v1).toNatClampNeg (gi (si (si (si M 194 ((30 : Int32) + v1).toNatClampNeg (vp_nar (aty 24) (1 : Int32))) 195 ((30 : Int32) + v1).toNatClampNeg (gi (si M 194 ((30 : Int32) + v1).toNatClampNeg (vp_nar (aty 24) (1 : Int32))) 195 v1.toNatClampNeg)) 196 ((30 : Int32) + v1).toNatClampNeg (gi (si (si M 194 ((30 : Int32) + v1).toNatClampNeg (vp_nar (aty 24) (1 : Int32))) 195 ((30 : Int32) + v1).toNatClampNeg (gi (si M 194 ((30 : Int32) + v1).toNatClampNeg (vp_nar (aty 24) (1 : Int32))) 195 v1.toNatClampNeg)) 196 v1.toNatClampNeg)) 197 v1.toNatClampNeg)) 200 v1.toNatClampNeg)) 203 ((30 : Int32) + v1).toNatClampNeg (gi (si (si (si (si (si M 194 ((30 : Int32) + v1).toNatClampNeg (vp_nar (aty 24) (1 : Int32))) 195 ((30 : Int32) + v1).toNatClampNeg (gi (si M 194 ((30 : Int32) + v1).toNatClampNeg (vp_nar (aty 24) (1 : Int32))) 195 v1.toNatClampNeg)) 196 ((30 : Int32) + v1).toNatClampNeg (gi (si (si M 194 ((30 : Int32) + v1).toNatClampNeg (vp_nar (aty 24) (1 : Int32))) 195 ((30 : Int32) + v1).toNatClampNeg (gi (si M 194 ((30 : Int32) + v1).toNatClampNeg (vp_nar (aty 24) (1 : Int32))) 195 v1.toNatClampNeg)) 196 v1.toNatClampNeg)) 197 ((30 : Int32) + v1).toNatClampNeg (gi (si (si (si M 194 ((30 : Int32) + v1).toNatClampNeg (vp_nar (aty 24) (1 : Int32))) 195 ((30 : Int32) + v1).toNatClampNeg (gi (si M 194 ((30 : Int32) + v1).toNatClampNeg (vp_nar (aty 24) (1 : Int32))) 195 v1.toNatClampNeg)) 196 ((30 : Int32) + v1).toNatClampNeg (gi (si (si M 194 ((30 : Int32) + v1).toNatClampNeg (vp_nar (aty 24) (1 : Int32))) 195 ((30 : Int32) + v1).toNatClampNeg (gi (si M 194 ((30 : Int32) + v1).toNatClampNeg (vp_nar (aty 24) (1 : Int32))) 195 v1.toNatClampNeg)) 196 v1.toNatClampNeg)) 197 v1.toNatClampNeg)) 200 ((30 : Int32) + v1).toNatClampNeg (gi (si (si (si (si M 194 ((30 : Int32) + v1).toNatClampNeg (vp_nar (aty 24) (1 : Int32))) 195 ((30 : Int32) + v1).toNatClampNeg (gi (si M 194 ((30 : Int32) + v1).toNatClampNeg (vp_nar (aty 24) (1 : Int32))) 195 v1.toNatClampNeg)) 196 ((30 : Int32) + v1).toNatClampNeg (gi (si (si M 194 ((30 : Int32) + v1).toNatClampNeg (vp_nar (aty 24) (1 : Int32))) 195 ((30 : Int32) + v1).toNatClampNeg (gi (si M 194 ((30 : Int32) + v1).toNatClampNeg (vp_nar (aty 24) (1 : Int32))) 195 v1.toNatClampNeg)) 196 v1.toNatClampNeg)) 197 ((30 : Int32) + v1).toNatClampNeg (gi (si (si (si M 194 ((30 : Int32) + v1).toNatClampNeg (vp_nar (aty 24) (1 : Int32))) 195 ((30 : Int32) + v1).toNatClampNeg (gi (si M 194 ((30 : Int32) + v1).toNatClampNeg (vp_nar (aty 24) (1 : Int32))) 195 v1.toNatClampNeg)) 196 ((30 : Int32) + v1).toNatClampNeg (gi (si (si M 194 ((30 : Int32) + v1).toNatClampNeg (vp_nar (aty 24) (1 : Int32))) 195 ((30 : Int32) + v1).toNatClampNeg (gi (si M 194 ((30 : Int32) + v1).toNatClampNeg (vp_nar (aty 24) (1 : Int32))) 195 v1.toNatClampNeg)) 196 v1.toNatClampNeg)) 197 v1.toNatClampNeg)) 200 v1.toNatClampNeg)) 203 v1.toNatClampNeg)) 207 ((30 : Int32) + v1).toNatClampNeg (gi (si (si (si (si (si (si M 194 ((30 : Int32) + v1).toNatClampNeg (vp_nar (aty 24) (1 : Int32))) 195 ((30 : Int32) + v1).toNatClampNeg (gi (si M 194 ((30 : Int32) + v1).toNatClampNeg (vp_nar (aty 24) (1 : Int32))) 195 v1.toNatClampNeg)) 196 ((30 : Int32) + v1).toNatClampNeg (gi (si (si M 194 ((30 : Int32) + v1).toNatClampNeg (vp_nar (aty 24) (1 : Int32))) 195 ((30 : Int32) + v1).toNatClampNeg (gi (si M 194 ((30 : Int32) + v1).toNatClampNeg (vp_nar (aty 24) (1 : Int32))) 195 v1.toNatClampNeg)) 196 v1.toNatClampNeg)) 197 ((30 : Int32) + v1).toNatClampNeg (gi (si (si (si M 194 ((30 : Int32) + v1).toNatClampNeg (vp_nar (aty 24) (1 : Int32))) 195 ((30 : Int32) + v1).toNatClampNeg (gi (si M 194 ((30 : Int32) + v1).toNatClampNeg (vp_nar (aty 24) (1 : Int32))) 195 v1.toNatClampNeg)) 196 ((30 : Int32) + v1).toNatClampNeg (gi (si (si M 194 ((30 : Int32) + v1).toNatClampNeg (vp_nar (aty 24) (1 : Int32))) 195 ((30 : Int32) + v1).toNatClampNeg (gi (si M 194 ((30 : Int32) + v1).toNatClampNeg (vp_nar (aty 24) (1 : Int32))) 195 v1.toNatClampNeg)) 196 v1.toNatClampNeg)) 197 v1.toNatClampNeg)) 200 ((30 : Int32) + v1).toNatClampNeg (gi (si (si (si (si M 194 ((30 : Int32) + v1).toNatClampNeg (vp_nar (aty 24) (1 : Int32))) 195 ((30 : Int32) + v1).toNatClampNeg (gi (si M 194 ((30 : Int32) + v1).toNatClampNeg (vp_nar (aty 24) (1 : Int32))) 195 v1.toNatClampNeg)) 196 ((30 : Int32) + v1).toNatClampNeg (gi (si (si M 194 ((30 : Int32) + v1).toNatClampNeg (vp_nar (aty 24) (1 : Int32))) 195 ((30 : Int32) + v1).toNatClampNeg (gi (si M 194 ((30 : Int32) + v1).toNatClampNeg (vp_nar (aty 24) (1 : Int32))) 195 v1.toNatClampNeg)) 196 v1.toNatClampNeg)) 197 ((30 : Int32) + v1).toNatClampNeg (gi (si (si (si M 194 ((30 : Int32) + v1).toNatClampNeg (vp_nar (aty 24) (1 : Int32))) 195 ((30 : Int32) + v1).toNatClampNeg (gi (si M 194 ((30 : Int32) + v1).toNatClampNeg (vp_nar (aty 24) (1 : Int32))) 195 v1.toNatClampNeg)) 196 ((30 : Int32) + v1).toNatClampNeg (gi (si (si M 194 ((30 : Int32) + v1).toNatClampNeg (vp_nar (aty 24) (1 : Int32))) 195 ((30 : Int32) + v1).toNatClampNeg (gi (si M 194 ((30 : Int32) + v1).toNatClampNeg (vp_nar (aty 24) (1 : Int32))) 195 v1.toNatClampNeg)) 196 v1.toNatClampNeg)) 197 v1.toNatClampNeg)) 200 v1.toNatClampNeg)) 203 ((30 : Int32) + v1).toNatClampNeg (gi (si (si (si (si (si M 194 ((30 : Int32) + v1).toNatClampNeg (vp_nar (aty 24) (1 : Int32))) 195 ((30 : Int32) + v1).toNatClampNeg (gi (si M 194 ((30 : Int32) + v1).toNatClampNeg (vp_nar (aty 24) (1 : Int32))) 195 v1.toNatClampNeg)) 196 ((30 : Int32) + v1).toNatClampNeg (gi (si (si M 194 ((30 : Int32) + v1).toNatClampNeg (vp_nar (aty 24) (1 : Int32))) 195 ((30 : Int32) + v1).toNatClampNeg (gi (si M 194 ((30 : Int32) + v1).toNatClampNeg (vp_nar (aty 24) (1 : Int32))) 195 v1.toNatClampNeg)) 196 v1.toNatClampNeg)) 197 ((30 : Int32) + v1).toNatClampNeg (gi (si (si (si M 194 ((30 : Int32) + v1).toNatClampNeg (vp_nar (aty 24) (1 : Int32))) 195 ((30 : Int32) + v1).toNatClampNeg (gi (si M 194 ((30 : Int32) + v1).toNatClampNeg (vp_nar (aty 24) (1 : Int32))) 195 v1.toNatClampNeg)) 196 ((30 : Int32) + v1).toNatClampNeg (gi (si (si M 194 ((30 : Int32) + v1).toNatClampNeg (vp_nar (aty 24) (1 : Int32))) 195 ((30 : Int32) + v1).toNatClampNeg (gi (si M 194 ((30 : Int32) + v1).toNatClampNeg (vp_nar (aty 24) (1 : Int32))) 195 v1.toNatClampNeg)) 196 v1.toNatClampNeg)) 197 v1.toNatClampNeg)) 200 ((30 : Int32) + v1).toNatClampNeg (gi (si (si (si (si M 194 ((30 : Int32) + v1).toNatClampNeg (vp_nar (aty 24) (1 : Int32))) 195 ((30 : Int32) + v1).toNatClampNeg (gi (si M 194 ((30 : Int32) + v1).toNatClampNeg (vp_nar (aty 24) (1 : Int32))) 195 v1.toNatClampNeg)) 196 ((30 : Int32) + v1).toNatClampNeg (gi (si (si M 194 ((30 : Int32) + v1).toNatClampNeg (vp_nar (aty 24) (1 : Int32))) 195 ((30 : Int32) + v1).toNatClampNeg (gi (si M 194 ((30 : Int32) + v1).toNatClampNeg (vp_nar (aty 24) (1 : Int32))) 195 v1.toNatClampNeg)) 196 v1.toNatClampNeg)) 197 ((30 : Int32) + v1).toNatClampNeg (gi (si (si (si M 194 ((30 : Int32) + v1).toNatClampNeg (vp_nar (aty 24) (1 : Int32))) 195 ((30 : Int32) + v1).toNatClampNeg (gi (si M 194 ((30 : Int32) + v1).toNatClampNeg (vp_nar (aty 24) (1 : Int32))) 195 v1.toNatClampNeg)) 196 ((30 : Int32) + v1).toNatClampNeg (gi (si (si M 194 ((30 : Int32) + v1).toNatClampNeg (vp_nar (aty 24) (1 : Int32))) 195 ((30 : Int32) + v1).toNatClampNeg (gi (si M 194 ((30 : Int32) + v1).toNatClampNeg (vp_nar (aty 24) (1 : Int32))) 195 v1.toNatClampNeg)) 196 v1.toNatClampNeg)) 197 v1.toNatClampNeg)) 200 v1.toNatClampNeg)) 203 v1.toNatClampNeg)) 207 v1.toNatClampNeg)))))))))))))))
theorem eqS_X11_copies {M : Mem} (hF : FSR M) {v1 : Int32} : L_X11_copies (some 181) v1 M = S_X11_copies v1 M := by
  unfold L_X11_copies S_X11_copies
  refine (bi_fR (hF.kd 181) (hF.gr 36)).trans ?_
  refine (bi_uN (hF.kd 194) (hF.ln 194)).trans ?_
  refine gd_congr (fun _ => ?_)
  have hF : FSR (si M 194 ((30 : Int32) + v1).toNatClampNeg (vp_nar (aty 24) (1 : Int32))) := hF.kg ⟨rfl, rfl, rfl⟩
  refine (bi_fR (hF.kd 181) (hF.gr 37)).trans ?_
  refine (bi_fR (hF.kd 181) (hF.gr 37)).trans ?_
  refine (bi_aI (hF.kd 195) (hF.ln 195)).trans ?_
  refine gd_congr (fun _ => ?_)
  refine (bi_uI (hF.kd 195) (hF.ln 195)).trans ?_
  refine gd_congr (fun _ => ?_)
  have hF : FSR (si (si M 194 ((30 : Int32) + v1).toNatClampNeg (vp_nar (aty 24) (1 : Int32))) 195 ((30 : Int32) + v1).toNatClampNeg (gi (si M 194 ((30 : Int32) + v1).toNatClampNeg (vp_nar (aty 24) (1 : Int32))) 195 v1.toNatClampNeg)) := hF.kg ⟨rfl, rfl, rfl⟩
  refine (bi_fR (hF.kd 181) (hF.gr 38)).trans ?_
  refine (bi_fR (hF.kd 181) (hF.gr 38)).trans ?_
  refine (bi_aI (hF.kd 196) (hF.ln 196)).trans ?_
  refine gd_congr (fun _ => ?_)
  refine (bi_uI (hF.kd 196) (hF.ln 196)).trans ?_
  refine gd_congr (fun _ => ?_)
  have hF : FSR (si (si (si M 194 ((30 : Int32) + v1).toNatClampNeg (vp_nar (aty 24) (1 : Int32))) 195 ((30 : Int32) + v1).toNatClampNeg (gi (si M 194 ((30 : Int32) + v1).toNatClampNeg (vp_nar (aty 24) (1 : Int32))) 195 v1.toNatClampNeg)) 196 ((30 : Int32) + v1).toNatClampNeg (gi (si (si M 194 ((30 : Int32) + v1).toNatClampNeg (vp_nar (aty 24) (1 : Int32))) 195 ((30 : Int32) + v1).toNatClampNeg (gi (si M 194 ((30 : Int32) + v1).toNatClampNeg (vp_nar (aty 24) (1 : Int32))) 195 v1.toNatClampNeg)) 196 v1.toNatClampNeg)) := hF.kg ⟨rfl, rfl, rfl⟩
  refine (bi_fR (hF.kd 181) (hF.gr 39)).trans ?_
  refine (bi_fR (hF.kd 181) (hF.gr 39)).trans ?_
  refine (bi_aI (hF.kd 197) (hF.ln 197)).trans ?_
  refine gd_congr (fun _ => ?_)
  refine (bi_uI (hF.kd 197) (hF.ln 197)).trans ?_
  refine gd_congr (fun _ => ?_)
  have hF : FSR (si (si (si (si M 194 ((30 : Int32) + v1).toNatClampNeg (vp_nar (aty 24) (1 : Int32))) 195 ((30 : Int32) + v1).toNatClampNeg (gi (si M 194 ((30 : Int32) + v1).toNatClampNeg (vp_nar (aty 24) (1 : Int32))) 195 v1.toNatClampNeg)) 196 ((30 : Int32) + v1).toNatClampNeg (gi (si (si M 194 ((30 : Int32) + v1).toNatClampNeg (vp_nar (aty 24) (1 : Int32))) 195 ((30 : Int32) + v1).toNatClampNeg (gi (si M 194 ((30 : Int32) + v1).toNatClampNeg (vp_nar (aty 24) (1 : Int32))) 195 v1.toNatClampNeg)) 196 v1.toNatClampNeg)) 197 ((30 : Int32) + v1).toNatClampNeg (gi (si (si (si M 194 ((30 : Int32) + v1).toNatClampNeg (vp_nar (aty 24) (1 : Int32))) 195 ((30 : Int32) + v1).toNatClampNeg (gi (si M 194 ((30 : Int32) + v1).toNatClampNeg (vp_nar (aty 24) (1 : Int32))) 195 v1.toNatClampNeg)) 196 ((30 : Int32) + v1).toNatClampNeg (gi (si (si M 194 ((30 : Int32) + v1).toNatClampNeg (vp_nar (aty 24) (1 : Int32))) 195 ((30 : Int32) + v1).toNatClampNeg (gi (si M 194 ((30 : Int32) + v1).toNatClampNeg (vp_nar (aty 24) (1 : Int32))) 195 v1.toNatClampNeg)) 196 v1.toNatClampNeg)) 197 v1.toNatClampNeg)) := hF.kg ⟨rfl, rfl, rfl⟩
  refine (bi_fR (hF.kd 181) (hF.gr 42)).trans ?_
  refine (bi_fR (hF.kd 181) (hF.gr 42)).trans ?_
  refine (bi_aI (hF.kd 200) (hF.ln 200)).trans ?_
  refine gd_congr (fun _ => ?_)
  refine (bi_uI (hF.kd 200) (hF.ln 200)).trans ?_
  refine gd_congr (fun _ => ?_)
  have hF : FSR (si (si (si (si (si M 194 ((30 : Int32) + v1).toNatClampNeg (vp_nar (aty 24) (1 : Int32))) 195 ((30 : Int32) + v1).toNatClampNeg (gi (si M 194 ((30 : Int32) + v1).toNatClampNeg (vp_nar (aty 24) (1 : Int32))) 195 v1.toNatClampNeg)) 196 ((30 : Int32) + v1).toNatClampNeg (gi (si (si M 194 ((30 : Int32) + v1).toNatClampNeg (vp_nar (aty 24) (1 : Int32))) 195 ((30 : Int32) + v1).toNatClampNeg (gi (si M 194 ((30 : Int32) + v1).toNatClampNeg (vp_nar (aty 24) (1 : Int32))) 195 v1.toNatClampNeg)) 196 v1.toNatClampNeg)) 197 ((30 : Int32) + v1).toNatClampNeg (gi (si (si (si M 194 ((30 : Int32) + v1).toNatClampNeg (vp_nar (aty 24) (1 : Int32))) 195 ((30 : Int32) + v1).toNatClampNeg (gi (si M 194 ((30 : Int32) + v1).toNatClampNeg (vp_nar (aty 24) (1 : Int32))) 195 v1.toNatClampNeg)) 196 ((30 : Int32) + v1).toNatClampNeg (gi (si (si M 194 ((30 : Int32) + v1).toNatClampNeg (vp_nar (aty 24) (1 : Int32))) 195 ((30 : Int32) + v1).toNatClampNeg (gi (si M 194 ((30 : Int32) + v1).toNatClampNeg (vp_nar (aty 24) (1 : Int32))) 195 v1.toNatClampNeg)) 196 v1.toNatClampNeg)) 197 v1.toNatClampNeg)) 200 ((30 : Int32) + v1).toNatClampNeg (gi (si (si (si (si M 194 ((30 : Int32) + v1).toNatClampNeg (vp_nar (aty 24) (1 : Int32))) 195 ((30 : Int32) + v1).toNatClampNeg (gi (si M 194 ((30 : Int32) + v1).toNatClampNeg (vp_nar (aty 24) (1 : Int32))) 195 v1.toNatClampNeg)) 196 ((30 : Int32) + v1).toNatClampNeg (gi (si (si M 194 ((30 : Int32) + v1).toNatClampNeg (vp_nar (aty 24) (1 : Int32))) 195 ((30 : Int32) + v1).toNatClampNeg (gi (si M 194 ((30 : Int32) + v1).toNatClampNeg (vp_nar (aty 24) (1 : Int32))) 195 v1.toNatClampNeg)) 196 v1.toNatClampNeg)) 197 ((30 : Int32) + v1).toNatClampNeg (gi (si (si (si M 194 ((30 : Int32) + v1).toNatClampNeg (vp_nar (aty 24) (1 : Int32))) 195 ((30 : Int32) + v1).toNatClampNeg (gi (si M 194 ((30 : Int32) + v1).toNatClampNeg (vp_nar (aty 24) (1 : Int32))) 195 v1.toNatClampNeg)) 196 ((30 : Int32) + v1).toNatClampNeg (gi (si (si M 194 ((30 : Int32) + v1).toNatClampNeg (vp_nar (aty 24) (1 : Int32))) 195 ((30 : Int32) + v1).toNatClampNeg (gi (si M 194 ((30 : Int32) + v1).toNatClampNeg (vp_nar (aty 24) (1 : Int32))) 195 v1.toNatClampNeg)) 196 v1.toNatClampNeg)) 197 v1.toNatClampNeg)) 200 v1.toNatClampNeg)) := hF.kg ⟨rfl, rfl, rfl⟩
  refine (bi_fR (hF.kd 181) (hF.gr 45)).trans ?_
  refine (bi_fR (hF.kd 181) (hF.gr 45)).trans ?_
  refine (bi_aI (hF.kd 203) (hF.ln 203)).trans ?_
  refine gd_congr (fun _ => ?_)
  refine (bi_uI (hF.kd 203) (hF.ln 203)).trans ?_
  refine gd_congr (fun _ => ?_)
  have hF : FSR (si (si (si (si (si (si M 194 ((30 : Int32) + v1).toNatClampNeg (vp_nar (aty 24) (1 : Int32))) 195 ((30 : Int32) + v1).toNatClampNeg (gi (si M 194 ((30 : Int32) + v1).toNatClampNeg (vp_nar (aty 24) (1 : Int32))) 195 v1.toNatClampNeg)) 196 ((30 : Int32) + v1).toNatClampNeg (gi (si (si M 194 ((30 : Int32) + v1).toNatClampNeg (vp_nar (aty 24) (1 : Int32))) 195 ((30 : Int32) + v1).toNatClampNeg (gi (si M 194 ((30 : Int32) + v1).toNatClampNeg (vp_nar (aty 24) (1 : Int32))) 195 v1.toNatClampNeg)) 196 v1.toNatClampNeg)) 197 ((30 : Int32) + v1).toNatClampNeg (gi (si (si (si M 194 ((30 : Int32) + v1).toNatClampNeg (vp_nar (aty 24) (1 : Int32))) 195 ((30 : Int32) + v1).toNatClampNeg (gi (si M 194 ((30 : Int32) + v1).toNatClampNeg (vp_nar (aty 24) (1 : Int32))) 195 v1.toNatClampNeg)) 196 ((30 : Int32) + v1).toNatClampNeg (gi (si (si M 194 ((30 : Int32) + v1).toNatClampNeg (vp_nar (aty 24) (1 : Int32))) 195 ((30 : Int32) + v1).toNatClampNeg (gi (si M 194 ((30 : Int32) + v1).toNatClampNeg (vp_nar (aty 24) (1 : Int32))) 195 v1.toNatClampNeg)) 196 v1.toNatClampNeg)) 197 v1.toNatClampNeg)) 200 ((30 : Int32) + v1).toNatClampNeg (gi (si (si (si (si M 194 ((30 : Int32) + v1).toNatClampNeg (vp_nar (aty 24) (1 : Int32))) 195 ((30 : Int32) + v1).toNatClampNeg (gi (si M 194 ((30 : Int32) + v1).toNatClampNeg (vp_nar (aty 24) (1 : Int32))) 195 v1.toNatClampNeg)) 196 ((30 : Int32) + v1).toNatClampNeg (gi (si (si M 194 ((30 : Int32) + v1).toNatClampNeg (vp_nar (aty 24) (1 : Int32))) 195 ((30 : Int32) + v1).toNatClampNeg (gi (si M 194 ((30 : Int32) + v1).toNatClampNeg (vp_nar (aty 24) (1 : Int32))) 195 v1.toNatClampNeg)) 196 v1.toNatClampNeg)) 197 ((30 : Int32) + v1).toNatClampNeg (gi (si (si (si M 194 ((30 : Int32) + v1).toNatClampNeg (vp_nar (aty 24) (1 : Int32))) 195 ((30 : Int32) + v1).toNatClampNeg (gi (si M 194 ((30 : Int32) + v1).toNatClampNeg (vp_nar (aty 24) (1 : Int32))) 195 v1.toNatClampNeg)) 196 ((30 : Int32) + v1).toNatClampNeg (gi (si (si M 194 ((30 : Int32) + v1).toNatClampNeg (vp_nar (aty 24) (1 : Int32))) 195 ((30 : Int32) + v1).toNatClampNeg (gi (si M 194 ((30 : Int32) + v1).toNatClampNeg (vp_nar (aty 24) (1 : Int32))) 195 v1.toNatClampNeg)) 196 v1.toNatClampNeg)) 197 v1.toNatClampNeg)) 200 v1.toNatClampNeg)) 203 ((30 : Int32) + v1).toNatClampNeg (gi (si (si (si (si (si M 194 ((30 : Int32) + v1).toNatClampNeg (vp_nar (aty 24) (1 : Int32))) 195 ((30 : Int32) + v1).toNatClampNeg (gi (si M 194 ((30 : Int32) + v1).toNatClampNeg (vp_nar (aty 24) (1 : Int32))) 195 v1.toNatClampNeg)) 196 ((30 : Int32) + v1).toNatClampNeg (gi (si (si M 194 ((30 : Int32) + v1).toNatClampNeg (vp_nar (aty 24) (1 : Int32))) 195 ((30 : Int32) + v1).toNatClampNeg (gi (si M 194 ((30 : Int32) + v1).toNatClampNeg (vp_nar (aty 24) (1 : Int32))) 195 v1.toNatClampNeg)) 196 v1.toNatClampNeg)) 197 ((30 : Int32) + v1).toNatClampNeg (gi (si (si (si M 194 ((30 : Int32) + v1).toNatClampNeg (vp_nar (aty 24) (1 : Int32))) 195 ((30 : Int32) + v1).toNatClampNeg (gi (si M 194 ((30 : Int32) + v1).toNatClampNeg (vp_nar (aty 24) (1 : Int32))) 195 v1.toNatClampNeg)) 196 ((30 : Int32) + v1).toNatClampNeg (gi (si (si M 194 ((30 : Int32) + v1).toNatClampNeg (vp_nar (aty 24) (1 : Int32))) 195 ((30 : Int32) + v1).toNatClampNeg (gi (si M 194 ((30 : Int32) + v1).toNatClampNeg (vp_nar (aty 24) (1 : Int32))) 195 v1.toNatClampNeg)) 196 v1.toNatClampNeg)) 197 v1.toNatClampNeg)) 200 ((30 : Int32) + v1).toNatClampNeg (gi (si (si (si (si M 194 ((30 : Int32) + v1).toNatClampNeg (vp_nar (aty 24) (1 : Int32))) 195 ((30 : Int32) + v1).toNatClampNeg (gi (si M 194 ((30 : Int32) + v1).toNatClampNeg (vp_nar (aty 24) (1 : Int32))) 195 v1.toNatClampNeg)) 196 ((30 : Int32) + v1).toNatClampNeg (gi (si (si M 194 ((30 : Int32) + v1).toNatClampNeg (vp_nar (aty 24) (1 : Int32))) 195 ((30 : Int32) + v1).toNatClampNeg (gi (si M 194 ((30 : Int32) + v1).toNatClampNeg (vp_nar (aty 24) (1 : Int32))) 195 v1.toNatClampNeg)) 196 v1.toNatClampNeg)) 197 ((30 : Int32) + v1).toNatClampNeg (gi (si (si (si M 194 ((30 : Int32) + v1).toNatClampNeg (vp_nar (aty 24) (1 : Int32))) 195 ((30 : Int32) + v1).toNatClampNeg (gi (si M 194 ((30 : Int32) + v1).toNatClampNeg (vp_nar (aty 24) (1 : Int32))) 195 v1.toNatClampNeg)) 196 ((30 : Int32) + v1).toNatClampNeg (gi (si (si M 194 ((30 : Int32) + v1).toNatClampNeg (vp_nar (aty 24) (1 : Int32))) 195 ((30 : Int32) + v1).toNatClampNeg (gi (si M 194 ((30 : Int32) + v1).toNatClampNeg (vp_nar (aty 24) (1 : Int32))) 195 v1.toNatClampNeg)) 196 v1.toNatClampNeg)) 197 v1.toNatClampNeg)) 200 v1.toNatClampNeg)) 203 v1.toNatClampNeg)) := hF.kg ⟨rfl, rfl, rfl⟩
  refine (bi_fR (hF.kd 181) (hF.gr 49)).trans ?_
  refine (bi_fR (hF.kd 181) (hF.gr 49)).trans ?_
  refine (bi_aI (hF.kd 207) (hF.ln 207)).trans ?_
  refine gd_congr (fun _ => ?_)
  refine (bi_uI (hF.kd 207) (hF.ln 207)).trans ?_
  refine gd_congr (fun _ => ?_)
  have hF : FSR (si (si (si (si (si (si (si M 194 ((30 : Int32) + v1).toNatClampNeg (vp_nar (aty 24) (1 : Int32))) 195 ((30 : Int32) + v1).toNatClampNeg (gi (si M 194 ((30 : Int32) + v1).toNatClampNeg (vp_nar (aty 24) (1 : Int32))) 195 v1.toNatClampNeg)) 196 ((30 : Int32) + v1).toNatClampNeg (gi (si (si M 194 ((30 : Int32) + v1).toNatClampNeg (vp_nar (aty 24) (1 : Int32))) 195 ((30 : Int32) + v1).toNatClampNeg (gi (si M 194 ((30 : Int32) + v1).toNatClampNeg (vp_nar (aty 24) (1 : Int32))) 195 v1.toNatClampNeg)) 196 v1.toNatClampNeg)) 197 ((30 : Int32) + v1).toNatClampNeg (gi (si (si (si M 194 ((30 : Int32) + v1).toNatClampNeg (vp_nar (aty 24) (1 : Int32))) 195 ((30 : Int32) + v1).toNatClampNeg (gi (si M 194 ((30 : Int32) + v1).toNatClampNeg (vp_nar (aty 24) (1 : Int32))) 195 v1.toNatClampNeg)) 196 ((30 : Int32) + v1).toNatClampNeg (gi (si (si M 194 ((30 : Int32) + v1).toNatClampNeg (vp_nar (aty 24) (1 : Int32))) 195 ((30 : Int32) + v1).toNatClampNeg (gi (si M 194 ((30 : Int32) + v1).toNatClampNeg (vp_nar (aty 24) (1 : Int32))) 195 v1.toNatClampNeg)) 196 v1.toNatClampNeg)) 197 v1.toNatClampNeg)) 200 ((30 : Int32) + v1).toNatClampNeg (gi (si (si (si (si M 194 ((30 : Int32) + v1).toNatClampNeg (vp_nar (aty 24) (1 : Int32))) 195 ((30 : Int32) + v1).toNatClampNeg (gi (si M 194 ((30 : Int32) + v1).toNatClampNeg (vp_nar (aty 24) (1 : Int32))) 195 v1.toNatClampNeg)) 196 ((30 : Int32) + v1).toNatClampNeg (gi (si (si M 194 ((30 : Int32) + v1).toNatClampNeg (vp_nar (aty 24) (1 : Int32))) 195 ((30 : Int32) + v1).toNatClampNeg (gi (si M 194 ((30 : Int32) + v1).toNatClampNeg (vp_nar (aty 24) (1 : Int32))) 195 v1.toNatClampNeg)) 196 v1.toNatClampNeg)) 197 ((30 : Int32) + v1).toNatClampNeg (gi (si (si (si M 194 ((30 : Int32) + v1).toNatClampNeg (vp_nar (aty 24) (1 : Int32))) 195 ((30 : Int32) + v1).toNatClampNeg (gi (si M 194 ((30 : Int32) + v1).toNatClampNeg (vp_nar (aty 24) (1 : Int32))) 195 v1.toNatClampNeg)) 196 ((30 : Int32) + v1).toNatClampNeg (gi (si (si M 194 ((30 : Int32) + v1).toNatClampNeg (vp_nar (aty 24) (1 : Int32))) 195 ((30 : Int32) + v1).toNatClampNeg (gi (si M 194 ((30 : Int32) + v1).toNatClampNeg (vp_nar (aty 24) (1 : Int32))) 195 v1.toNatClampNeg)) 196 v1.toNatClampNeg)) 197 v1.toNatClampNeg)) 200 v1.toNatClampNeg)) 203 ((30 : Int32) + v1).toNatClampNeg (gi (si (si (si (si (si M 194 ((30 : Int32) + v1).toNatClampNeg (vp_nar (aty 24) (1 : Int32))) 195 ((30 : Int32) + v1).toNatClampNeg (gi (si M 194 ((30 : Int32) + v1).toNatClampNeg (vp_nar (aty 24) (1 : Int32))) 195 v1.toNatClampNeg)) 196 ((30 : Int32) + v1).toNatClampNeg (gi (si (si M 194 ((30 : Int32) + v1).toNatClampNeg (vp_nar (aty 24) (1 : Int32))) 195 ((30 : Int32) + v1).toNatClampNeg (gi (si M 194 ((30 : Int32) + v1).toNatClampNeg (vp_nar (aty 24) (1 : Int32))) 195 v1.toNatClampNeg)) 196 v1.toNatClampNeg)) 197 ((30 : Int32) + v1).toNatClampNeg (gi (si (si (si M 194 ((30 : Int32) + v1).toNatClampNeg (vp_nar (aty 24) (1 : Int32))) 195 ((30 : Int32) + v1).toNatClampNeg (gi (si M 194 ((30 : Int32) + v1).toNatClampNeg (vp_nar (aty 24) (1 : Int32))) 195 v1.toNatClampNeg)) 196 ((30 : Int32) + v1).toNatClampNeg (gi (si (si M 194 ((30 : Int32) + v1).toNatClampNeg (vp_nar (aty 24) (1 : Int32))) 195 ((30 : Int32) + v1).toNatClampNeg (gi (si M 194 ((30 : Int32) + v1).toNatClampNeg (vp_nar (aty 24) (1 : Int32))) 195 v1.toNatClampNeg)) 196 v1.toNatClampNeg)) 197 v1.toNatClampNeg)) 200 ((30 : Int32) + v1).toNatClampNeg (gi (si (si (si (si M 194 ((30 : Int32) + v1).toNatClampNeg (vp_nar (aty 24) (1 : Int32))) 195 ((30 : Int32) + v1).toNatClampNeg (gi (si M 194 ((30 : Int32) + v1).toNatClampNeg (vp_nar (aty 24) (1 : Int32))) 195 v1.toNatClampNeg)) 196 ((30 : Int32) + v1).toNatClampNeg (gi (si (si M 194 ((30 : Int32) + v1).toNatClampNeg (vp_nar (aty 24) (1 : Int32))) 195 ((30 : Int32) + v1).toNatClampNeg (gi (si M 194 ((30 : Int32) + v1).toNatClampNeg (vp_nar (aty 24) (1 : Int32))) 195 v1.toNatClampNeg)) 196 v1.toNatClampNeg)) 197 ((30 : Int32) + v1).toNatClampNeg (gi (si (si (si M 194 ((30 : Int32) + v1).toNatClampNeg (vp_nar (aty 24) (1 : Int32))) 195 ((30 : Int32) + v1).toNatClampNeg (gi (si M 194 ((30 : Int32) + v1).toNatClampNeg (vp_nar (aty 24) (1 : Int32))) 195 v1.toNatClampNeg)) 196 ((30 : Int32) + v1).toNatClampNeg (gi (si (si M 194 ((30 : Int32) + v1).toNatClampNeg (vp_nar (aty 24) (1 : Int32))) 195 ((30 : Int32) + v1).toNatClampNeg (gi (si M 194 ((30 : Int32) + v1).toNatClampNeg (vp_nar (aty 24) (1 : Int32))) 195 v1.toNatClampNeg)) 196 v1.toNatClampNeg)) 197 v1.toNatClampNeg)) 200 v1.toNatClampNeg)) 203 v1.toNatClampNeg)) 207 ((30 : Int32) + v1).toNatClampNeg (gi (si (si (si (si (si (si M 194 ((30 : Int32) + v1).toNatClampNeg (vp_nar (aty 24) (1 : Int32))) 195 ((30 : Int32) + v1).toNatClampNeg (gi (si M 194 ((30 : Int32) + v1).toNatClampNeg (vp_nar (aty 24) (1 : Int32))) 195 v1.toNatClampNeg)) 196 ((30 : Int32) + v1).toNatClampNeg (gi (si (si M 194 ((30 : Int32) + v1).toNatClampNeg (vp_nar (aty 24) (1 : Int32))) 195 ((30 : Int32) + v1).toNatClampNeg (gi (si M 194 ((30 : Int32) + v1).toNatClampNeg (vp_nar (aty 24) (1 : Int32))) 195 v1.toNatClampNeg)) 196 v1.toNatClampNeg)) 197 ((30 : Int32) + v1).toNatClampNeg (gi (si (si (si M 194 ((30 : Int32) + v1).toNatClampNeg (vp_nar (aty 24) (1 : Int32))) 195 ((30 : Int32) + v1).toNatClampNeg (gi (si M 194 ((30 : Int32) + v1).toNatClampNeg (vp_nar (aty 24) (1 : Int32))) 195 v1.toNatClampNeg)) 196 ((30 : Int32) + v1).toNatClampNeg (gi (si (si M 194 ((30 : Int32) + v1).toNatClampNeg (vp_nar (aty 24) (1 : Int32))) 195 ((30 : Int32) + v1).toNatClampNeg (gi (si M 194 ((30 : Int32) + v1).toNatClampNeg (vp_nar (aty 24) (1 : Int32))) 195 v1.toNatClampNeg)) 196 v1.toNatClampNeg)) 197 v1.toNatClampNeg)) 200 ((30 : Int32) + v1).toNatClampNeg (gi (si (si (si (si M 194 ((30 : Int32) + v1).toNatClampNeg (vp_nar (aty 24) (1 : Int32))) 195 ((30 : Int32) + v1).toNatClampNeg (gi (si M 194 ((30 : Int32) + v1).toNatClampNeg (vp_nar (aty 24) (1 : Int32))) 195 v1.toNatClampNeg)) 196 ((30 : Int32) + v1).toNatClampNeg (gi (si (si M 194 ((30 : Int32) + v1).toNatClampNeg (vp_nar (aty 24) (1 : Int32))) 195 ((30 : Int32) + v1).toNatClampNeg (gi (si M 194 ((30 : Int32) + v1).toNatClampNeg (vp_nar (aty 24) (1 : Int32))) 195 v1.toNatClampNeg)) 196 v1.toNatClampNeg)) 197 ((30 : Int32) + v1).toNatClampNeg (gi (si (si (si M 194 ((30 : Int32) + v1).toNatClampNeg (vp_nar (aty 24) (1 : Int32))) 195 ((30 : Int32) + v1).toNatClampNeg (gi (si M 194 ((30 : Int32) + v1).toNatClampNeg (vp_nar (aty 24) (1 : Int32))) 195 v1.toNatClampNeg)) 196 ((30 : Int32) + v1).toNatClampNeg (gi (si (si M 194 ((30 : Int32) + v1).toNatClampNeg (vp_nar (aty 24) (1 : Int32))) 195 ((30 : Int32) + v1).toNatClampNeg (gi (si M 194 ((30 : Int32) + v1).toNatClampNeg (vp_nar (aty 24) (1 : Int32))) 195 v1.toNatClampNeg)) 196 v1.toNatClampNeg)) 197 v1.toNatClampNeg)) 200 v1.toNatClampNeg)) 203 ((30 : Int32) + v1).toNatClampNeg (gi (si (si (si (si (si M 194 ((30 : Int32) + v1).toNatClampNeg (vp_nar (aty 24) (1 : Int32))) 195 ((30 : Int32) + v1).toNatClampNeg (gi (si M 194 ((30 : Int32) + v1).toNatClampNeg (vp_nar (aty 24) (1 : Int32))) 195 v1.toNatClampNeg)) 196 ((30 : Int32) + v1).toNatClampNeg (gi (si (si M 194 ((30 : Int32) + v1).toNatClampNeg (vp_nar (aty 24) (1 : Int32))) 195 ((30 : Int32) + v1).toNatClampNeg (gi (si M 194 ((30 : Int32) + v1).toNatClampNeg (vp_nar (aty 24) (1 : Int32))) 195 v1.toNatClampNeg)) 196 v1.toNatClampNeg)) 197 ((30 : Int32) + v1).toNatClampNeg (gi (si (si (si M 194 ((30 : Int32) + v1).toNatClampNeg (vp_nar (aty 24) (1 : Int32))) 195 ((30 : Int32) + v1).toNatClampNeg (gi (si M 194 ((30 : Int32) + v1).toNatClampNeg (vp_nar (aty 24) (1 : Int32))) 195 v1.toNatClampNeg)) 196 ((30 : Int32) + v1).toNatClampNeg (gi (si (si M 194 ((30 : Int32) + v1).toNatClampNeg (vp_nar (aty 24) (1 : Int32))) 195 ((30 : Int32) + v1).toNatClampNeg (gi (si M 194 ((30 : Int32) + v1).toNatClampNeg (vp_nar (aty 24) (1 : Int32))) 195 v1.toNatClampNeg)) 196 v1.toNatClampNeg)) 197 v1.toNatClampNeg)) 200 ((30 : Int32) + v1).toNatClampNeg (gi (si (si (si (si M 194 ((30 : Int32) + v1).toNatClampNeg (vp_nar (aty 24) (1 : Int32))) 195 ((30 : Int32) + v1).toNatClampNeg (gi (si M 194 ((30 : Int32) + v1).toNatClampNeg (vp_nar (aty 24) (1 : Int32))) 195 v1.toNatClampNeg)) 196 ((30 : Int32) + v1).toNatClampNeg (gi (si (si M 194 ((30 : Int32) + v1).toNatClampNeg (vp_nar (aty 24) (1 : Int32))) 195 ((30 : Int32) + v1).toNatClampNeg (gi (si M 194 ((30 : Int32) + v1).toNatClampNeg (vp_nar (aty 24) (1 : Int32))) 195 v1.toNatClampNeg)) 196 v1.toNatClampNeg)) 197 ((30 : Int32) + v1).toNatClampNeg (gi (si (si (si M 194 ((30 : Int32) + v1).toNatClampNeg (vp_nar (aty 24) (1 : Int32))) 195 ((30 : Int32) + v1).toNatClampNeg (gi (si M 194 ((30 : Int32) + v1).toNatClampNeg (vp_nar (aty 24) (1 : Int32))) 195 v1.toNatClampNeg)) 196 ((30 : Int32) + v1).toNatClampNeg (gi (si (si M 194 ((30 : Int32) + v1).toNatClampNeg (vp_nar (aty 24) (1 : Int32))) 195 ((30 : Int32) + v1).toNatClampNeg (gi (si M 194 ((30 : Int32) + v1).toNatClampNeg (vp_nar (aty 24) (1 : Int32))) 195 v1.toNatClampNeg)) 196 v1.toNatClampNeg)) 197 v1.toNatClampNeg)) 200 v1.toNatClampNeg)) 203 v1.toNatClampNeg)) 207 v1.toNatClampNeg)) := hF.kg ⟨rfl, rfl, rfl⟩
  exact eqJ_X11_copies_86 FU _ _ _ _ hF
theorem keep_X11_copies {M : Mem} {z : Unit × Mem} {v0 : Option Nat} {v1 : Int32} (h : L_X11_copies v0 v1 M = some z) : KG M z.2 := by
  unfold L_X11_copies at h
  have hg : KG M M := KG.rf
  obtain ⟨_, -, h⟩ := bnd h
  obtain ⟨_, hw, h⟩ := bnd h
  have hg := hg.trans (kg_uN hw)
  obtain ⟨_, -, h⟩ := bnd h
  obtain ⟨_, -, h⟩ := bnd h
  obtain ⟨_, -, h⟩ := bnd h
  obtain ⟨_, hw, h⟩ := bnd h
  have hg := hg.trans (kg_uI hw)
  obtain ⟨_, -, h⟩ := bnd h
  obtain ⟨_, -, h⟩ := bnd h
  obtain ⟨_, -, h⟩ := bnd h
  obtain ⟨_, hw, h⟩ := bnd h
  have hg := hg.trans (kg_uI hw)
  obtain ⟨_, -, h⟩ := bnd h
  obtain ⟨_, -, h⟩ := bnd h
  obtain ⟨_, -, h⟩ := bnd h
  obtain ⟨_, hw, h⟩ := bnd h
  have hg := hg.trans (kg_uI hw)
  obtain ⟨_, -, h⟩ := bnd h
  obtain ⟨_, -, h⟩ := bnd h
  obtain ⟨_, -, h⟩ := bnd h
  obtain ⟨_, hw, h⟩ := bnd h
  have hg := hg.trans (kg_uI hw)
  obtain ⟨_, -, h⟩ := bnd h
  obtain ⟨_, -, h⟩ := bnd h
  obtain ⟨_, -, h⟩ := bnd h
  obtain ⟨_, hw, h⟩ := bnd h
  have hg := hg.trans (kg_uI hw)
  obtain ⟨_, -, h⟩ := bnd h
  obtain ⟨_, -, h⟩ := bnd h
  obtain ⟨_, -, h⟩ := bnd h
  obtain ⟨_, hw, h⟩ := bnd h
  have hg := hg.trans (kg_uI hw)
  exact hg.trans (keepJ_X11_copies_86 FU _ _ _ _ _ h)
def S_X11_isIn (v0 : Int32) (v1 : Int32) (M : Mem) : Option (Int32 × Mem) :=
  if v0 < 0 then
  (some ((0 : Int32), M))
  else
  (if v1 ≤ v0 then
  (some ((0 : Int32), M))
  else
  (some ((1 : Int32), M)))
theorem eqS_X11_isIn {M : Mem} (hF : FSR M) {v0 : Int32} {v1 : Int32} : L_X11_isIn v0 v1 M = S_X11_isIn v0 v1 M := by
  unfold L_X11_isIn S_X11_isIn
  refine itc (fun _ => ?_) (fun _ => ?_)
  · rfl
  · refine itc (fun _ => ?_) (fun _ => ?_)
    · rfl
    · rfl
theorem keep_X11_isIn {M : Mem} {z : Int32 × Mem} {v0 : Int32} {v1 : Int32} (h : L_X11_isIn v0 v1 M = some z) : KG M z.2 := by
  unfold L_X11_isIn at h
  have hg : KG M M := KG.rf
  rcases itor h with h | h
  · obtain ⟨_, -, h⟩ := bnd h
    cases h; exact hg
  · rcases itor h with h | h
    · obtain ⟨_, -, h⟩ := bnd h
      cases h; exact hg
    · obtain ⟨_, -, h⟩ := bnd h
      cases h; exact hg
def S_X11_isYear (v0 : Int32) (M : Mem) : Option (Int32 × Mem) :=
  if v0 < (1700 : Int32) then
  (some ((0 : Int32), M))
  else
  (if (1730 : Int32) ≤ v0 then
  (some ((0 : Int32), M))
  else
  (some ((1 : Int32), M)))
theorem eqS_X11_isYear {M : Mem} (hF : FSR M) {v0 : Int32} : L_X11_isYear v0 M = S_X11_isYear v0 M := by
  unfold L_X11_isYear S_X11_isYear
  refine itc (fun _ => ?_) (fun _ => ?_)
  · rfl
  · refine itc (fun _ => ?_) (fun _ => ?_)
    · rfl
    · rfl
theorem keep_X11_isYear {M : Mem} {z : Int32 × Mem} {v0 : Int32} (h : L_X11_isYear v0 M = some z) : KG M z.2 := by
  unfold L_X11_isYear at h
  have hg : KG M M := KG.rf
  rcases itor h with h | h
  · obtain ⟨_, -, h⟩ := bnd h
    cases h; exact hg
  · rcases itor h with h | h
    · obtain ⟨_, -, h⟩ := bnd h
      cases h; exact hg
    · obtain ⟨_, -, h⟩ := bnd h
      cases h; exact hg
def S_X11_sheet (v1 : Int32) (M : Mem) : Option (Int32 × Mem) :=
  (L_X11_isYear v1 M).bind fun w1 =>
  if ¬ w1.1 = 0 then
  ((S_X11_reads (si (si (si w1.2 181 4 (gi w1.2 181 1)) 181 1 (0 : Int32)) 181 12 (v1 - (1700 : Int32)))).bind fun w2 =>
  if (gi w2.2 181 2) = 0 then
  ((S_X11_keeps (gi w2.2 181 12) w2.2).bind fun w3 =>
  gd (inb (gi w3.2 181 12) 30) (
  some (gi (si w3.2 211 (gi w3.2 181 12).toNatClampNeg (vp_nar (aty 24) (1 : Int32))) 181 22, si w3.2 211 (gi w3.2 181 12).toNatClampNeg (vp_nar (aty 24) (1 : Int32)))))
  else
  (some ((-1 : Int32), w2.2)))
  else
  (some ((-2 : Int32), w1.2))
theorem eqS_X11_sheet {M : Mem} (hF : FSR M) {v1 : Int32} : L_X11_sheet (some 181) v1 M = S_X11_sheet v1 M := by
  unfold L_X11_sheet S_X11_sheet
  refine bdc rfl (fun w1 hw => ?_)
  have hF := hF.kg (keep_X11_isYear hw)
  refine itc (fun _ => ?_) (fun _ => ?_)
  · refine (bi_fI (hF.kd 181)).trans ?_
    refine (bi_pI (hF.kd 181)).trans ?_
    have hF : FSR (si w1.2 181 4 (gi w1.2 181 1)) := hF.kg ⟨rfl, rfl, rfl⟩
    refine (bi_pI (hF.kd 181)).trans ?_
    have hF : FSR (si (si w1.2 181 4 (gi w1.2 181 1)) 181 1 (0 : Int32)) := hF.kg ⟨rfl, rfl, rfl⟩
    refine (bi_pI (hF.kd 181)).trans ?_
    have hF : FSR (si (si (si w1.2 181 4 (gi w1.2 181 1)) 181 1 (0 : Int32)) 181 12 (v1 - (1700 : Int32))) := hF.kg ⟨rfl, rfl, rfl⟩
    refine (bi_ck (hF.kd 181)).trans ?_
    refine bdc (eqS_X11_reads hF) (fun w2 hw => ?_)
    have hF := hF.kg (keep_X11_reads hw)
    refine (bi_fI (hF.kd 181)).trans ?_
    refine itc (fun _ => ?_) (fun _ => ?_)
    · refine (bi_fI (hF.kd 181)).trans ?_
      refine (bi_ck (hF.kd 181)).trans ?_
      refine bdc (eqS_X11_keeps hF) (fun w3 hw => ?_)
      have hF := hF.kg (keep_X11_keeps hw)
      refine (bi_fR (hF.kd 181) (hF.gr 53)).trans ?_
      refine (bi_fI (hF.kd 181)).trans ?_
      refine (bi_uN (hF.kd 211) (hF.ln 211)).trans ?_
      refine gd_congr (fun _ => ?_)
      have hF : FSR (si w3.2 211 (gi w3.2 181 12).toNatClampNeg (vp_nar (aty 24) (1 : Int32))) := hF.kg ⟨rfl, rfl, rfl⟩
      refine (bi_fI (hF.kd 181)).trans ?_
      rfl
    · rfl
  · rfl
theorem keep_X11_sheet {M : Mem} {z : Int32 × Mem} {v0 : Option Nat} {v1 : Int32} (h : L_X11_sheet v0 v1 M = some z) : KG M z.2 := by
  unfold L_X11_sheet at h
  have hg : KG M M := KG.rf
  obtain ⟨w1, hw, h⟩ := bnd h
  have hg := hg.trans (keep_X11_isYear hw)
  rcases itor h with h | h
  · obtain ⟨_, -, h⟩ := bnd h
    obtain ⟨_, hw, h⟩ := bnd h
    have hg := hg.trans (kg_pI hw)
    obtain ⟨_, hw, h⟩ := bnd h
    have hg := hg.trans (kg_pI hw)
    obtain ⟨_, hw, h⟩ := bnd h
    have hg := hg.trans (kg_pI hw)
    obtain ⟨_, -, h⟩ := bnd h
    obtain ⟨w2, hw, h⟩ := bnd h
    have hg := hg.trans (keep_X11_reads hw)
    obtain ⟨_, -, h⟩ := bnd h
    rcases itor h with h | h
    · obtain ⟨_, -, h⟩ := bnd h
      obtain ⟨_, -, h⟩ := bnd h
      obtain ⟨w3, hw, h⟩ := bnd h
      have hg := hg.trans (keep_X11_keeps hw)
      obtain ⟨_, -, h⟩ := bnd h
      obtain ⟨_, -, h⟩ := bnd h
      obtain ⟨_, hw, h⟩ := bnd h
      have hg := hg.trans (kg_uN hw)
      obtain ⟨_, -, h⟩ := bnd h
      cases h; exact hg
    · cases h; exact hg
  · cases h; exact hg
def S_X11_fault (v1 : Int32) (M : Mem) : Option (Int32 × Mem) :=
  if ¬ v1 = 0 then
  (if ¬ v1 = (1 : Int32) then
  (some ((-1 : Int32), M))
  else
  (some (gi M 181 3, M)))
  else
  (some (gi M 181 2, M))
theorem eqS_X11_fault {M : Mem} (hF : FSR M) {v1 : Int32} : L_X11_fault (some 181) v1 M = S_X11_fault v1 M := by
  unfold L_X11_fault S_X11_fault
  refine itc (fun _ => ?_) (fun _ => ?_)
  · refine itc (fun _ => ?_) (fun _ => ?_)
    · rfl
    · refine (bi_fI (hF.kd 181)).trans ?_
      rfl
  · refine (bi_fI (hF.kd 181)).trans ?_
    rfl
theorem keep_X11_fault {M : Mem} {z : Int32 × Mem} {v0 : Option Nat} {v1 : Int32} (h : L_X11_fault v0 v1 M = some z) : KG M z.2 := by
  unfold L_X11_fault at h
  have hg : KG M M := KG.rf
  rcases itor h with h | h
  · rcases itor h with h | h
    · cases h; exact hg
    · obtain ⟨_, -, h⟩ := bnd h
      cases h; exact hg
  · obtain ⟨_, -, h⟩ := bnd h
    cases h; exact hg
def S_X11_forget (v1 : Int32) (M : Mem) : Option (Int32 × Mem) :=
  (L_X11_isYear v1 M).bind fun w1 =>
  if w1.1 = 0 then
  (some ((0 : Int32), w1.2))
  else
  (gd (inb (v1 - (1700 : Int32)) 60) (
  if ¬ (gi w1.2 194 (v1 - (1700 : Int32)).toNatClampNeg) = 0 then
  (gd (inb (v1 - (1700 : Int32)) 60) (
  gd (inb (v1 - (1700 : Int32)) 30) (
  some ((1 : Int32), si (si w1.2 194 (v1 - (1700 : Int32)).toNatClampNeg (vp_nar (aty 24) (0 : Int32))) 211 (v1 - (1700 : Int32)).toNatClampNeg (vp_nar (aty 24) (1 : Int32))))))
  else
  (some ((0 : Int32), w1.2))))
theorem eqS_X11_forget {M : Mem} (hF : FSR M) {v1 : Int32} : L_X11_forget (some 181) v1 M = S_X11_forget v1 M := by
  unfold L_X11_forget S_X11_forget
  refine bdc rfl (fun w1 hw => ?_)
  have hF := hF.kg (keep_X11_isYear hw)
  refine itc (fun _ => ?_) (fun _ => ?_)
  · rfl
  · refine (bi_fR (hF.kd 181) (hF.gr 36)).trans ?_
    refine (bi_aI (hF.kd 194) (hF.ln 194)).trans ?_
    refine gd_congr (fun _ => ?_)
    refine itc (fun _ => ?_) (fun _ => ?_)
    · refine (bi_fR (hF.kd 181) (hF.gr 36)).trans ?_
      refine (bi_uN (hF.kd 194) (hF.ln 194)).trans ?_
      refine gd_congr (fun _ => ?_)
      have hF : FSR (si w1.2 194 (v1 - (1700 : Int32)).toNatClampNeg (vp_nar (aty 24) (0 : Int32))) := hF.kg ⟨rfl, rfl, rfl⟩
      refine (bi_fR (hF.kd 181) (hF.gr 53)).trans ?_
      refine (bi_uN (hF.kd 211) (hF.ln 211)).trans ?_
      refine gd_congr (fun _ => ?_)
      have hF : FSR (si (si w1.2 194 (v1 - (1700 : Int32)).toNatClampNeg (vp_nar (aty 24) (0 : Int32))) 211 (v1 - (1700 : Int32)).toNatClampNeg (vp_nar (aty 24) (1 : Int32))) := hF.kg ⟨rfl, rfl, rfl⟩
      rfl
    · rfl
theorem keep_X11_forget {M : Mem} {z : Int32 × Mem} {v0 : Option Nat} {v1 : Int32} (h : L_X11_forget v0 v1 M = some z) : KG M z.2 := by
  unfold L_X11_forget at h
  have hg : KG M M := KG.rf
  obtain ⟨w1, hw, h⟩ := bnd h
  have hg := hg.trans (keep_X11_isYear hw)
  rcases itor h with h | h
  · obtain ⟨_, -, h⟩ := bnd h
    cases h; exact hg
  · obtain ⟨_, -, h⟩ := bnd h
    obtain ⟨_, -, h⟩ := bnd h
    rcases itor h with h | h
    · obtain ⟨_, -, h⟩ := bnd h
      obtain ⟨_, hw, h⟩ := bnd h
      have hg := hg.trans (kg_uN hw)
      obtain ⟨_, -, h⟩ := bnd h
      obtain ⟨_, hw, h⟩ := bnd h
      have hg := hg.trans (kg_uN hw)
      obtain ⟨_, -, h⟩ := bnd h
      cases h; exact hg
    · obtain ⟨_, -, h⟩ := bnd h
      cases h; exact hg
def SJ_X11_issue_27 (k_4 : Int32 → Int32 → Mem → Option (Int32 × Mem)) (v2 : Int32) (s0 : Int32) (s1 : Int32) (M : Mem) : Option (Int32 × Mem) :=
  k_4 (s0 ||| s1) (v2 + 1) M
theorem eqJ_X11_issue_27 {M : Mem} {k_4 : Option Nat → Int32 → Int32 → Mem → Option (Int32 × Mem)} {q_4 : Int32 → Int32 → Mem → Option (Int32 × Mem)} (hk_4 : ∀ (v1 : Int32) (v2 : Int32) (Ma : Mem), FSR Ma → k_4 (some 181) v1 v2 Ma = q_4 v1 v2 Ma) (hF : FSR M) {v2 : Int32} {s0 : Int32} {s1 : Int32} : J_X11_issue_27 k_4 (some 181) v2 s0 s1 M = SJ_X11_issue_27 q_4 v2 s0 s1 M := by
  unfold J_X11_issue_27 SJ_X11_issue_27
  exact hk_4 _ _ _ hF
theorem keepJ_X11_issue_27 {M : Mem} {z : Int32 × Mem} {k_4 : Option Nat → Int32 → Int32 → Mem → Option (Int32 × Mem)} (hk_4 : ∀ (v0 : Option Nat) (v1 : Int32) (v2 : Int32) (Ma : Mem), k_4 v0 v1 v2 Ma = some z → KG Ma z.2) {v0 : Option Nat} {v2 : Int32} {s0 : Int32} {s1 : Int32} (h : J_X11_issue_27 k_4 v0 v2 s0 s1 M = some z) : KG M z.2 := by
  unfold J_X11_issue_27 at h
  have hg : KG M M := KG.rf
  exact hg.trans (hk_4 _ _ _ _ h)
def SJ_X11_issue_77 (k_37 : Int32 → Int32 → Mem → Option (Int32 × Mem)) (k_45 : Int32 → Int32 → Int32 → Mem → Option (Int32 × Mem)) (v1 : Int32) (v2 : Int32) (v3 : Int32) (M : Mem) : Option (Int32 × Mem) :=
  k_45 v1 v2 (v3 + 1) M
theorem eqJ_X11_issue_77 {M : Mem} {k_37 : Option Nat → Int32 → Int32 → Mem → Option (Int32 × Mem)} {q_37 : Int32 → Int32 → Mem → Option (Int32 × Mem)} (hk_37 : ∀ (v1 : Int32) (v2 : Int32) (Ma : Mem), FSR Ma → k_37 (some 181) v1 v2 Ma = q_37 v1 v2 Ma) {k_45 : Option Nat → Int32 → Int32 → Int32 → Mem → Option (Int32 × Mem)} {q_45 : Int32 → Int32 → Int32 → Mem → Option (Int32 × Mem)} (hk_45 : ∀ (v1 : Int32) (v2 : Int32) (v3 : Int32) (Ma : Mem), FSR Ma → k_45 (some 181) v1 v2 v3 Ma = q_45 v1 v2 v3 Ma) (hF : FSR M) {v1 : Int32} {v2 : Int32} {v3 : Int32} : J_X11_issue_77 k_37 k_45 (some 181) v1 v2 v3 M = SJ_X11_issue_77 q_37 q_45 v1 v2 v3 M := by
  unfold J_X11_issue_77 SJ_X11_issue_77
  exact hk_45 _ _ _ _ hF
theorem keepJ_X11_issue_77 {M : Mem} {z : Int32 × Mem} {k_37 : Option Nat → Int32 → Int32 → Mem → Option (Int32 × Mem)} (hk_37 : ∀ (v0 : Option Nat) (v1 : Int32) (v2 : Int32) (Ma : Mem), k_37 v0 v1 v2 Ma = some z → KG Ma z.2) {k_45 : Option Nat → Int32 → Int32 → Int32 → Mem → Option (Int32 × Mem)} (hk_45 : ∀ (v0 : Option Nat) (v1 : Int32) (v2 : Int32) (v3 : Int32) (Ma : Mem), k_45 v0 v1 v2 v3 Ma = some z → KG Ma z.2) {v0 : Option Nat} {v1 : Int32} {v2 : Int32} {v3 : Int32} (h : J_X11_issue_77 k_37 k_45 v0 v1 v2 v3 M = some z) : KG M z.2 := by
  unfold J_X11_issue_77 at h
  have hg : KG M M := KG.rf
  exact hg.trans (hk_45 _ _ _ _ _ h)
def SJ_X11_issue_45 (k_37 : Int32 → Int32 → Mem → Option (Int32 × Mem)) : Nat → Int32 → Int32 → Int32 → Mem → Option (Int32 × Mem)
  | 0 => fun _ _ _ _ => none
  | n + 1 => fun v1 v2 v3 M =>
  if (30 : Int32) ≤ v3 then
  (k_37 v1 (v2 + 1) M)
  else
  (gd (inb v3 60) (
  if (gi M 194 v3.toNatClampNeg) = 0 then
  (SJ_X11_issue_77 k_37 (SJ_X11_issue_45 k_37 n) v1 v2 v3 M)
  else
  (gd (inb v3 60) (
  if ((gi M 196 v3.toNatClampNeg) &&& v1) = 0 then
  (SJ_X11_issue_77 k_37 (SJ_X11_issue_45 k_37 n) v1 v2 v3 M)
  else
  (SJ_X11_issue_77 k_37 (SJ_X11_issue_45 k_37 n) (v1 ||| ((1 : Int32) <<< (v3 &&& 31))) v2 v3 M)))))
theorem eqJ_X11_issue_45 {k_37 : Option Nat → Int32 → Int32 → Mem → Option (Int32 × Mem)} {q_37 : Int32 → Int32 → Mem → Option (Int32 × Mem)} (hk_37 : ∀ (v1 : Int32) (v2 : Int32) (Ma : Mem), FSR Ma → k_37 (some 181) v1 v2 Ma = q_37 v1 v2 Ma) : ∀ (n : Nat) (v1 : Int32) (v2 : Int32) (v3 : Int32) (M : Mem), FSR M → J_X11_issue_45 k_37 n (some 181) v1 v2 v3 M = SJ_X11_issue_45 q_37 n v1 v2 v3 M := by
  intro n
  induction n with
  | zero => intro v1 v2 v3 M hF; rfl
  | succ n ih =>
    intro v1 v2 v3 M hF
    unfold J_X11_issue_45 SJ_X11_issue_45
    refine itc (fun _ => ?_) (fun _ => ?_)
    · exact hk_37 _ _ _ hF
    · refine (bi_fR (hF.kd 181) (hF.gr 36)).trans ?_
      refine (bi_aI (hF.kd 194) (hF.ln 194)).trans ?_
      refine gd_congr (fun _ => ?_)
      refine itc (fun _ => ?_) (fun _ => ?_)
      · exact eqJ_X11_issue_77 hk_37 ih hF
      · refine (bi_fR (hF.kd 181) (hF.gr 38)).trans ?_
        refine (bi_aI (hF.kd 196) (hF.ln 196)).trans ?_
        refine gd_congr (fun _ => ?_)
        refine itc (fun _ => ?_) (fun _ => ?_)
        · exact eqJ_X11_issue_77 hk_37 ih hF
        · exact eqJ_X11_issue_77 hk_37 ih hF
theorem keepJ_X11_issue_45 {z : Int32 × Mem} {k_37 : Option Nat → Int32 → Int32 → Mem → Option (Int32 × Mem)} (hk_37 : ∀ (v0 : Option Nat) (v1 : Int32) (v2 : Int32) (Ma : Mem), k_37 v0 v1 v2 Ma = some z → KG Ma z.2) : ∀ (n : Nat) (v0 : Option Nat) (v1 : Int32) (v2 : Int32) (v3 : Int32) (M : Mem), J_X11_issue_45 k_37 n v0 v1 v2 v3 M = some z → KG M z.2 := by
  intro n
  induction n with
  | zero => intro v0 v1 v2 v3 M h; exact nomatch h
  | succ n ih =>
    intro v0 v1 v2 v3 M h
    unfold J_X11_issue_45 at h
    have hg : KG M M := KG.rf
    rcases itor h with h | h
    · exact hg.trans (hk_37 _ _ _ _ h)
    · obtain ⟨_, -, h⟩ := bnd h
      obtain ⟨_, -, h⟩ := bnd h
      rcases itor h with h | h
      · exact hg.trans (keepJ_X11_issue_77 hk_37 ih h)
      · obtain ⟨_, -, h⟩ := bnd h
        obtain ⟨_, -, h⟩ := bnd h
        rcases itor h with h | h
        · exact hg.trans (keepJ_X11_issue_77 hk_37 ih h)
        · exact hg.trans (keepJ_X11_issue_77 hk_37 ih h)
def SJ_X11_issue_243 (k_103 : Int32 → Int32 → Int32 → Mem → Option (Int32 × Mem)) (v1 : Int32) (v2 : Int32) (v3 : Int32) (M : Mem) : Option (Int32 × Mem) :=
  k_103 v1 v2 (v3 + 1) M
theorem eqJ_X11_issue_243 {M : Mem} {k_103 : Option Nat → Int32 → Int32 → Int32 → Mem → Option (Int32 × Mem)} {q_103 : Int32 → Int32 → Int32 → Mem → Option (Int32 × Mem)} (hk_103 : ∀ (v1 : Int32) (v2 : Int32) (v3 : Int32) (Ma : Mem), FSR Ma → k_103 (some 181) v1 v2 v3 Ma = q_103 v1 v2 v3 Ma) (hF : FSR M) {v1 : Int32} {v2 : Int32} {v3 : Int32} : J_X11_issue_243 k_103 (some 181) v1 v2 v3 M = SJ_X11_issue_243 q_103 v1 v2 v3 M := by
  unfold J_X11_issue_243 SJ_X11_issue_243
  exact hk_103 _ _ _ _ hF
theorem keepJ_X11_issue_243 {M : Mem} {z : Int32 × Mem} {k_103 : Option Nat → Int32 → Int32 → Int32 → Mem → Option (Int32 × Mem)} (hk_103 : ∀ (v0 : Option Nat) (v1 : Int32) (v2 : Int32) (v3 : Int32) (Ma : Mem), k_103 v0 v1 v2 v3 Ma = some z → KG Ma z.2) {v0 : Option Nat} {v1 : Int32} {v2 : Int32} {v3 : Int32} (h : J_X11_issue_243 k_103 v0 v1 v2 v3 M = some z) : KG M z.2 := by
  unfold J_X11_issue_243 at h
  have hg : KG M M := KG.rf
  exact hg.trans (hk_103 _ _ _ _ _ h)
def SJ_X11_issue_197 (k_103 : Int32 → Int32 → Int32 → Mem → Option (Int32 × Mem)) : Nat → Int32 → Int32 → Int32 → Int32 → Mem → Option (Int32 × Mem)
  | 0 => fun _ _ _ _ _ => none
  | n + 1 => fun v1 v2 v3 v4 M =>
  if (72 : Int32) ≤ v4 then
  (gd (inb v3 60) (
  if ¬ (gi M 194 v3.toNatClampNeg) = 0 then
  ((S_X11_copies v3 M).bind fun w1 =>
  SJ_X11_issue_243 k_103 v1 (v2 + 1) v3 w1.2)
  else
  (SJ_X11_issue_243 k_103 v1 v2 v3 M)))
  else
  (gd (inb (((72 : Int32) * v3) + v4) 2160) (
  SJ_X11_issue_197 k_103 n v1 v2 v3 (v4 + 1) (sl M 216 (((72 : Int32) * v3) + v4).toNatClampNeg (0 : Int64))))
theorem eqJ_X11_issue_197 {k_103 : Option Nat → Int32 → Int32 → Int32 → Mem → Option (Int32 × Mem)} {q_103 : Int32 → Int32 → Int32 → Mem → Option (Int32 × Mem)} (hk_103 : ∀ (v1 : Int32) (v2 : Int32) (v3 : Int32) (Ma : Mem), FSR Ma → k_103 (some 181) v1 v2 v3 Ma = q_103 v1 v2 v3 Ma) : ∀ (n : Nat) (v1 : Int32) (v2 : Int32) (v3 : Int32) (v4 : Int32) (M : Mem), FSR M → J_X11_issue_197 k_103 n (some 181) v1 v2 v3 v4 M = SJ_X11_issue_197 q_103 n v1 v2 v3 v4 M := by
  intro n
  induction n with
  | zero => intro v1 v2 v3 v4 M hF; rfl
  | succ n ih =>
    intro v1 v2 v3 v4 M hF
    unfold J_X11_issue_197 SJ_X11_issue_197
    refine itc (fun _ => ?_) (fun _ => ?_)
    · refine (bi_fR (hF.kd 181) (hF.gr 36)).trans ?_
      refine (bi_aI (hF.kd 194) (hF.ln 194)).trans ?_
      refine gd_congr (fun _ => ?_)
      refine itc (fun _ => ?_) (fun _ => ?_)
      · refine (bi_ck (hF.kd 181)).trans ?_
        refine bdc (eqS_X11_copies hF) (fun w1 hw => ?_)
        have hF := hF.kg (keep_X11_copies hw)
        exact eqJ_X11_issue_243 hk_103 hF
      · exact eqJ_X11_issue_243 hk_103 hF
    · refine (bi_fR (hF.kd 181) (hF.gr 58)).trans ?_
      refine (bi_uL (hF.kd 216) (hF.ln 216)).trans ?_
      refine gd_congr (fun _ => ?_)
      have hF : FSR (sl M 216 (((72 : Int32) * v3) + v4).toNatClampNeg (0 : Int64)) := hF.kg ⟨rfl, rfl, rfl⟩
      exact ih _ _ _ _ _ hF
theorem keepJ_X11_issue_197 {z : Int32 × Mem} {k_103 : Option Nat → Int32 → Int32 → Int32 → Mem → Option (Int32 × Mem)} (hk_103 : ∀ (v0 : Option Nat) (v1 : Int32) (v2 : Int32) (v3 : Int32) (Ma : Mem), k_103 v0 v1 v2 v3 Ma = some z → KG Ma z.2) : ∀ (n : Nat) (v0 : Option Nat) (v1 : Int32) (v2 : Int32) (v3 : Int32) (v4 : Int32) (M : Mem), J_X11_issue_197 k_103 n v0 v1 v2 v3 v4 M = some z → KG M z.2 := by
  intro n
  induction n with
  | zero => intro v0 v1 v2 v3 v4 M h; exact nomatch h
  | succ n ih =>
    intro v0 v1 v2 v3 v4 M h
    unfold J_X11_issue_197 at h
    have hg : KG M M := KG.rf
    rcases itor h with h | h
    · obtain ⟨_, -, h⟩ := bnd h
      obtain ⟨_, -, h⟩ := bnd h
      rcases itor h with h | h
      · obtain ⟨_, -, h⟩ := bnd h
        obtain ⟨w1, hw, h⟩ := bnd h
        have hg := hg.trans (keep_X11_copies hw)
        exact hg.trans (keepJ_X11_issue_243 hk_103 h)
      · exact hg.trans (keepJ_X11_issue_243 hk_103 h)
    · obtain ⟨_, -, h⟩ := bnd h
      obtain ⟨_, hw, h⟩ := bnd h
      have hg := hg.trans (kg_uL hw)
      exact hg.trans (ih _ _ _ _ _ _ h)
def SJ_X11_issue_169 (k_103 : Int32 → Int32 → Int32 → Mem → Option (Int32 × Mem)) (v1 : Int32) (v2 : Int32) (v3 : Int32) (s1 : Int32) (s2 : Int32) (M : Mem) : Option (Int32 × Mem) :=
  gd (inb s1 30) (
  gd (inb v3 30) (
  gd (inb v3 30) (
  gd (inb ((30 : Int32) + v3) 60) (
  SJ_X11_issue_197 k_103 FU v1 v2 v3 (0 : Int32) (si (si (si (si M 213 s1.toNatClampNeg s2) 214 v3.toNatClampNeg (0 : Int32)) 215 v3.toNatClampNeg (0 : Int32)) 194 ((30 : Int32) + v3).toNatClampNeg (vp_nar (aty 24) (0 : Int32)))))))
theorem eqJ_X11_issue_169 {M : Mem} {k_103 : Option Nat → Int32 → Int32 → Int32 → Mem → Option (Int32 × Mem)} {q_103 : Int32 → Int32 → Int32 → Mem → Option (Int32 × Mem)} (hk_103 : ∀ (v1 : Int32) (v2 : Int32) (v3 : Int32) (Ma : Mem), FSR Ma → k_103 (some 181) v1 v2 v3 Ma = q_103 v1 v2 v3 Ma) (hF : FSR M) {v1 : Int32} {v2 : Int32} {v3 : Int32} {s1 : Int32} {s2 : Int32} : J_X11_issue_169 k_103 (some 181) v1 v2 v3 (some 213) s1 s2 M = SJ_X11_issue_169 q_103 v1 v2 v3 s1 s2 M := by
  unfold J_X11_issue_169 SJ_X11_issue_169
  refine (bi_uI (hF.kd 213) (hF.ln 213)).trans ?_
  refine gd_congr (fun _ => ?_)
  have hF : FSR (si M 213 s1.toNatClampNeg s2) := hF.kg ⟨rfl, rfl, rfl⟩
  refine (bi_fR (hF.kd 181) (hF.gr 56)).trans ?_
  refine (bi_uI (hF.kd 214) (hF.ln 214)).trans ?_
  refine gd_congr (fun _ => ?_)
  have hF : FSR (si (si M 213 s1.toNatClampNeg s2) 214 v3.toNatClampNeg (0 : Int32)) := hF.kg ⟨rfl, rfl, rfl⟩
  refine (bi_fR (hF.kd 181) (hF.gr 57)).trans ?_
  refine (bi_uI (hF.kd 215) (hF.ln 215)).trans ?_
  refine gd_congr (fun _ => ?_)
  have hF : FSR (si (si (si M 213 s1.toNatClampNeg s2) 214 v3.toNatClampNeg (0 : Int32)) 215 v3.toNatClampNeg (0 : Int32)) := hF.kg ⟨rfl, rfl, rfl⟩
  refine (bi_fR (hF.kd 181) (hF.gr 36)).trans ?_
  refine (bi_uN (hF.kd 194) (hF.ln 194)).trans ?_
  refine gd_congr (fun _ => ?_)
  have hF : FSR (si (si (si (si M 213 s1.toNatClampNeg s2) 214 v3.toNatClampNeg (0 : Int32)) 215 v3.toNatClampNeg (0 : Int32)) 194 ((30 : Int32) + v3).toNatClampNeg (vp_nar (aty 24) (0 : Int32))) := hF.kg ⟨rfl, rfl, rfl⟩
  exact eqJ_X11_issue_197 hk_103 FU _ _ _ _ _ hF
theorem keepJ_X11_issue_169 {M : Mem} {z : Int32 × Mem} {k_103 : Option Nat → Int32 → Int32 → Int32 → Mem → Option (Int32 × Mem)} (hk_103 : ∀ (v0 : Option Nat) (v1 : Int32) (v2 : Int32) (v3 : Int32) (Ma : Mem), k_103 v0 v1 v2 v3 Ma = some z → KG Ma z.2) {v0 : Option Nat} {v1 : Int32} {v2 : Int32} {v3 : Int32} {s0 : Option Nat} {s1 : Int32} {s2 : Int32} (h : J_X11_issue_169 k_103 v0 v1 v2 v3 s0 s1 s2 M = some z) : KG M z.2 := by
  unfold J_X11_issue_169 at h
  have hg : KG M M := KG.rf
  obtain ⟨_, hw, h⟩ := bnd h
  have hg := hg.trans (kg_uI hw)
  obtain ⟨_, -, h⟩ := bnd h
  obtain ⟨_, hw, h⟩ := bnd h
  have hg := hg.trans (kg_uI hw)
  obtain ⟨_, -, h⟩ := bnd h
  obtain ⟨_, hw, h⟩ := bnd h
  have hg := hg.trans (kg_uI hw)
  obtain ⟨_, -, h⟩ := bnd h
  obtain ⟨_, hw, h⟩ := bnd h
  have hg := hg.trans (kg_uN hw)
  exact hg.trans (keepJ_X11_issue_197 hk_103 FU _ _ _ _ _ _ h)
def SJ_X11_issue_146 (k_103 : Int32 → Int32 → Int32 → Mem → Option (Int32 × Mem)) (v1 : Int32) (v2 : Int32) (v3 : Int32) (s1 : Int32) (s2 : Int32) (M : Mem) : Option (Int32 × Mem) :=
  gd (inb s1 30) (
  gd (inb v3 60) (
  if (gi (si M 212 s1.toNatClampNeg s2) 194 v3.toNatClampNeg) = 0 then
  (SJ_X11_issue_169 k_103 v1 v2 v3 v3 (0 : Int32) (si M 212 s1.toNatClampNeg s2))
  else
  (SJ_X11_issue_169 k_103 v1 v2 v3 v3 (gi (si M 212 s1.toNatClampNeg s2) 181 59) (si M 212 s1.toNatClampNeg s2))))
theorem eqJ_X11_issue_146 {M : Mem} {k_103 : Option Nat → Int32 → Int32 → Int32 → Mem → Option (Int32 × Mem)} {q_103 : Int32 → Int32 → Int32 → Mem → Option (Int32 × Mem)} (hk_103 : ∀ (v1 : Int32) (v2 : Int32) (v3 : Int32) (Ma : Mem), FSR Ma → k_103 (some 181) v1 v2 v3 Ma = q_103 v1 v2 v3 Ma) (hF : FSR M) {v1 : Int32} {v2 : Int32} {v3 : Int32} {s1 : Int32} {s2 : Int32} : J_X11_issue_146 k_103 (some 181) v1 v2 v3 (some 212) s1 s2 M = SJ_X11_issue_146 q_103 v1 v2 v3 s1 s2 M := by
  unfold J_X11_issue_146 SJ_X11_issue_146
  refine (bi_uI (hF.kd 212) (hF.ln 212)).trans ?_
  refine gd_congr (fun _ => ?_)
  have hF : FSR (si M 212 s1.toNatClampNeg s2) := hF.kg ⟨rfl, rfl, rfl⟩
  refine (bi_fR (hF.kd 181) (hF.gr 55)).trans ?_
  refine (bi_fR (hF.kd 181) (hF.gr 36)).trans ?_
  refine (bi_aI (hF.kd 194) (hF.ln 194)).trans ?_
  refine gd_congr (fun _ => ?_)
  refine itc (fun _ => ?_) (fun _ => ?_)
  · exact eqJ_X11_issue_169 hk_103 hF
  · refine (bi_fI (hF.kd 181)).trans ?_
    exact eqJ_X11_issue_169 hk_103 hF
theorem keepJ_X11_issue_146 {M : Mem} {z : Int32 × Mem} {k_103 : Option Nat → Int32 → Int32 → Int32 → Mem → Option (Int32 × Mem)} (hk_103 : ∀ (v0 : Option Nat) (v1 : Int32) (v2 : Int32) (v3 : Int32) (Ma : Mem), k_103 v0 v1 v2 v3 Ma = some z → KG Ma z.2) {v0 : Option Nat} {v1 : Int32} {v2 : Int32} {v3 : Int32} {s0 : Option Nat} {s1 : Int32} {s2 : Int32} (h : J_X11_issue_146 k_103 v0 v1 v2 v3 s0 s1 s2 M = some z) : KG M z.2 := by
  unfold J_X11_issue_146 at h
  have hg : KG M M := KG.rf
  obtain ⟨_, hw, h⟩ := bnd h
  have hg := hg.trans (kg_uI hw)
  obtain ⟨_, -, h⟩ := bnd h
  obtain ⟨_, -, h⟩ := bnd h
  obtain ⟨_, -, h⟩ := bnd h
  rcases itor h with h | h
  · exact hg.trans (keepJ_X11_issue_169 hk_103 h)
  · obtain ⟨_, -, h⟩ := bnd h
    exact hg.trans (keepJ_X11_issue_169 hk_103 h)
def SJ_X11_issue_103 : Nat → Int32 → Int32 → Int32 → Mem → Option (Int32 × Mem)
  | 0 => fun _ _ _ _ => none
  | n + 1 => fun v1 v2 v3 M =>
  if (30 : Int32) ≤ v3 then
  (some (v2, M))
  else
  (gd (inb v3 30) (
  if ¬ ((v1 >>> (v3 &&& 31)) &&& (1 : Int32)) = 0 then
  (gd (inb v3 60) (
  if (gi (si M 211 v3.toNatClampNeg (vp_nar (aty 24) (0 : Int32))) 194 v3.toNatClampNeg) = 0 then
  (SJ_X11_issue_146 (SJ_X11_issue_103 n) v1 v2 v3 v3 (0 : Int32) (si M 211 v3.toNatClampNeg (vp_nar (aty 24) (0 : Int32))))
  else
  (SJ_X11_issue_146 (SJ_X11_issue_103 n) v1 v2 v3 v3 (1 : Int32) (si M 211 v3.toNatClampNeg (vp_nar (aty 24) (0 : Int32))))))
  else
  (SJ_X11_issue_243 (SJ_X11_issue_103 n) v1 v2 v3 (si M 211 v3.toNatClampNeg (vp_nar (aty 24) (0 : Int32))))))
theorem eqJ_X11_issue_103 : ∀ (n : Nat) (v1 : Int32) (v2 : Int32) (v3 : Int32) (M : Mem), FSR M → J_X11_issue_103 n (some 181) v1 v2 v3 M = SJ_X11_issue_103 n v1 v2 v3 M := by
  intro n
  induction n with
  | zero => intro v1 v2 v3 M hF; rfl
  | succ n ih =>
    intro v1 v2 v3 M hF
    unfold J_X11_issue_103 SJ_X11_issue_103
    refine itc (fun _ => ?_) (fun _ => ?_)
    · rfl
    · refine (bi_fR (hF.kd 181) (hF.gr 53)).trans ?_
      refine (bi_uN (hF.kd 211) (hF.ln 211)).trans ?_
      refine gd_congr (fun _ => ?_)
      have hF : FSR (si M 211 v3.toNatClampNeg (vp_nar (aty 24) (0 : Int32))) := hF.kg ⟨rfl, rfl, rfl⟩
      refine itc (fun _ => ?_) (fun _ => ?_)
      · refine (bi_fR (hF.kd 181) (hF.gr 54)).trans ?_
        refine (bi_fR (hF.kd 181) (hF.gr 36)).trans ?_
        refine (bi_aI (hF.kd 194) (hF.ln 194)).trans ?_
        refine gd_congr (fun _ => ?_)
        refine itc (fun _ => ?_) (fun _ => ?_)
        · exact eqJ_X11_issue_146 ih hF
        · exact eqJ_X11_issue_146 ih hF
      · exact eqJ_X11_issue_243 ih hF
theorem keepJ_X11_issue_103 {z : Int32 × Mem} : ∀ (n : Nat) (v0 : Option Nat) (v1 : Int32) (v2 : Int32) (v3 : Int32) (M : Mem), J_X11_issue_103 n v0 v1 v2 v3 M = some z → KG M z.2 := by
  intro n
  induction n with
  | zero => intro v0 v1 v2 v3 M h; exact nomatch h
  | succ n ih =>
    intro v0 v1 v2 v3 M h
    unfold J_X11_issue_103 at h
    have hg : KG M M := KG.rf
    rcases itor h with h | h
    · cases h; exact hg
    · obtain ⟨_, -, h⟩ := bnd h
      obtain ⟨_, hw, h⟩ := bnd h
      have hg := hg.trans (kg_uN hw)
      rcases itor h with h | h
      · obtain ⟨_, -, h⟩ := bnd h
        obtain ⟨_, -, h⟩ := bnd h
        obtain ⟨_, -, h⟩ := bnd h
        rcases itor h with h | h
        · exact hg.trans (keepJ_X11_issue_146 ih h)
        · exact hg.trans (keepJ_X11_issue_146 ih h)
      · exact hg.trans (keepJ_X11_issue_243 ih h)
def SJ_X11_issue_37 : Nat → Int32 → Int32 → Mem → Option (Int32 × Mem)
  | 0 => fun _ _ _ => none
  | n + 1 => fun v1 v2 M =>
  if (30 : Int32) ≤ v2 then
  (SJ_X11_issue_103 FU v1 (0 : Int32) (0 : Int32) (si M 181 59 ((gi M 181 59) + (1 : Int32))))
  else
  (SJ_X11_issue_45 (SJ_X11_issue_37 n) FU v1 v2 (0 : Int32) M)
theorem eqJ_X11_issue_37 : ∀ (n : Nat) (v1 : Int32) (v2 : Int32) (M : Mem), FSR M → J_X11_issue_37 n (some 181) v1 v2 M = SJ_X11_issue_37 n v1 v2 M := by
  intro n
  induction n with
  | zero => intro v1 v2 M hF; rfl
  | succ n ih =>
    intro v1 v2 M hF
    unfold J_X11_issue_37 SJ_X11_issue_37
    refine itc (fun _ => ?_) (fun _ => ?_)
    · refine (bi_fI (hF.kd 181)).trans ?_
      refine (bi_pI (hF.kd 181)).trans ?_
      have hF : FSR (si M 181 59 ((gi M 181 59) + (1 : Int32))) := hF.kg ⟨rfl, rfl, rfl⟩
      exact eqJ_X11_issue_103 FU _ _ _ _ hF
    · exact eqJ_X11_issue_45 ih FU _ _ _ _ hF
theorem keepJ_X11_issue_37 {z : Int32 × Mem} : ∀ (n : Nat) (v0 : Option Nat) (v1 : Int32) (v2 : Int32) (M : Mem), J_X11_issue_37 n v0 v1 v2 M = some z → KG M z.2 := by
  intro n
  induction n with
  | zero => intro v0 v1 v2 M h; exact nomatch h
  | succ n ih =>
    intro v0 v1 v2 M h
    unfold J_X11_issue_37 at h
    have hg : KG M M := KG.rf
    rcases itor h with h | h
    · obtain ⟨_, -, h⟩ := bnd h
      obtain ⟨_, hw, h⟩ := bnd h
      have hg := hg.trans (kg_pI hw)
      exact hg.trans (keepJ_X11_issue_103 FU _ _ _ _ _ h)
    · exact hg.trans (keepJ_X11_issue_45 ih FU _ _ _ _ _ h)
def SJ_X11_issue_4 : Nat → Int32 → Int32 → Mem → Option (Int32 × Mem)
  | 0 => fun _ _ _ => none
  | n + 1 => fun v1 v2 M =>
  if (30 : Int32) ≤ v2 then
  (SJ_X11_issue_37 FU v1 (0 : Int32) M)
  else
  (gd (inb v2 30) (
  if (gi M 211 v2.toNatClampNeg) = 0 then
  (SJ_X11_issue_27 (SJ_X11_issue_4 n) v2 v1 (0 : Int32) M)
  else
  (SJ_X11_issue_27 (SJ_X11_issue_4 n) v2 v1 ((1 : Int32) <<< (v2 &&& 31)) M)))
theorem eqJ_X11_issue_4 : ∀ (n : Nat) (v1 : Int32) (v2 : Int32) (M : Mem), FSR M → J_X11_issue_4 n (some 181) v1 v2 M = SJ_X11_issue_4 n v1 v2 M := by
  intro n
  induction n with
  | zero => intro v1 v2 M hF; rfl
  | succ n ih =>
    intro v1 v2 M hF
    unfold J_X11_issue_4 SJ_X11_issue_4
    refine itc (fun _ => ?_) (fun _ => ?_)
    · exact eqJ_X11_issue_37 FU _ _ _ hF
    · refine (bi_fR (hF.kd 181) (hF.gr 53)).trans ?_
      refine (bi_aI (hF.kd 211) (hF.ln 211)).trans ?_
      refine gd_congr (fun _ => ?_)
      refine itc (fun _ => ?_) (fun _ => ?_)
      · exact eqJ_X11_issue_27 ih hF
      · exact eqJ_X11_issue_27 ih hF
theorem keepJ_X11_issue_4 {z : Int32 × Mem} : ∀ (n : Nat) (v0 : Option Nat) (v1 : Int32) (v2 : Int32) (M : Mem), J_X11_issue_4 n v0 v1 v2 M = some z → KG M z.2 := by
  intro n
  induction n with
  | zero => intro v0 v1 v2 M h; exact nomatch h
  | succ n ih =>
    intro v0 v1 v2 M h
    unfold J_X11_issue_4 at h
    have hg : KG M M := KG.rf
    rcases itor h with h | h
    · exact hg.trans (keepJ_X11_issue_37 FU _ _ _ _ h)
    · obtain ⟨_, -, h⟩ := bnd h
      obtain ⟨_, -, h⟩ := bnd h
      rcases itor h with h | h
      · exact hg.trans (keepJ_X11_issue_27 ih h)
      · exact hg.trans (keepJ_X11_issue_27 ih h)
def S_X11_issue  (M : Mem) : Option (Int32 × Mem) :=
  SJ_X11_issue_4 FU (0 : Int32) (0 : Int32) M
theorem eqS_X11_issue {M : Mem} (hF : FSR M) : L_X11_issue (some 181) M = S_X11_issue  M := by
  unfold L_X11_issue S_X11_issue
  exact eqJ_X11_issue_4 FU _ _ _ hF
theorem keep_X11_issue {M : Mem} {z : Int32 × Mem} {v0 : Option Nat} (h : L_X11_issue v0 M = some z) : KG M z.2 := by
  unfold L_X11_issue at h
  have hg : KG M M := KG.rf
  exact hg.trans (keepJ_X11_issue_4 FU _ _ _ _ h)
def S_X11_state (v1 : Int32) (v2 : Int32) (M : Mem) : Option (Int32 × Mem) :=
  (L_X11_isYear v1 M).bind fun w1 =>
  if ¬ w1.1 = 0 then
  (if v2 = 0 then
  (gd (inb (v1 - (1700 : Int32)) 30) (
  some (gi w1.2 212 (v1 - (1700 : Int32)).toNatClampNeg, w1.2)))
  else
  if v2 = 1 then
  (gd (inb (v1 - (1700 : Int32)) 30) (
  some (gi w1.2 213 (v1 - (1700 : Int32)).toNatClampNeg, w1.2)))
  else
  if v2 = 2 then
  (gd (inb (v1 - (1700 : Int32)) 30) (
  some (gi w1.2 214 (v1 - (1700 : Int32)).toNatClampNeg, w1.2)))
  else
  if v2 = 3 then
  (gd (inb (v1 - (1700 : Int32)) 30) (
  some (gi w1.2 215 (v1 - (1700 : Int32)).toNatClampNeg, w1.2)))
  else
  if v2 = 4 then
  (gd (inb (v1 - (1700 : Int32)) 60) (
  if (gi w1.2 194 (v1 - (1700 : Int32)).toNatClampNeg) = 0 then
  (some ((0 : Int32), w1.2))
  else
  (gd (inb (v1 - (1700 : Int32)) 60) (
  some (gi w1.2 197 (v1 - (1700 : Int32)).toNatClampNeg, w1.2)))))
  else
  if v2 = 5 then
  (gd (inb (v1 - (1700 : Int32)) 60) (
  if (gi w1.2 194 (v1 - (1700 : Int32)).toNatClampNeg) = 0 then
  (some ((0 : Int32), w1.2))
  else
  (gd (inb (v1 - (1700 : Int32)) 60) (
  some (gi w1.2 200 (v1 - (1700 : Int32)).toNatClampNeg, w1.2)))))
  else
  if v2 = 6 then
  (gd (inb (v1 - (1700 : Int32)) 60) (
  if (gi w1.2 194 (v1 - (1700 : Int32)).toNatClampNeg) = 0 then
  (some ((-1 : Int32), w1.2))
  else
  (gd (inb (v1 - (1700 : Int32)) 60) (
  if (gi w1.2 195 (v1 - (1700 : Int32)).toNatClampNeg) < 0 then
  (some ((-1 : Int32), w1.2))
  else
  (gd (inb (v1 - (1700 : Int32)) 60) (
  some ((1700 : Int32) + (gi w1.2 195 (v1 - (1700 : Int32)).toNatClampNeg), w1.2)))))))
  else
  if v2 = 7 then
  (gd (inb (v1 - (1700 : Int32)) 30) (
  if (gi w1.2 211 (v1 - (1700 : Int32)).toNatClampNeg) = 0 then
  (some ((0 : Int32), w1.2))
  else
  (some ((1 : Int32), w1.2))))
  else
  (some ((-1 : Int32), w1.2)))
  else
  (some ((-1 : Int32), w1.2))
theorem eqS_X11_state {M : Mem} (hF : FSR M) {v1 : Int32} {v2 : Int32} : L_X11_state (some 181) v1 v2 M = S_X11_state v1 v2 M := by
  unfold L_X11_state S_X11_state
  refine bdc rfl (fun w1 hw => ?_)
  have hF := hF.kg (keep_X11_isYear hw)
  refine itc (fun _ => ?_) (fun _ => ?_)
  · refine itc (fun _ => ?_) (fun _ => ?_)
    · refine (bi_fR (hF.kd 181) (hF.gr 54)).trans ?_
      refine (bi_aI (hF.kd 212) (hF.ln 212)).trans ?_
      refine gd_congr (fun _ => ?_)
      rfl
    refine itc (fun _ => ?_) (fun _ => ?_)
    · refine (bi_fR (hF.kd 181) (hF.gr 55)).trans ?_
      refine (bi_aI (hF.kd 213) (hF.ln 213)).trans ?_
      refine gd_congr (fun _ => ?_)
      rfl
    refine itc (fun _ => ?_) (fun _ => ?_)
    · refine (bi_fR (hF.kd 181) (hF.gr 56)).trans ?_
      refine (bi_aI (hF.kd 214) (hF.ln 214)).trans ?_
      refine gd_congr (fun _ => ?_)
      rfl
    refine itc (fun _ => ?_) (fun _ => ?_)
    · refine (bi_fR (hF.kd 181) (hF.gr 57)).trans ?_
      refine (bi_aI (hF.kd 215) (hF.ln 215)).trans ?_
      refine gd_congr (fun _ => ?_)
      rfl
    refine itc (fun _ => ?_) (fun _ => ?_)
    · refine (bi_fR (hF.kd 181) (hF.gr 36)).trans ?_
      refine (bi_aI (hF.kd 194) (hF.ln 194)).trans ?_
      refine gd_congr (fun _ => ?_)
      refine itc (fun _ => ?_) (fun _ => ?_)
      · rfl
      · refine (bi_fR (hF.kd 181) (hF.gr 39)).trans ?_
        refine (bi_aI (hF.kd 197) (hF.ln 197)).trans ?_
        refine gd_congr (fun _ => ?_)
        rfl
    refine itc (fun _ => ?_) (fun _ => ?_)
    · refine (bi_fR (hF.kd 181) (hF.gr 36)).trans ?_
      refine (bi_aI (hF.kd 194) (hF.ln 194)).trans ?_
      refine gd_congr (fun _ => ?_)
      refine itc (fun _ => ?_) (fun _ => ?_)
      · rfl
      · refine (bi_fR (hF.kd 181) (hF.gr 42)).trans ?_
        refine (bi_aI (hF.kd 200) (hF.ln 200)).trans ?_
        refine gd_congr (fun _ => ?_)
        rfl
    refine itc (fun _ => ?_) (fun _ => ?_)
    · refine (bi_fR (hF.kd 181) (hF.gr 36)).trans ?_
      refine (bi_aI (hF.kd 194) (hF.ln 194)).trans ?_
      refine gd_congr (fun _ => ?_)
      refine itc (fun _ => ?_) (fun _ => ?_)
      · rfl
      · refine (bi_fR (hF.kd 181) (hF.gr 37)).trans ?_
        refine (bi_aI (hF.kd 195) (hF.ln 195)).trans ?_
        refine gd_congr (fun _ => ?_)
        refine itc (fun _ => ?_) (fun _ => ?_)
        · rfl
        · refine (bi_fR (hF.kd 181) (hF.gr 37)).trans ?_
          refine (bi_aI (hF.kd 195) (hF.ln 195)).trans ?_
          refine gd_congr (fun _ => ?_)
          rfl
    refine itc (fun _ => ?_) (fun _ => ?_)
    · refine (bi_fR (hF.kd 181) (hF.gr 53)).trans ?_
      refine (bi_aI (hF.kd 211) (hF.ln 211)).trans ?_
      refine gd_congr (fun _ => ?_)
      refine itc (fun _ => ?_) (fun _ => ?_)
      · rfl
      · rfl
    rfl
  · rfl
theorem keep_X11_state {M : Mem} {z : Int32 × Mem} {v0 : Option Nat} {v1 : Int32} {v2 : Int32} (h : L_X11_state v0 v1 v2 M = some z) : KG M z.2 := by
  unfold L_X11_state at h
  have hg : KG M M := KG.rf
  obtain ⟨w1, hw, h⟩ := bnd h
  have hg := hg.trans (keep_X11_isYear hw)
  rcases itor h with h | h
  · rcases itor h with h | h
    · obtain ⟨_, -, h⟩ := bnd h
      obtain ⟨_, -, h⟩ := bnd h
      cases h; exact hg
    rcases itor h with h | h
    · obtain ⟨_, -, h⟩ := bnd h
      obtain ⟨_, -, h⟩ := bnd h
      cases h; exact hg
    rcases itor h with h | h
    · obtain ⟨_, -, h⟩ := bnd h
      obtain ⟨_, -, h⟩ := bnd h
      cases h; exact hg
    rcases itor h with h | h
    · obtain ⟨_, -, h⟩ := bnd h
      obtain ⟨_, -, h⟩ := bnd h
      cases h; exact hg
    rcases itor h with h | h
    · obtain ⟨_, -, h⟩ := bnd h
      obtain ⟨_, -, h⟩ := bnd h
      rcases itor h with h | h
      · cases h; exact hg
      · obtain ⟨_, -, h⟩ := bnd h
        obtain ⟨_, -, h⟩ := bnd h
        cases h; exact hg
    rcases itor h with h | h
    · obtain ⟨_, -, h⟩ := bnd h
      obtain ⟨_, -, h⟩ := bnd h
      rcases itor h with h | h
      · cases h; exact hg
      · obtain ⟨_, -, h⟩ := bnd h
        obtain ⟨_, -, h⟩ := bnd h
        cases h; exact hg
    rcases itor h with h | h
    · obtain ⟨_, -, h⟩ := bnd h
      obtain ⟨_, -, h⟩ := bnd h
      rcases itor h with h | h
      · cases h; exact hg
      · obtain ⟨_, -, h⟩ := bnd h
        obtain ⟨_, -, h⟩ := bnd h
        rcases itor h with h | h
        · cases h; exact hg
        · obtain ⟨_, -, h⟩ := bnd h
          obtain ⟨_, -, h⟩ := bnd h
          cases h; exact hg
    rcases itor h with h | h
    · obtain ⟨_, -, h⟩ := bnd h
      obtain ⟨_, -, h⟩ := bnd h
      rcases itor h with h | h
      · cases h; exact hg
      · cases h; exact hg
    cases h; exact hg
  · cases h; exact hg
def S_X11_leans (v1 : Int32) (v2 : Int32) (M : Mem) : Option (Int32 × Mem) :=
  (L_X11_isYear v1 M).bind fun w1 =>
  if w1.1 = 0 then
  (some ((0 : Int32), w1.2))
  else
  ((L_X11_isYear v2 w1.2).bind fun w2 =>
  if w2.1 = 0 then
  (some ((0 : Int32), w2.2))
  else
  (gd (inb (v1 - (1700 : Int32)) 60) (
  if (gi w2.2 194 (v1 - (1700 : Int32)).toNatClampNeg) = 0 then
  (some ((0 : Int32), w2.2))
  else
  (gd (inb (v1 - (1700 : Int32)) 60) (
  if ¬ (((gi w2.2 196 (v1 - (1700 : Int32)).toNatClampNeg) >>> ((v2 - (1700 : Int32)) &&& 31)) &&& (1 : Int32)) = (1 : Int32) then
  (some ((0 : Int32), w2.2))
  else
  (some ((1 : Int32), w2.2)))))))
theorem eqS_X11_leans {M : Mem} (hF : FSR M) {v1 : Int32} {v2 : Int32} : L_X11_leans (some 181) v1 v2 M = S_X11_leans v1 v2 M := by
  unfold L_X11_leans S_X11_leans
  refine bdc rfl (fun w1 hw => ?_)
  have hF := hF.kg (keep_X11_isYear hw)
  refine itc (fun _ => ?_) (fun _ => ?_)
  · rfl
  · refine bdc rfl (fun w2 hw => ?_)
    have hF := hF.kg (keep_X11_isYear hw)
    refine itc (fun _ => ?_) (fun _ => ?_)
    · rfl
    · refine (bi_fR (hF.kd 181) (hF.gr 36)).trans ?_
      refine (bi_aI (hF.kd 194) (hF.ln 194)).trans ?_
      refine gd_congr (fun _ => ?_)
      refine itc (fun _ => ?_) (fun _ => ?_)
      · rfl
      · refine (bi_fR (hF.kd 181) (hF.gr 38)).trans ?_
        refine (bi_aI (hF.kd 196) (hF.ln 196)).trans ?_
        refine gd_congr (fun _ => ?_)
        refine itc (fun _ => ?_) (fun _ => ?_)
        · rfl
        · rfl
theorem keep_X11_leans {M : Mem} {z : Int32 × Mem} {v0 : Option Nat} {v1 : Int32} {v2 : Int32} (h : L_X11_leans v0 v1 v2 M = some z) : KG M z.2 := by
  unfold L_X11_leans at h
  have hg : KG M M := KG.rf
  obtain ⟨w1, hw, h⟩ := bnd h
  have hg := hg.trans (keep_X11_isYear hw)
  rcases itor h with h | h
  · obtain ⟨_, -, h⟩ := bnd h
    cases h; exact hg
  · obtain ⟨w2, hw, h⟩ := bnd h
    have hg := hg.trans (keep_X11_isYear hw)
    rcases itor h with h | h
    · obtain ⟨_, -, h⟩ := bnd h
      cases h; exact hg
    · obtain ⟨_, -, h⟩ := bnd h
      obtain ⟨_, -, h⟩ := bnd h
      rcases itor h with h | h
      · obtain ⟨_, -, h⟩ := bnd h
        cases h; exact hg
      · obtain ⟨_, -, h⟩ := bnd h
        obtain ⟨_, -, h⟩ := bnd h
        rcases itor h with h | h
        · obtain ⟨_, -, h⟩ := bnd h
          cases h; exact hg
        · obtain ⟨_, -, h⟩ := bnd h
          cases h; exact hg
def SJ_X11_constOf_41 (k_6 : Int64 → Int32 → Int32 → Mem → Option (Int32 × Mem)) : Nat → Int64 → Int32 → Int32 → Int32 → Int32 → Mem → Option (Int32 × Mem)
  | 0 => fun _ _ _ _ _ _ => none
  | n + 1 => fun v2 v4 v5 v6 v7 M =>
  gd (inb v6 60) (
  if (gi M 197 v6.toNatClampNeg) ≤ v7 then
  (gd (inb v6 60) (
  k_6 v2 (gi M 195 v6.toNatClampNeg) (v5 + 1) M))
  else
  (gd (inb (((8 : Int32) * v6) + v7) 480) (
  if ¬ (gl M 198 (((8 : Int32) * v6) + v7).toNatClampNeg) = v2 then
  (SJ_X11_constOf_41 k_6 n v2 v4 v5 v6 (v7 + 1) M)
  else
  (some (((8 : Int32) * v4) + v7, M)))))
theorem eqJ_X11_constOf_41 {k_6 : Option Nat → Int64 → Int32 → Int32 → Mem → Option (Int32 × Mem)} {q_6 : Int64 → Int32 → Int32 → Mem → Option (Int32 × Mem)} (hk_6 : ∀ (v2 : Int64) (v4 : Int32) (v5 : Int32) (Ma : Mem), FSR Ma → k_6 (some 181) v2 v4 v5 Ma = q_6 v2 v4 v5 Ma) : ∀ (n : Nat) (v2 : Int64) (v4 : Int32) (v5 : Int32) (v6 : Int32) (v7 : Int32) (M : Mem), FSR M → J_X11_constOf_41 k_6 n (some 181) v2 v4 v5 v6 v7 M = SJ_X11_constOf_41 q_6 n v2 v4 v5 v6 v7 M := by
  intro n
  induction n with
  | zero => intro v2 v4 v5 v6 v7 M hF; rfl
  | succ n ih =>
    intro v2 v4 v5 v6 v7 M hF
    unfold J_X11_constOf_41 SJ_X11_constOf_41
    refine (bi_fR (hF.kd 181) (hF.gr 39)).trans ?_
    refine (bi_aI (hF.kd 197) (hF.ln 197)).trans ?_
    refine gd_congr (fun _ => ?_)
    refine itc (fun _ => ?_) (fun _ => ?_)
    · refine (bi_fR (hF.kd 181) (hF.gr 37)).trans ?_
      refine (bi_aI (hF.kd 195) (hF.ln 195)).trans ?_
      refine gd_congr (fun _ => ?_)
      exact hk_6 _ _ _ _ hF
    · refine (bi_fR (hF.kd 181) (hF.gr 40)).trans ?_
      refine (bi_aL (hF.kd 198) (hF.ln 198)).trans ?_
      refine gd_congr (fun _ => ?_)
      refine itc (fun _ => ?_) (fun _ => ?_)
      · exact ih _ _ _ _ _ _ hF
      · rfl
theorem keepJ_X11_constOf_41 {z : Int32 × Mem} {k_6 : Option Nat → Int64 → Int32 → Int32 → Mem → Option (Int32 × Mem)} (hk_6 : ∀ (v0 : Option Nat) (v2 : Int64) (v4 : Int32) (v5 : Int32) (Ma : Mem), k_6 v0 v2 v4 v5 Ma = some z → KG Ma z.2) : ∀ (n : Nat) (v0 : Option Nat) (v2 : Int64) (v4 : Int32) (v5 : Int32) (v6 : Int32) (v7 : Int32) (M : Mem), J_X11_constOf_41 k_6 n v0 v2 v4 v5 v6 v7 M = some z → KG M z.2 := by
  intro n
  induction n with
  | zero => intro v0 v2 v4 v5 v6 v7 M h; exact nomatch h
  | succ n ih =>
    intro v0 v2 v4 v5 v6 v7 M h
    unfold J_X11_constOf_41 at h
    have hg : KG M M := KG.rf
    obtain ⟨_, -, h⟩ := bnd h
    obtain ⟨_, -, h⟩ := bnd h
    rcases itor h with h | h
    · obtain ⟨_, -, h⟩ := bnd h
      obtain ⟨_, -, h⟩ := bnd h
      exact hg.trans (hk_6 _ _ _ _ _ h)
    · obtain ⟨_, -, h⟩ := bnd h
      obtain ⟨_, -, h⟩ := bnd h
      rcases itor h with h | h
      · exact hg.trans (ih _ _ _ _ _ _ _ h)
      · cases h; exact hg
def SJ_X11_constOf_6 : Nat → Int64 → Int32 → Int32 → Mem → Option (Int32 × Mem)
  | 0 => fun _ _ _ _ => none
  | n + 1 => fun v2 v4 v5 M =>
  if (30 : Int32) < v5 then
  (some ((-1 : Int32), M))
  else
  (if v4 < 0 then
  (some ((-1 : Int32), M))
  else
  (gd (inb ((30 : Int32) + v4) 60) (
  if (gi M 194 ((30 : Int32) + v4).toNatClampNeg) = 0 then
  (some ((-1 : Int32), M))
  else
  (SJ_X11_constOf_41 (SJ_X11_constOf_6 n) FU v2 v4 v5 ((30 : Int32) + v4) (0 : Int32) M))))
theorem eqJ_X11_constOf_6 : ∀ (n : Nat) (v2 : Int64) (v4 : Int32) (v5 : Int32) (M : Mem), FSR M → J_X11_constOf_6 n (some 181) v2 v4 v5 M = SJ_X11_constOf_6 n v2 v4 v5 M := by
  intro n
  induction n with
  | zero => intro v2 v4 v5 M hF; rfl
  | succ n ih =>
    intro v2 v4 v5 M hF
    unfold J_X11_constOf_6 SJ_X11_constOf_6
    refine itc (fun _ => ?_) (fun _ => ?_)
    · rfl
    · refine itc (fun _ => ?_) (fun _ => ?_)
      · rfl
      · refine (bi_fR (hF.kd 181) (hF.gr 36)).trans ?_
        refine (bi_aI (hF.kd 194) (hF.ln 194)).trans ?_
        refine gd_congr (fun _ => ?_)
        refine itc (fun _ => ?_) (fun _ => ?_)
        · rfl
        · exact eqJ_X11_constOf_41 ih FU _ _ _ _ _ _ hF
theorem keepJ_X11_constOf_6 {z : Int32 × Mem} : ∀ (n : Nat) (v0 : Option Nat) (v2 : Int64) (v4 : Int32) (v5 : Int32) (M : Mem), J_X11_constOf_6 n v0 v2 v4 v5 M = some z → KG M z.2 := by
  intro n
  induction n with
  | zero => intro v0 v2 v4 v5 M h; exact nomatch h
  | succ n ih =>
    intro v0 v2 v4 v5 M h
    unfold J_X11_constOf_6 at h
    have hg : KG M M := KG.rf
    rcases itor h with h | h
    · cases h; exact hg
    · rcases itor h with h | h
      · cases h; exact hg
      · obtain ⟨_, -, h⟩ := bnd h
        obtain ⟨_, -, h⟩ := bnd h
        rcases itor h with h | h
        · cases h; exact hg
        · exact hg.trans (keepJ_X11_constOf_41 ih FU _ _ _ _ _ _ _ h)
def S_X11_constOf (v1 : Int32) (v2 : Int64) (M : Mem) : Option (Int32 × Mem) :=
  SJ_X11_constOf_6 FU v2 v1 (0 : Int32) M
theorem eqS_X11_constOf {M : Mem} (hF : FSR M) {v1 : Int32} {v2 : Int64} : L_X11_constOf (some 181) v1 v2 M = S_X11_constOf v1 v2 M := by
  unfold L_X11_constOf S_X11_constOf
  exact eqJ_X11_constOf_6 FU _ _ _ _ hF
theorem keep_X11_constOf {M : Mem} {z : Int32 × Mem} {v0 : Option Nat} {v1 : Int32} {v2 : Int64} (h : L_X11_constOf v0 v1 v2 M = some z) : KG M z.2 := by
  unfold L_X11_constOf at h
  have hg : KG M M := KG.rf
  exact hg.trans (keepJ_X11_constOf_6 FU _ _ _ _ _ h)
def S_X11_isSmall (v0 : Int64) (M : Mem) : Option (Int32 × Mem) :=
  if (1000000000000000 : Int64) < v0 then
  (some ((0 : Int32), M))
  else
  (if v0 < (-1000000000000000 : Int64) then
  (some ((0 : Int32), M))
  else
  (some ((1 : Int32), M)))
theorem eqS_X11_isSmall {M : Mem} (hF : FSR M) {v0 : Int64} : L_X11_isSmall v0 M = S_X11_isSmall v0 M := by
  unfold L_X11_isSmall S_X11_isSmall
  refine itc (fun _ => ?_) (fun _ => ?_)
  · rfl
  · refine itc (fun _ => ?_) (fun _ => ?_)
    · rfl
    · rfl
theorem keep_X11_isSmall {M : Mem} {z : Int32 × Mem} {v0 : Int64} (h : L_X11_isSmall v0 M = some z) : KG M z.2 := by
  unfold L_X11_isSmall at h
  have hg : KG M M := KG.rf
  rcases itor h with h | h
  · obtain ⟨_, -, h⟩ := bnd h
    cases h; exact hg
  · rcases itor h with h | h
    · obtain ⟨_, -, h⟩ := bnd h
      cases h; exact hg
    · obtain ⟨_, -, h⟩ := bnd h
      cases h; exact hg
def SJ_X11_comesOut_333 (k_39 : Int32 → Int32 → Int32 → Int32 → Int32 → Mem → Option (Int32 × Mem)) (v1 : Int32) (v2 : Int32) (v3 : Int32) (v4 : Int32) (v5 : Int32) (M : Mem) : Option (Int32 × Mem) :=
  gd (inb (v4 - (1 : Int32)) 4000) (
  (L_X11_isSmall (gl M 219 (v4 - (1 : Int32)).toNatClampNeg) M).bind fun w1 =>
  if ¬ w1.1 = 0 then
  (k_39 v1 v2 v3 v4 (v5 + 1) w1.2)
  else
  (some ((0 : Int32), w1.2)))
theorem eqJ_X11_comesOut_333 {M : Mem} {k_39 : Option Nat → Int32 → Int32 → Int32 → Int32 → Int32 → Mem → Option (Int32 × Mem)} {q_39 : Int32 → Int32 → Int32 → Int32 → Int32 → Mem → Option (Int32 × Mem)} (hk_39 : ∀ (v1 : Int32) (v2 : Int32) (v3 : Int32) (v4 : Int32) (v5 : Int32) (Ma : Mem), FSR Ma → k_39 (some 181) v1 v2 v3 v4 v5 Ma = q_39 v1 v2 v3 v4 v5 Ma) (hF : FSR M) {v1 : Int32} {v2 : Int32} {v3 : Int32} {v4 : Int32} {v5 : Int32} : J_X11_comesOut_333 k_39 (some 181) v1 v2 v3 v4 v5 M = SJ_X11_comesOut_333 q_39 v1 v2 v3 v4 v5 M := by
  unfold J_X11_comesOut_333 SJ_X11_comesOut_333
  refine (bi_fR (hF.kd 181) (hF.gr 62)).trans ?_
  refine (bi_aL (hF.kd 219) (hF.ln 219)).trans ?_
  refine gd_congr (fun _ => ?_)
  refine bdc rfl (fun w1 hw => ?_)
  have hF := hF.kg (keep_X11_isSmall hw)
  refine itc (fun _ => ?_) (fun _ => ?_)
  · exact hk_39 _ _ _ _ _ _ hF
  · rfl
theorem keepJ_X11_comesOut_333 {M : Mem} {z : Int32 × Mem} {k_39 : Option Nat → Int32 → Int32 → Int32 → Int32 → Int32 → Mem → Option (Int32 × Mem)} (hk_39 : ∀ (v0 : Option Nat) (v1 : Int32) (v2 : Int32) (v3 : Int32) (v4 : Int32) (v5 : Int32) (Ma : Mem), k_39 v0 v1 v2 v3 v4 v5 Ma = some z → KG Ma z.2) {v0 : Option Nat} {v1 : Int32} {v2 : Int32} {v3 : Int32} {v4 : Int32} {v5 : Int32} (h : J_X11_comesOut_333 k_39 v0 v1 v2 v3 v4 v5 M = some z) : KG M z.2 := by
  unfold J_X11_comesOut_333 at h
  have hg : KG M M := KG.rf
  obtain ⟨_, -, h⟩ := bnd h
  obtain ⟨_, -, h⟩ := bnd h
  obtain ⟨w1, hw, h⟩ := bnd h
  have hg := hg.trans (keep_X11_isSmall hw)
  rcases itor h with h | h
  · exact hg.trans (hk_39 _ _ _ _ _ _ _ h)
  · obtain ⟨_, -, h⟩ := bnd h
    cases h; exact hg
def SJ_X11_comesOut_124 (k_39 : Int32 → Int32 → Int32 → Int32 → Int32 → Mem → Option (Int32 × Mem)) (v1 : Int32) (v2 : Int32) (v3 : Int32) (v4 : Int32) (v5 : Int32) (s1 : Int32) (M : Mem) : Option (Int32 × Mem) :=
  gd (inb (v3 + v5) 72000) (
  (S_X11_constOf s1 (gl M 209 (v3 + v5).toNatClampNeg) M).bind fun w2 =>
  if w2.1 < 0 then
  (some ((0 : Int32), w2.2))
  else
  (gd (inb w2.1 240) (
  if ¬ (gi w2.2 217 w2.1.toNatClampNeg) = 0 then
  (gd (inb w2.1 240) (
  gd (inb v4 4000) (
  SJ_X11_comesOut_333 k_39 v1 v2 v3 (v4 + 1) v5 (sl w2.2 219 v4.toNatClampNeg (gl w2.2 218 w2.1.toNatClampNeg)))))
  else
  (some ((0 : Int32), w2.2)))))
theorem eqJ_X11_comesOut_124 {M : Mem} {k_39 : Option Nat → Int32 → Int32 → Int32 → Int32 → Int32 → Mem → Option (Int32 × Mem)} {q_39 : Int32 → Int32 → Int32 → Int32 → Int32 → Mem → Option (Int32 × Mem)} (hk_39 : ∀ (v1 : Int32) (v2 : Int32) (v3 : Int32) (v4 : Int32) (v5 : Int32) (Ma : Mem), FSR Ma → k_39 (some 181) v1 v2 v3 v4 v5 Ma = q_39 v1 v2 v3 v4 v5 Ma) (hF : FSR M) {v1 : Int32} {v2 : Int32} {v3 : Int32} {v4 : Int32} {v5 : Int32} {s1 : Int32} : J_X11_comesOut_124 k_39 (some 181) v1 v2 v3 v4 v5 (some 181) s1 M = SJ_X11_comesOut_124 q_39 v1 v2 v3 v4 v5 s1 M := by
  unfold J_X11_comesOut_124 SJ_X11_comesOut_124
  refine (bi_fR (hF.kd 181) (hF.gr 51)).trans ?_
  refine (bi_aL (hF.kd 209) (hF.ln 209)).trans ?_
  refine gd_congr (fun _ => ?_)
  refine (bi_ck (hF.kd 181)).trans ?_
  refine bdc (eqS_X11_constOf hF) (fun w2 hw => ?_)
  have hF := hF.kg (keep_X11_constOf hw)
  refine itc (fun _ => ?_) (fun _ => ?_)
  · rfl
  · refine (bi_fR (hF.kd 181) (hF.gr 60)).trans ?_
    refine (bi_aI (hF.kd 217) (hF.ln 217)).trans ?_
    refine gd_congr (fun _ => ?_)
    refine itc (fun _ => ?_) (fun _ => ?_)
    · refine (bi_fR (hF.kd 181) (hF.gr 62)).trans ?_
      refine (bi_fR (hF.kd 181) (hF.gr 61)).trans ?_
      refine (bi_aL (hF.kd 218) (hF.ln 218)).trans ?_
      refine gd_congr (fun _ => ?_)
      refine (bi_uL (hF.kd 219) (hF.ln 219)).trans ?_
      refine gd_congr (fun _ => ?_)
      have hF : FSR (sl w2.2 219 v4.toNatClampNeg (gl w2.2 218 w2.1.toNatClampNeg)) := hF.kg ⟨rfl, rfl, rfl⟩
      exact eqJ_X11_comesOut_333 hk_39 hF
    · rfl
theorem keepJ_X11_comesOut_124 {M : Mem} {z : Int32 × Mem} {k_39 : Option Nat → Int32 → Int32 → Int32 → Int32 → Int32 → Mem → Option (Int32 × Mem)} (hk_39 : ∀ (v0 : Option Nat) (v1 : Int32) (v2 : Int32) (v3 : Int32) (v4 : Int32) (v5 : Int32) (Ma : Mem), k_39 v0 v1 v2 v3 v4 v5 Ma = some z → KG Ma z.2) {v0 : Option Nat} {v1 : Int32} {v2 : Int32} {v3 : Int32} {v4 : Int32} {v5 : Int32} {s0 : Option Nat} {s1 : Int32} (h : J_X11_comesOut_124 k_39 v0 v1 v2 v3 v4 v5 s0 s1 M = some z) : KG M z.2 := by
  unfold J_X11_comesOut_124 at h
  have hg : KG M M := KG.rf
  obtain ⟨_, -, h⟩ := bnd h
  obtain ⟨_, -, h⟩ := bnd h
  obtain ⟨_, -, h⟩ := bnd h
  obtain ⟨w2, hw, h⟩ := bnd h
  have hg := hg.trans (keep_X11_constOf hw)
  rcases itor h with h | h
  · obtain ⟨_, -, h⟩ := bnd h
    cases h; exact hg
  · obtain ⟨_, -, h⟩ := bnd h
    obtain ⟨_, -, h⟩ := bnd h
    rcases itor h with h | h
    · obtain ⟨_, -, h⟩ := bnd h
      obtain ⟨_, -, h⟩ := bnd h
      obtain ⟨_, -, h⟩ := bnd h
      obtain ⟨_, hw, h⟩ := bnd h
      have hg := hg.trans (kg_uL hw)
      exact hg.trans (keepJ_X11_comesOut_333 hk_39 h)
    · obtain ⟨_, -, h⟩ := bnd h
      cases h; exact hg
def SJ_X11_comesOut_332 (k_39 : Int32 → Int32 → Int32 → Int32 → Int32 → Mem → Option (Int32 × Mem)) (v1 : Int32) (v2 : Int32) (v3 : Int32) (v4 : Int32) (v5 : Int32) (s1 : Int32) (s2 : Int64) (M : Mem) : Option (Int32 × Mem) :=
  gd (inb s1 4000) (
  SJ_X11_comesOut_333 k_39 v1 v2 v3 v4 v5 (sl M 219 s1.toNatClampNeg s2))
theorem eqJ_X11_comesOut_332 {M : Mem} {k_39 : Option Nat → Int32 → Int32 → Int32 → Int32 → Int32 → Mem → Option (Int32 × Mem)} {q_39 : Int32 → Int32 → Int32 → Int32 → Int32 → Mem → Option (Int32 × Mem)} (hk_39 : ∀ (v1 : Int32) (v2 : Int32) (v3 : Int32) (v4 : Int32) (v5 : Int32) (Ma : Mem), FSR Ma → k_39 (some 181) v1 v2 v3 v4 v5 Ma = q_39 v1 v2 v3 v4 v5 Ma) (hF : FSR M) {v1 : Int32} {v2 : Int32} {v3 : Int32} {v4 : Int32} {v5 : Int32} {s1 : Int32} {s2 : Int64} : J_X11_comesOut_332 k_39 (some 181) v1 v2 v3 v4 v5 (some 219) s1 s2 M = SJ_X11_comesOut_332 q_39 v1 v2 v3 v4 v5 s1 s2 M := by
  unfold J_X11_comesOut_332 SJ_X11_comesOut_332
  refine (bi_uL (hF.kd 219) (hF.ln 219)).trans ?_
  refine gd_congr (fun _ => ?_)
  have hF : FSR (sl M 219 s1.toNatClampNeg s2) := hF.kg ⟨rfl, rfl, rfl⟩
  exact eqJ_X11_comesOut_333 hk_39 hF
theorem keepJ_X11_comesOut_332 {M : Mem} {z : Int32 × Mem} {k_39 : Option Nat → Int32 → Int32 → Int32 → Int32 → Int32 → Mem → Option (Int32 × Mem)} (hk_39 : ∀ (v0 : Option Nat) (v1 : Int32) (v2 : Int32) (v3 : Int32) (v4 : Int32) (v5 : Int32) (Ma : Mem), k_39 v0 v1 v2 v3 v4 v5 Ma = some z → KG Ma z.2) {v0 : Option Nat} {v1 : Int32} {v2 : Int32} {v3 : Int32} {v4 : Int32} {v5 : Int32} {s0 : Option Nat} {s1 : Int32} {s2 : Int64} (h : J_X11_comesOut_332 k_39 v0 v1 v2 v3 v4 v5 s0 s1 s2 M = some z) : KG M z.2 := by
  unfold J_X11_comesOut_332 at h
  have hg : KG M M := KG.rf
  obtain ⟨_, hw, h⟩ := bnd h
  have hg := hg.trans (kg_uL hw)
  exact hg.trans (keepJ_X11_comesOut_333 hk_39 h)
def SJ_X11_comesOut_289 (k_39 : Int32 → Int32 → Int32 → Int32 → Int32 → Mem → Option (Int32 × Mem)) (v1 : Int32) (v2 : Int32) (v3 : Int32) (v4 : Int32) (v5 : Int32) (v6 : Int32) (v7 : Int64) (v9 : Int64) (M : Mem) : Option (Int32 × Mem) :=
  if ¬ v6 = (42 : Int32) then
  (if ¬ v6 = (43 : Int32) then
  (SJ_X11_comesOut_332 k_39 v1 v2 v3 v4 v5 (v4 - (1 : Int32)) (v7 - v9) M)
  else
  (SJ_X11_comesOut_332 k_39 v1 v2 v3 v4 v5 (v4 - (1 : Int32)) (v7 + v9) M))
  else
  (SJ_X11_comesOut_332 k_39 v1 v2 v3 v4 v5 (v4 - (1 : Int32)) (v7 * v9) M)
theorem eqJ_X11_comesOut_289 {M : Mem} {k_39 : Option Nat → Int32 → Int32 → Int32 → Int32 → Int32 → Mem → Option (Int32 × Mem)} {q_39 : Int32 → Int32 → Int32 → Int32 → Int32 → Mem → Option (Int32 × Mem)} (hk_39 : ∀ (v1 : Int32) (v2 : Int32) (v3 : Int32) (v4 : Int32) (v5 : Int32) (Ma : Mem), FSR Ma → k_39 (some 181) v1 v2 v3 v4 v5 Ma = q_39 v1 v2 v3 v4 v5 Ma) (hF : FSR M) {v1 : Int32} {v2 : Int32} {v3 : Int32} {v4 : Int32} {v5 : Int32} {v6 : Int32} {v7 : Int64} {v9 : Int64} : J_X11_comesOut_289 k_39 (some 181) v1 v2 v3 v4 v5 v6 v7 v9 M = SJ_X11_comesOut_289 q_39 v1 v2 v3 v4 v5 v6 v7 v9 M := by
  unfold J_X11_comesOut_289 SJ_X11_comesOut_289
  refine (bi_fR (hF.kd 181) (hF.gr 62)).trans ?_
  refine itc (fun _ => ?_) (fun _ => ?_)
  · refine itc (fun _ => ?_) (fun _ => ?_)
    · exact eqJ_X11_comesOut_332 hk_39 hF
    · exact eqJ_X11_comesOut_332 hk_39 hF
  · exact eqJ_X11_comesOut_332 hk_39 hF
theorem keepJ_X11_comesOut_289 {M : Mem} {z : Int32 × Mem} {k_39 : Option Nat → Int32 → Int32 → Int32 → Int32 → Int32 → Mem → Option (Int32 × Mem)} (hk_39 : ∀ (v0 : Option Nat) (v1 : Int32) (v2 : Int32) (v3 : Int32) (v4 : Int32) (v5 : Int32) (Ma : Mem), k_39 v0 v1 v2 v3 v4 v5 Ma = some z → KG Ma z.2) {v0 : Option Nat} {v1 : Int32} {v2 : Int32} {v3 : Int32} {v4 : Int32} {v5 : Int32} {v6 : Int32} {v7 : Int64} {v9 : Int64} (h : J_X11_comesOut_289 k_39 v0 v1 v2 v3 v4 v5 v6 v7 v9 M = some z) : KG M z.2 := by
  unfold J_X11_comesOut_289 at h
  have hg : KG M M := KG.rf
  obtain ⟨_, -, h⟩ := bnd h
  rcases itor h with h | h
  · rcases itor h with h | h
    · exact hg.trans (keepJ_X11_comesOut_332 hk_39 h)
    · exact hg.trans (keepJ_X11_comesOut_332 hk_39 h)
  · exact hg.trans (keepJ_X11_comesOut_332 hk_39 h)
def SJ_X11_comesOut_259 (k_39 : Int32 → Int32 → Int32 → Int32 → Int32 → Mem → Option (Int32 × Mem)) (v1 : Int32) (v2 : Int32) (v3 : Int32) (v4 : Int32) (v5 : Int32) (v6 : Int32) (v7 : Int64) (v9 : Int64) (v11 : Int64) (s0 : Int64) (M : Mem) : Option (Int32 × Mem) :=
  if ¬ v6 = (42 : Int32) then
  (SJ_X11_comesOut_289 k_39 v1 v2 v3 v4 v5 v6 v7 v9 M)
  else
  (if v7 = (0 : Int64) then
  (SJ_X11_comesOut_289 k_39 v1 v2 v3 v4 v5 v6 v7 v9 M)
  else
  (if s0 = 0 then none else
  if v11 ≤ ((1000000000000000 : Int64) / s0) then
  (SJ_X11_comesOut_289 k_39 v1 v2 v3 v4 v5 v6 v7 v9 M)
  else
  (some ((0 : Int32), M))))
theorem eqJ_X11_comesOut_259 {M : Mem} {k_39 : Option Nat → Int32 → Int32 → Int32 → Int32 → Int32 → Mem → Option (Int32 × Mem)} {q_39 : Int32 → Int32 → Int32 → Int32 → Int32 → Mem → Option (Int32 × Mem)} (hk_39 : ∀ (v1 : Int32) (v2 : Int32) (v3 : Int32) (v4 : Int32) (v5 : Int32) (Ma : Mem), FSR Ma → k_39 (some 181) v1 v2 v3 v4 v5 Ma = q_39 v1 v2 v3 v4 v5 Ma) (hF : FSR M) {v1 : Int32} {v2 : Int32} {v3 : Int32} {v4 : Int32} {v5 : Int32} {v6 : Int32} {v7 : Int64} {v9 : Int64} {v11 : Int64} {s0 : Int64} : J_X11_comesOut_259 k_39 (some 181) v1 v2 v3 v4 v5 v6 v7 v9 v11 s0 M = SJ_X11_comesOut_259 q_39 v1 v2 v3 v4 v5 v6 v7 v9 v11 s0 M := by
  unfold J_X11_comesOut_259 SJ_X11_comesOut_259
  refine itc (fun _ => ?_) (fun _ => ?_)
  · exact eqJ_X11_comesOut_289 hk_39 hF
  · refine itc (fun _ => ?_) (fun _ => ?_)
    · exact eqJ_X11_comesOut_289 hk_39 hF
    · refine itc (fun _ => rfl) (fun _ => ?_)
      refine itc (fun _ => ?_) (fun _ => ?_)
      · exact eqJ_X11_comesOut_289 hk_39 hF
      · rfl
theorem keepJ_X11_comesOut_259 {M : Mem} {z : Int32 × Mem} {k_39 : Option Nat → Int32 → Int32 → Int32 → Int32 → Int32 → Mem → Option (Int32 × Mem)} (hk_39 : ∀ (v0 : Option Nat) (v1 : Int32) (v2 : Int32) (v3 : Int32) (v4 : Int32) (v5 : Int32) (Ma : Mem), k_39 v0 v1 v2 v3 v4 v5 Ma = some z → KG Ma z.2) {v0 : Option Nat} {v1 : Int32} {v2 : Int32} {v3 : Int32} {v4 : Int32} {v5 : Int32} {v6 : Int32} {v7 : Int64} {v9 : Int64} {v11 : Int64} {s0 : Int64} (h : J_X11_comesOut_259 k_39 v0 v1 v2 v3 v4 v5 v6 v7 v9 v11 s0 M = some z) : KG M z.2 := by
  unfold J_X11_comesOut_259 at h
  have hg : KG M M := KG.rf
  rcases itor h with h | h
  · exact hg.trans (keepJ_X11_comesOut_289 hk_39 h)
  · rcases itor h with h | h
    · exact hg.trans (keepJ_X11_comesOut_289 hk_39 h)
    · have h := nnz h
      rcases itor h with h | h
      · exact hg.trans (keepJ_X11_comesOut_289 hk_39 h)
      · obtain ⟨_, -, h⟩ := bnd h
        cases h; exact hg
def SJ_X11_comesOut_242 (k_39 : Int32 → Int32 → Int32 → Int32 → Int32 → Mem → Option (Int32 × Mem)) (v1 : Int32) (v2 : Int32) (v3 : Int32) (v4 : Int32) (v5 : Int32) (v6 : Int32) (v7 : Int64) (v9 : Int64) (s0 : Int64) (M : Mem) : Option (Int32 × Mem) :=
  if (0 : Int64) ≤ v7 then
  (SJ_X11_comesOut_259 k_39 v1 v2 v3 v4 v5 v6 v7 v9 s0 v7 M)
  else
  (SJ_X11_comesOut_259 k_39 v1 v2 v3 v4 v5 v6 v7 v9 s0 (-v7) M)
theorem eqJ_X11_comesOut_242 {M : Mem} {k_39 : Option Nat → Int32 → Int32 → Int32 → Int32 → Int32 → Mem → Option (Int32 × Mem)} {q_39 : Int32 → Int32 → Int32 → Int32 → Int32 → Mem → Option (Int32 × Mem)} (hk_39 : ∀ (v1 : Int32) (v2 : Int32) (v3 : Int32) (v4 : Int32) (v5 : Int32) (Ma : Mem), FSR Ma → k_39 (some 181) v1 v2 v3 v4 v5 Ma = q_39 v1 v2 v3 v4 v5 Ma) (hF : FSR M) {v1 : Int32} {v2 : Int32} {v3 : Int32} {v4 : Int32} {v5 : Int32} {v6 : Int32} {v7 : Int64} {v9 : Int64} {s0 : Int64} : J_X11_comesOut_242 k_39 (some 181) v1 v2 v3 v4 v5 v6 v7 v9 s0 M = SJ_X11_comesOut_242 q_39 v1 v2 v3 v4 v5 v6 v7 v9 s0 M := by
  unfold J_X11_comesOut_242 SJ_X11_comesOut_242
  refine itc (fun _ => ?_) (fun _ => ?_)
  · exact eqJ_X11_comesOut_259 hk_39 hF
  · exact eqJ_X11_comesOut_259 hk_39 hF
theorem keepJ_X11_comesOut_242 {M : Mem} {z : Int32 × Mem} {k_39 : Option Nat → Int32 → Int32 → Int32 → Int32 → Int32 → Mem → Option (Int32 × Mem)} (hk_39 : ∀ (v0 : Option Nat) (v1 : Int32) (v2 : Int32) (v3 : Int32) (v4 : Int32) (v5 : Int32) (Ma : Mem), k_39 v0 v1 v2 v3 v4 v5 Ma = some z → KG Ma z.2) {v0 : Option Nat} {v1 : Int32} {v2 : Int32} {v3 : Int32} {v4 : Int32} {v5 : Int32} {v6 : Int32} {v7 : Int64} {v9 : Int64} {s0 : Int64} (h : J_X11_comesOut_242 k_39 v0 v1 v2 v3 v4 v5 v6 v7 v9 s0 M = some z) : KG M z.2 := by
  unfold J_X11_comesOut_242 at h
  have hg : KG M M := KG.rf
  rcases itor h with h | h
  · exact hg.trans (keepJ_X11_comesOut_259 hk_39 h)
  · exact hg.trans (keepJ_X11_comesOut_259 hk_39 h)
def SJ_X11_comesOut_39 : Nat → Int32 → Int32 → Int32 → Int32 → Int32 → Mem → Option (Int32 × Mem)
  | 0 => fun _ _ _ _ _ _ => none
  | n + 1 => fun v1 v2 v3 v4 v5 M =>
  gd (inb (v3 + v5) 72000) (
  if (gi M 208 (v3 + v5).toNatClampNeg) = (11 : Int32) then
  (gd (inb (v4 - (1 : Int32)) 4000) (
  gd (inb v1 240) (
  some ((1 : Int32), sl M 218 v1.toNatClampNeg (gl M 219 (v4 - (1 : Int32)).toNatClampNeg)))))
  else
  (gd (inb (v3 + v5) 72000) (
  if ¬ (gi M 208 (v3 + v5).toNatClampNeg) = 0 then
  (if ¬ (gi M 208 (v3 + v5).toNatClampNeg) = (6 : Int32) then
  (if ¬ (gi M 208 (v3 + v5).toNatClampNeg) = (8 : Int32) then
  (gd (inb ((v4 + (-1)) - (1 : Int32)) 4000) (
  gd (inb (v4 + (-1)) 4000) (
  if (0 : Int64) ≤ (gl M 219 (v4 + (-1)).toNatClampNeg) then
  (SJ_X11_comesOut_242 (SJ_X11_comesOut_39 n) v1 v2 v3 (v4 + (-1)) v5 (gi M 208 (v3 + v5).toNatClampNeg) (gl M 219 ((v4 + (-1)) - (1 : Int32)).toNatClampNeg) (gl M 219 (v4 + (-1)).toNatClampNeg) (gl M 219 (v4 + (-1)).toNatClampNeg) M)
  else
  (SJ_X11_comesOut_242 (SJ_X11_comesOut_39 n) v1 v2 v3 (v4 + (-1)) v5 (gi M 208 (v3 + v5).toNatClampNeg) (gl M 219 ((v4 + (-1)) - (1 : Int32)).toNatClampNeg) (gl M 219 (v4 + (-1)).toNatClampNeg) (-(gl M 219 (v4 + (-1)).toNatClampNeg)) M))))
  else
  (gd (inb (v4 - (1 : Int32)) 4000) (
  gd (inb (v4 - (1 : Int32)) 4000) (
  SJ_X11_comesOut_333 (SJ_X11_comesOut_39 n) v1 v2 v3 v4 v5 (sl M 219 (v4 - (1 : Int32)).toNatClampNeg (-(gl M 219 (v4 - (1 : Int32)).toNatClampNeg)))))))
  else
  (gd (inb (v3 + v5) 72000) (
  if 0 ≤ (gi M 210 (v3 + v5).toNatClampNeg) then
  (gd (inb (v3 + v5) 72000) (
  SJ_X11_comesOut_124 (SJ_X11_comesOut_39 n) v1 v2 v3 v4 v5 (gi M 210 (v3 + v5).toNatClampNeg) M))
  else
  (SJ_X11_comesOut_124 (SJ_X11_comesOut_39 n) v1 v2 v3 v4 v5 v2 M))))
  else
  (gd (inb (v3 + v5) 72000) (
  gd (inb v4 4000) (
  SJ_X11_comesOut_333 (SJ_X11_comesOut_39 n) v1 v2 v3 (v4 + 1) v5 (sl M 219 v4.toNatClampNeg (gl M 209 (v3 + v5).toNatClampNeg))))))))
theorem eqJ_X11_comesOut_39 : ∀ (n : Nat) (v1 : Int32) (v2 : Int32) (v3 : Int32) (v4 : Int32) (v5 : Int32) (M : Mem), FSR M → J_X11_comesOut_39 n (some 181) v1 v2 v3 v4 v5 M = SJ_X11_comesOut_39 n v1 v2 v3 v4 v5 M := by
  intro n
  induction n with
  | zero => intro v1 v2 v3 v4 v5 M hF; rfl
  | succ n ih =>
    intro v1 v2 v3 v4 v5 M hF
    unfold J_X11_comesOut_39 SJ_X11_comesOut_39
    refine (bi_fR (hF.kd 181) (hF.gr 50)).trans ?_
    refine (bi_aI (hF.kd 208) (hF.ln 208)).trans ?_
    refine gd_congr (fun _ => ?_)
    refine itc (fun _ => ?_) (fun _ => ?_)
    · refine (bi_fR (hF.kd 181) (hF.gr 61)).trans ?_
      refine (bi_fR (hF.kd 181) (hF.gr 62)).trans ?_
      refine (bi_aL (hF.kd 219) (hF.ln 219)).trans ?_
      refine gd_congr (fun _ => ?_)
      refine (bi_uL (hF.kd 218) (hF.ln 218)).trans ?_
      refine gd_congr (fun _ => ?_)
      have hF : FSR (sl M 218 v1.toNatClampNeg (gl M 219 (v4 - (1 : Int32)).toNatClampNeg)) := hF.kg ⟨rfl, rfl, rfl⟩
      rfl
    · refine (bi_fR (hF.kd 181) (hF.gr 50)).trans ?_
      refine (bi_aI (hF.kd 208) (hF.ln 208)).trans ?_
      refine gd_congr (fun _ => ?_)
      refine itc (fun _ => ?_) (fun _ => ?_)
      · refine itc (fun _ => ?_) (fun _ => ?_)
        · refine itc (fun _ => ?_) (fun _ => ?_)
          · refine (bi_fR (hF.kd 181) (hF.gr 62)).trans ?_
            refine (bi_aL (hF.kd 219) (hF.ln 219)).trans ?_
            refine gd_congr (fun _ => ?_)
            refine (bi_fR (hF.kd 181) (hF.gr 62)).trans ?_
            refine (bi_aL (hF.kd 219) (hF.ln 219)).trans ?_
            refine gd_congr (fun _ => ?_)
            refine itc (fun _ => ?_) (fun _ => ?_)
            · exact eqJ_X11_comesOut_242 ih hF
            · exact eqJ_X11_comesOut_242 ih hF
          · refine (bi_fR (hF.kd 181) (hF.gr 62)).trans ?_
            refine (bi_fR (hF.kd 181) (hF.gr 62)).trans ?_
            refine (bi_aL (hF.kd 219) (hF.ln 219)).trans ?_
            refine gd_congr (fun _ => ?_)
            refine (bi_uL (hF.kd 219) (hF.ln 219)).trans ?_
            refine gd_congr (fun _ => ?_)
            have hF : FSR (sl M 219 (v4 - (1 : Int32)).toNatClampNeg (-(gl M 219 (v4 - (1 : Int32)).toNatClampNeg))) := hF.kg ⟨rfl, rfl, rfl⟩
            exact eqJ_X11_comesOut_333 ih hF
        · refine (bi_fR (hF.kd 181) (hF.gr 52)).trans ?_
          refine (bi_aI (hF.kd 210) (hF.ln 210)).trans ?_
          refine gd_congr (fun _ => ?_)
          refine itc (fun _ => ?_) (fun _ => ?_)
          · refine (bi_fR (hF.kd 181) (hF.gr 52)).trans ?_
            refine (bi_aI (hF.kd 210) (hF.ln 210)).trans ?_
            refine gd_congr (fun _ => ?_)
            exact eqJ_X11_comesOut_124 ih hF
          · exact eqJ_X11_comesOut_124 ih hF
      · refine (bi_fR (hF.kd 181) (hF.gr 62)).trans ?_
        refine (bi_fR (hF.kd 181) (hF.gr 51)).trans ?_
        refine (bi_aL (hF.kd 209) (hF.ln 209)).trans ?_
        refine gd_congr (fun _ => ?_)
        refine (bi_uL (hF.kd 219) (hF.ln 219)).trans ?_
        refine gd_congr (fun _ => ?_)
        have hF : FSR (sl M 219 v4.toNatClampNeg (gl M 209 (v3 + v5).toNatClampNeg)) := hF.kg ⟨rfl, rfl, rfl⟩
        exact eqJ_X11_comesOut_333 ih hF
theorem keepJ_X11_comesOut_39 {z : Int32 × Mem} : ∀ (n : Nat) (v0 : Option Nat) (v1 : Int32) (v2 : Int32) (v3 : Int32) (v4 : Int32) (v5 : Int32) (M : Mem), J_X11_comesOut_39 n v0 v1 v2 v3 v4 v5 M = some z → KG M z.2 := by
  intro n
  induction n with
  | zero => intro v0 v1 v2 v3 v4 v5 M h; exact nomatch h
  | succ n ih =>
    intro v0 v1 v2 v3 v4 v5 M h
    unfold J_X11_comesOut_39 at h
    have hg : KG M M := KG.rf
    obtain ⟨_, -, h⟩ := bnd h
    obtain ⟨_, -, h⟩ := bnd h
    rcases itor h with h | h
    · obtain ⟨_, -, h⟩ := bnd h
      obtain ⟨_, -, h⟩ := bnd h
      obtain ⟨_, -, h⟩ := bnd h
      obtain ⟨_, hw, h⟩ := bnd h
      have hg := hg.trans (kg_uL hw)
      obtain ⟨_, -, h⟩ := bnd h
      cases h; exact hg
    · obtain ⟨_, -, h⟩ := bnd h
      obtain ⟨_, -, h⟩ := bnd h
      rcases itor h with h | h
      · rcases itor h with h | h
        · rcases itor h with h | h
          · obtain ⟨_, -, h⟩ := bnd h
            obtain ⟨_, -, h⟩ := bnd h
            obtain ⟨_, -, h⟩ := bnd h
            obtain ⟨_, -, h⟩ := bnd h
            rcases itor h with h | h
            · exact hg.trans (keepJ_X11_comesOut_242 ih h)
            · exact hg.trans (keepJ_X11_comesOut_242 ih h)
          · obtain ⟨_, -, h⟩ := bnd h
            obtain ⟨_, -, h⟩ := bnd h
            obtain ⟨_, -, h⟩ := bnd h
            obtain ⟨_, hw, h⟩ := bnd h
            have hg := hg.trans (kg_uL hw)
            exact hg.trans (keepJ_X11_comesOut_333 ih h)
        · obtain ⟨_, -, h⟩ := bnd h
          obtain ⟨_, -, h⟩ := bnd h
          rcases itor h with h | h
          · obtain ⟨_, -, h⟩ := bnd h
            obtain ⟨_, -, h⟩ := bnd h
            exact hg.trans (keepJ_X11_comesOut_124 ih h)
          · exact hg.trans (keepJ_X11_comesOut_124 ih h)
      · obtain ⟨_, -, h⟩ := bnd h
        obtain ⟨_, -, h⟩ := bnd h
        obtain ⟨_, -, h⟩ := bnd h
        obtain ⟨_, hw, h⟩ := bnd h
        have hg := hg.trans (kg_uL hw)
        exact hg.trans (keepJ_X11_comesOut_333 ih h)
def S_X11_comesOut (v1 : Int32) (M : Mem) : Option (Int32 × Mem) :=
  gd (inb (((8 : Int32) * ((30 : Int32) + (v1 / (8 : Int32)))) + (v1 - v1 / (8 : Int32) * (8 : Int32))) 480) (
  SJ_X11_comesOut_39 FU v1 (v1 / (8 : Int32)) ((1200 : Int32) * ((30 : Int32) + (v1 / (8 : Int32)))) (gi M 181 63) (gi M 199 (((8 : Int32) * ((30 : Int32) + (v1 / (8 : Int32)))) + (v1 - v1 / (8 : Int32) * (8 : Int32))).toNatClampNeg) M)
theorem eqS_X11_comesOut {M : Mem} (hF : FSR M) {v1 : Int32} : L_X11_comesOut (some 181) v1 M = S_X11_comesOut v1 M := by
  unfold L_X11_comesOut S_X11_comesOut
  refine (if_neg (by decide)).trans ?_
  refine (bi_fI (hF.kd 181)).trans ?_
  refine (bi_fR (hF.kd 181) (hF.gr 41)).trans ?_
  refine (if_neg (by decide)).trans ?_
  refine (bi_aI (hF.kd 199) (hF.ln 199)).trans ?_
  refine gd_congr (fun _ => ?_)
  exact eqJ_X11_comesOut_39 FU _ _ _ _ _ _ hF
theorem keep_X11_comesOut {M : Mem} {z : Int32 × Mem} {v0 : Option Nat} {v1 : Int32} (h : L_X11_comesOut v0 v1 M = some z) : KG M z.2 := by
  unfold L_X11_comesOut at h
  have hg : KG M M := KG.rf
  have h := nnz h
  obtain ⟨_, -, h⟩ := bnd h
  obtain ⟨_, -, h⟩ := bnd h
  have h := nnz h
  obtain ⟨_, -, h⟩ := bnd h
  exact hg.trans (keepJ_X11_comesOut_39 FU _ _ _ _ _ _ _ h)
