def J_X11_works_439 (rF : Option Nat → Int32 → Mem → Option (Int32 × Mem)) (k_22 : Option Nat → Int32 → Int32 → Int32 → Int32 → Int32 → Int32 → Mem → Option (Int32 × Mem)) (v0 : Option Nat) (v1 : Int32) (v3 : Int32) (v4 : Int32) (v5 : Int32) (v6 : Int32) (v7 : Int32) (M : Mem) : Option (Int32 × Mem) :=
  k_22 v0 v1 v3 v4 v5 v6 v7 M
set_option maxRecDepth 20000 in
set_option maxHeartbeats 4000000 in
theorem lab_X11_works_439 {G : Gt} {M0 M9 : Mem} {x9 : Int32} {dr : Nat} {rF : Option Nat → Int32 → Mem → Option (Int32 × Mem)} (hrF : ∀ (a0 : Option Nat) (a1 : Int32) (Ma : Mem) (v : Int32 × Mem), rF a0 a1 Ma = some v → Mt G mX11_needs dr [vR a0, vI a1] Ma (some (vI v.1)) v.2) {k_22 : Option Nat → Int32 → Int32 → Int32 → Int32 → Int32 → Int32 → Mem → Option (Int32 × Mem)} (hk_22 : ∀ (v0 : Option Nat) (v1 : Int32) (v3 : Int32) (v4 : Int32) (v5 : Int32) (v6 : Int32) (v7 : Int32) (Ma : Mem), k_22 v0 v1 v3 v4 v5 v6 v7 Ma = some (x9, M9) → V G mX11_works (dr + 3) M0 (some (vI x9)) M9 Ma 22 [(0, vR v0), (1, vI v1), (3, vI v3), (4, vI v4), (5, vI v5), (6, vI v6), (7, vI v7)] []) {v0 : Option Nat} {v1 : Int32} {v3 : Int32} {v4 : Int32} {v5 : Int32} {v6 : Int32} {v7 : Int32} {M : Mem} (h : J_X11_works_439 rF k_22 v0 v1 v3 v4 v5 v6 v7 M = some (x9, M9)) : V G mX11_works (dr + 3) M0 (some (vI x9)) M9 M 439 [(0, vR v0), (1, vI v1), (3, vI v3), (4, vI v4), (5, vI v5), (6, vI v6), (7, vI v7)] [] := by
  unfold J_X11_works_439 at h
  refine V.goto (q := 22) dX11_works_439 (by decide) ?_
  exact (hk_22 _ _ _ _ _ _ _ _ h)
def J_X11_works_123 (rF : Option Nat → Int32 → Mem → Option (Int32 × Mem)) (k_22 : Option Nat → Int32 → Int32 → Int32 → Int32 → Int32 → Int32 → Mem → Option (Int32 × Mem)) (v0 : Option Nat) (v1 : Int32) (v3 : Int32) (v4 : Int32) (v5 : Int32) (v6 : Int32) (v7 : Int32) (s0 : Option Nat) (s1 : Int32) (s2 : Int64) (M : Mem) : Option (Int32 × Mem) :=
  (uL M 21 s0 s1 s2).bind fun M1 =>
  (fI M1 11 63 v0).bind fun x2 =>
  (pI M1 11 63 v0 (x2 + (1 : Int32))).bind fun M3 =>
  J_X11_works_439 rF k_22 v0 v1 v3 v4 v5 v6 v7 M3
set_option maxRecDepth 20000 in
set_option maxHeartbeats 4000000 in
theorem lab_X11_works_123 {G : Gt} {M0 M9 : Mem} {x9 : Int32} {dr : Nat} {rF : Option Nat → Int32 → Mem → Option (Int32 × Mem)} (hrF : ∀ (a0 : Option Nat) (a1 : Int32) (Ma : Mem) (v : Int32 × Mem), rF a0 a1 Ma = some v → Mt G mX11_needs dr [vR a0, vI a1] Ma (some (vI v.1)) v.2) {k_22 : Option Nat → Int32 → Int32 → Int32 → Int32 → Int32 → Int32 → Mem → Option (Int32 × Mem)} (hk_22 : ∀ (v0 : Option Nat) (v1 : Int32) (v3 : Int32) (v4 : Int32) (v5 : Int32) (v6 : Int32) (v7 : Int32) (Ma : Mem), k_22 v0 v1 v3 v4 v5 v6 v7 Ma = some (x9, M9) → V G mX11_works (dr + 3) M0 (some (vI x9)) M9 Ma 22 [(0, vR v0), (1, vI v1), (3, vI v3), (4, vI v4), (5, vI v5), (6, vI v6), (7, vI v7)] []) {v0 : Option Nat} {v1 : Int32} {v3 : Int32} {v4 : Int32} {v5 : Int32} {v6 : Int32} {v7 : Int32} {s0 : Option Nat} {s1 : Int32} {s2 : Int64} {M : Mem} (h : J_X11_works_123 rF k_22 v0 v1 v3 v4 v5 v6 v7 s0 s1 s2 M = some (x9, M9)) : V G mX11_works (dr + 3) M0 (some (vI x9)) M9 M 123 [(0, vR v0), (1, vI v1), (3, vI v3), (4, vI v4), (5, vI v5), (6, vI v6), (7, vI v7)] [vL s2, vI s1, vR s0] := by
  unfold J_X11_works_123 at h
  refine V.last dX11_works_123 rfl h (fun M1 h => ?_)
  refine V.aload_n (n := 0) dX11_works_124 rfl rfl ?_
  refine V.dup dX11_works_125 rfl rfl ?_
  refine V.getI dX11_works_126 lkX11_379 rfl rfl h (fun x2 h => ?_)
  refine V.iconst (x := 1) dX11_works_129 (by decide) rfl ?_
  refine V.iadd dX11_works_130 rfl ?_
  refine V.putI dX11_works_131 lkX11_379 (Or.inl rfl) rfl rfl h (fun M3 h => ?_)
  refine V.goto (q := 439) dX11_works_134 (by decide) ?_
  exact (lab_X11_works_439 hrF hk_22 h)
def J_X11_works_98 (rF : Option Nat → Int32 → Mem → Option (Int32 × Mem)) (k_22 : Option Nat → Int32 → Int32 → Int32 → Int32 → Int32 → Int32 → Mem → Option (Int32 × Mem)) (v0 : Option Nat) (v1 : Int32) (v3 : Int32) (v4 : Int32) (v5 : Int32) (v6 : Int32) (v7 : Int32) (v8 : Int32) (v9 : Int64) (M : Mem) : Option (Int32 × Mem) :=
  (fR M 11 62 v0).bind fun x4 =>
  (fI M 11 63 v0).bind fun x5 =>
  if ¬ v8 = 0 then
  ((ck M 11 v0).bind fun _ => (L_X11_told v0 v8 v3 M).bind fun w6 =>
  J_X11_works_123 rF k_22 v0 v1 v3 v4 v5 v6 v7 x4 x5 w6.1 w6.2)
  else
  (J_X11_works_123 rF k_22 v0 v1 v3 v4 v5 v6 v7 x4 x5 v9 M)
set_option maxRecDepth 20000 in
set_option maxHeartbeats 4000000 in
theorem lab_X11_works_98 {G : Gt} {M0 M9 : Mem} {x9 : Int32} {dr : Nat} {rF : Option Nat → Int32 → Mem → Option (Int32 × Mem)} (hrF : ∀ (a0 : Option Nat) (a1 : Int32) (Ma : Mem) (v : Int32 × Mem), rF a0 a1 Ma = some v → Mt G mX11_needs dr [vR a0, vI a1] Ma (some (vI v.1)) v.2) {k_22 : Option Nat → Int32 → Int32 → Int32 → Int32 → Int32 → Int32 → Mem → Option (Int32 × Mem)} (hk_22 : ∀ (v0 : Option Nat) (v1 : Int32) (v3 : Int32) (v4 : Int32) (v5 : Int32) (v6 : Int32) (v7 : Int32) (Ma : Mem), k_22 v0 v1 v3 v4 v5 v6 v7 Ma = some (x9, M9) → V G mX11_works (dr + 3) M0 (some (vI x9)) M9 Ma 22 [(0, vR v0), (1, vI v1), (3, vI v3), (4, vI v4), (5, vI v5), (6, vI v6), (7, vI v7)] []) {v0 : Option Nat} {v1 : Int32} {v3 : Int32} {v4 : Int32} {v5 : Int32} {v6 : Int32} {v7 : Int32} {v8 : Int32} {v9 : Int64} {M : Mem} (h : J_X11_works_98 rF k_22 v0 v1 v3 v4 v5 v6 v7 v8 v9 M = some (x9, M9)) : V G mX11_works (dr + 3) M0 (some (vI x9)) M9 M 98 [(0, vR v0), (1, vI v1), (3, vI v3), (4, vI v4), (5, vI v5), (6, vI v6), (7, vI v7), (8, vI v8), (9, vL v9)] [] := by
  unfold J_X11_works_98 at h
  refine V.aload_n (n := 0) dX11_works_98 rfl rfl ?_
  refine V.getR dX11_works_99 lkX11_133 rfl rfl h (fun x4 h => ?_)
  refine V.aload_n (n := 0) dX11_works_102 rfl rfl ?_
  refine V.getI dX11_works_103 lkX11_379 rfl rfl h (fun x5 h => ?_)
  refine V.iload (n := 7) dX11_works_106 rfl rfl ?_
  refine V.if_ne (q := 116) dX11_works_108 (by decide) rfl h (fun h => ?_) (fun h => ?_)
  · refine V.aload_n (n := 0) dX11_works_116 rfl rfl ?_
    refine V.iload (n := 7) dX11_works_117 rfl rfl ?_
    refine V.iload_n (n := 2) dX11_works_119 rfl rfl ?_
    refine V.callVl (d' := 0) (as := [vI v8, vI v3]) (st := [vI x5, vR x4]) dX11_works_120 meX11_told mlX11_437 imX11_told seX11_told clsX11 rfl (by omega) (Nat.le_of_ble_eq_true rfl) rfl rfl h (fun v hv => lift_X11_told hv) (fun w6 h => ?_)
    exact V.sub [0, 1, 2, 3, 4, 5, 6] rfl (lab_X11_works_123 hrF hk_22 h)
  · refine V.lload (n := 8) dX11_works_111 rfl rfl ?_
    refine V.goto (q := 123) dX11_works_113 (by decide) ?_
    exact V.sub [0, 1, 2, 3, 4, 5, 6] rfl (lab_X11_works_123 hrF hk_22 h)
def J_X11_works_216 (rF : Option Nat → Int32 → Mem → Option (Int32 × Mem)) (k_22 : Option Nat → Int32 → Int32 → Int32 → Int32 → Int32 → Int32 → Mem → Option (Int32 × Mem)) (v0 : Option Nat) (v1 : Int32) (v3 : Int32) (v4 : Int32) (v5 : Int32) (v6 : Int32) (v7 : Int32) (M : Mem) : Option (Int32 × Mem) :=
  J_X11_works_439 rF k_22 v0 v1 v3 v4 v5 v6 v7 M
set_option maxRecDepth 20000 in
set_option maxHeartbeats 4000000 in
theorem lab_X11_works_216 {G : Gt} {M0 M9 : Mem} {x9 : Int32} {dr : Nat} {rF : Option Nat → Int32 → Mem → Option (Int32 × Mem)} (hrF : ∀ (a0 : Option Nat) (a1 : Int32) (Ma : Mem) (v : Int32 × Mem), rF a0 a1 Ma = some v → Mt G mX11_needs dr [vR a0, vI a1] Ma (some (vI v.1)) v.2) {k_22 : Option Nat → Int32 → Int32 → Int32 → Int32 → Int32 → Int32 → Mem → Option (Int32 × Mem)} (hk_22 : ∀ (v0 : Option Nat) (v1 : Int32) (v3 : Int32) (v4 : Int32) (v5 : Int32) (v6 : Int32) (v7 : Int32) (Ma : Mem), k_22 v0 v1 v3 v4 v5 v6 v7 Ma = some (x9, M9) → V G mX11_works (dr + 3) M0 (some (vI x9)) M9 Ma 22 [(0, vR v0), (1, vI v1), (3, vI v3), (4, vI v4), (5, vI v5), (6, vI v6), (7, vI v7)] []) {v0 : Option Nat} {v1 : Int32} {v3 : Int32} {v4 : Int32} {v5 : Int32} {v6 : Int32} {v7 : Int32} {M : Mem} (h : J_X11_works_216 rF k_22 v0 v1 v3 v4 v5 v6 v7 M = some (x9, M9)) : V G mX11_works (dr + 3) M0 (some (vI x9)) M9 M 216 [(0, vR v0), (1, vI v1), (3, vI v3), (4, vI v4), (5, vI v5), (6, vI v6), (7, vI v7)] [] := by
  unfold J_X11_works_216 at h
  refine V.goto (q := 439) dX11_works_216 (by decide) ?_
  exact (lab_X11_works_439 hrF hk_22 h)
def J_X11_works_182 (rF : Option Nat → Int32 → Mem → Option (Int32 × Mem)) (k_22 : Option Nat → Int32 → Int32 → Int32 → Int32 → Int32 → Int32 → Mem → Option (Int32 × Mem)) (v0 : Option Nat) (v1 : Int32) (v3 : Int32) (v4 : Int32) (v5 : Int32) (v7 : Int32) (M : Mem) : Option (Int32 × Mem) :=
  J_X11_works_216 rF k_22 v0 v1 v3 v4 v5 (802 : Int32) v7 M
set_option maxRecDepth 20000 in
set_option maxHeartbeats 4000000 in
theorem lab_X11_works_182 {G : Gt} {M0 M9 : Mem} {x9 : Int32} {dr : Nat} {rF : Option Nat → Int32 → Mem → Option (Int32 × Mem)} (hrF : ∀ (a0 : Option Nat) (a1 : Int32) (Ma : Mem) (v : Int32 × Mem), rF a0 a1 Ma = some v → Mt G mX11_needs dr [vR a0, vI a1] Ma (some (vI v.1)) v.2) {k_22 : Option Nat → Int32 → Int32 → Int32 → Int32 → Int32 → Int32 → Mem → Option (Int32 × Mem)} (hk_22 : ∀ (v0 : Option Nat) (v1 : Int32) (v3 : Int32) (v4 : Int32) (v5 : Int32) (v6 : Int32) (v7 : Int32) (Ma : Mem), k_22 v0 v1 v3 v4 v5 v6 v7 Ma = some (x9, M9) → V G mX11_works (dr + 3) M0 (some (vI x9)) M9 Ma 22 [(0, vR v0), (1, vI v1), (3, vI v3), (4, vI v4), (5, vI v5), (6, vI v6), (7, vI v7)] []) {v0 : Option Nat} {v1 : Int32} {v3 : Int32} {v4 : Int32} {v5 : Int32} {v7 : Int32} {M : Mem} (h : J_X11_works_182 rF k_22 v0 v1 v3 v4 v5 v7 M = some (x9, M9)) : V G mX11_works (dr + 3) M0 (some (vI x9)) M9 M 182 [(0, vR v0), (1, vI v1), (3, vI v3), (4, vI v4), (5, vI v5), (7, vI v7)] [] := by
  unfold J_X11_works_182 at h
  refine V.sipush (x := 802) dX11_works_182 (by decide) rfl ?_
  refine V.istore dX11_works_185 (by decide) rfl rfl ?_
  refine V.goto (q := 216) dX11_works_187 (by decide) ?_
  exact V.sub [1, 2, 3, 4, 5, 0, 6] rfl (lab_X11_works_216 hrF hk_22 h)
def J_X11_works_160 (rF : Option Nat → Int32 → Mem → Option (Int32 × Mem)) (k_22 : Option Nat → Int32 → Int32 → Int32 → Int32 → Int32 → Int32 → Mem → Option (Int32 × Mem)) (v0 : Option Nat) (v1 : Int32) (v3 : Int32) (v4 : Int32) (v5 : Int32) (v6 : Int32) (v7 : Int32) (v9 : Int64) (s0 : Option Nat) (s1 : Int32) (M : Mem) : Option (Int32 × Mem) :=
  (ck M 11 s0).bind fun _ => (L_X11_constOf s0 s1 v9 M).bind fun w7 =>
  if w7.1 < 0 then
  (J_X11_works_182 rF k_22 v0 v1 v3 v4 v5 v7 w7.2)
  else
  ((fR w7.2 11 60 v0).bind fun x8 =>
  (aI w7.2 24 x8 w7.1).bind fun x9 =>
  if ¬ x9 = 0 then
  ((fR w7.2 11 62 v0).bind fun x10 =>
  (fI w7.2 11 63 v0).bind fun x11 =>
  (fR w7.2 11 61 v0).bind fun x12 =>
  (aL w7.2 21 x12 w7.1).bind fun x13 =>
  (uL w7.2 21 x10 x11 x13).bind fun M14 =>
  (fI M14 11 63 v0).bind fun x15 =>
  (pI M14 11 63 v0 (x15 + (1 : Int32))).bind fun M16 =>
  J_X11_works_216 rF k_22 v0 v1 v3 v4 v5 v6 v7 M16)
  else
  (J_X11_works_182 rF k_22 v0 v1 v3 v4 v5 v7 w7.2))
set_option maxRecDepth 20000 in
set_option maxHeartbeats 4000000 in
theorem lab_X11_works_160 {G : Gt} {M0 M9 : Mem} {x9 : Int32} {dr : Nat} {rF : Option Nat → Int32 → Mem → Option (Int32 × Mem)} (hrF : ∀ (a0 : Option Nat) (a1 : Int32) (Ma : Mem) (v : Int32 × Mem), rF a0 a1 Ma = some v → Mt G mX11_needs dr [vR a0, vI a1] Ma (some (vI v.1)) v.2) {k_22 : Option Nat → Int32 → Int32 → Int32 → Int32 → Int32 → Int32 → Mem → Option (Int32 × Mem)} (hk_22 : ∀ (v0 : Option Nat) (v1 : Int32) (v3 : Int32) (v4 : Int32) (v5 : Int32) (v6 : Int32) (v7 : Int32) (Ma : Mem), k_22 v0 v1 v3 v4 v5 v6 v7 Ma = some (x9, M9) → V G mX11_works (dr + 3) M0 (some (vI x9)) M9 Ma 22 [(0, vR v0), (1, vI v1), (3, vI v3), (4, vI v4), (5, vI v5), (6, vI v6), (7, vI v7)] []) {v0 : Option Nat} {v1 : Int32} {v3 : Int32} {v4 : Int32} {v5 : Int32} {v6 : Int32} {v7 : Int32} {v9 : Int64} {s0 : Option Nat} {s1 : Int32} {M : Mem} (h : J_X11_works_160 rF k_22 v0 v1 v3 v4 v5 v6 v7 v9 s0 s1 M = some (x9, M9)) : V G mX11_works (dr + 3) M0 (some (vI x9)) M9 M 160 [(0, vR v0), (1, vI v1), (3, vI v3), (4, vI v4), (5, vI v5), (6, vI v6), (7, vI v7), (9, vL v9)] [vI s1, vR s0] := by
  unfold J_X11_works_160 at h
  refine V.lload (n := 7) dX11_works_160 rfl rfl ?_
  refine V.callVi (d' := 0) (as := [vI s1, vL v9]) (st := []) dX11_works_162 meX11_constOf mlX11_382 imX11_constOf seX11_constOf clsX11 rfl (by omega) (Nat.le_of_ble_eq_true rfl) rfl rfl h (fun v hv => lift_X11_constOf hv) (fun w7 h => ?_)
  refine V.istore dX11_works_165 (by decide) rfl rfl ?_
  refine V.iload (n := 0) dX11_works_167 rfl rfl ?_
  refine V.if_lt (q := 182) dX11_works_169 (by decide) rfl h (fun h => ?_) (fun h => ?_)
  · exact V.sub [1, 2, 3, 4, 5, 7] rfl (lab_X11_works_182 hrF hk_22 h)
  · refine V.aload_n (n := 1) dX11_works_172 rfl rfl ?_
    refine V.getR dX11_works_173 lkX11_127 rfl rfl h (fun x8 h => ?_)
    refine V.iload (n := 0) dX11_works_176 rfl rfl ?_
    refine V.zald dX11_works_178 rfl h (fun x9 h => ?_)
    refine V.if_ne (q := 190) dX11_works_179 (by decide) rfl h (fun h => ?_) (fun h => ?_)
    · refine V.aload_n (n := 1) dX11_works_190 rfl rfl ?_
      refine V.getR dX11_works_191 lkX11_133 rfl rfl h (fun x10 h => ?_)
      refine V.aload_n (n := 1) dX11_works_194 rfl rfl ?_
      refine V.getI dX11_works_195 lkX11_379 rfl rfl h (fun x11 h => ?_)
      refine V.aload_n (n := 1) dX11_works_198 rfl rfl ?_
      refine V.getR dX11_works_199 lkX11_130 rfl rfl h (fun x12 h => ?_)
      refine V.iload (n := 0) dX11_works_202 rfl rfl ?_
      refine V.lald dX11_works_204 rfl h (fun x13 h => ?_)
      refine V.last dX11_works_205 rfl h (fun M14 h => ?_)
      refine V.aload_n (n := 1) dX11_works_206 rfl rfl ?_
      refine V.dup dX11_works_207 rfl rfl ?_
      refine V.getI dX11_works_208 lkX11_379 rfl rfl h (fun x15 h => ?_)
      refine V.iconst (x := 1) dX11_works_211 (by decide) rfl ?_
      refine V.iadd dX11_works_212 rfl ?_
      refine V.putI dX11_works_213 lkX11_379 (Or.inl rfl) rfl rfl h (fun M16 h => ?_)
      exact V.sub [1, 2, 3, 4, 5, 6, 7] rfl (lab_X11_works_216 hrF hk_22 h)
    · exact V.sub [1, 2, 3, 4, 5, 7] rfl (lab_X11_works_182 hrF hk_22 h)
def J_X11_works_403 (rF : Option Nat → Int32 → Mem → Option (Int32 × Mem)) (k_22 : Option Nat → Int32 → Int32 → Int32 → Int32 → Int32 → Int32 → Mem → Option (Int32 × Mem)) (v0 : Option Nat) (v1 : Int32) (v3 : Int32) (v4 : Int32) (v5 : Int32) (v6 : Int32) (v7 : Int32) (v8 : Int32) (M : Mem) : Option (Int32 × Mem) :=
  (fR M 11 62 v0).bind fun x17 =>
  (fI M 11 63 v0).bind fun x18 =>
  (fR M 11 62 v0).bind fun x19 =>
  (fI M 11 63 v0).bind fun x20 =>
  (aL M 21 x19 (x20 - (1 : Int32))).bind fun x21 =>
  (fR M 11 62 v0).bind fun x22 =>
  (fI M 11 63 v0).bind fun x23 =>
  (aL M 21 x22 x23).bind fun x24 =>
  (L_X11_acted v8 x21 x24 M).bind fun w25 =>
  (uL w25.2 21 x17 (x18 - (1 : Int32)) w25.1).bind fun M26 =>
  J_X11_works_439 rF k_22 v0 v1 v3 v4 v5 v6 v7 M26
set_option maxRecDepth 20000 in
set_option maxHeartbeats 4000000 in
theorem lab_X11_works_403 {G : Gt} {M0 M9 : Mem} {x9 : Int32} {dr : Nat} {rF : Option Nat → Int32 → Mem → Option (Int32 × Mem)} (hrF : ∀ (a0 : Option Nat) (a1 : Int32) (Ma : Mem) (v : Int32 × Mem), rF a0 a1 Ma = some v → Mt G mX11_needs dr [vR a0, vI a1] Ma (some (vI v.1)) v.2) {k_22 : Option Nat → Int32 → Int32 → Int32 → Int32 → Int32 → Int32 → Mem → Option (Int32 × Mem)} (hk_22 : ∀ (v0 : Option Nat) (v1 : Int32) (v3 : Int32) (v4 : Int32) (v5 : Int32) (v6 : Int32) (v7 : Int32) (Ma : Mem), k_22 v0 v1 v3 v4 v5 v6 v7 Ma = some (x9, M9) → V G mX11_works (dr + 3) M0 (some (vI x9)) M9 Ma 22 [(0, vR v0), (1, vI v1), (3, vI v3), (4, vI v4), (5, vI v5), (6, vI v6), (7, vI v7)] []) {v0 : Option Nat} {v1 : Int32} {v3 : Int32} {v4 : Int32} {v5 : Int32} {v6 : Int32} {v7 : Int32} {v8 : Int32} {M : Mem} (h : J_X11_works_403 rF k_22 v0 v1 v3 v4 v5 v6 v7 v8 M = some (x9, M9)) : V G mX11_works (dr + 3) M0 (some (vI x9)) M9 M 403 [(0, vR v0), (1, vI v1), (3, vI v3), (4, vI v4), (5, vI v5), (6, vI v6), (7, vI v7), (8, vI v8)] [] := by
  unfold J_X11_works_403 at h
  refine V.aload_n (n := 0) dX11_works_403 rfl rfl ?_
  refine V.getR dX11_works_404 lkX11_133 rfl rfl h (fun x17 h => ?_)
  refine V.aload_n (n := 0) dX11_works_407 rfl rfl ?_
  refine V.getI dX11_works_408 lkX11_379 rfl rfl h (fun x18 h => ?_)
  refine V.iconst (x := 1) dX11_works_411 (by decide) rfl ?_
  refine V.isub dX11_works_412 rfl ?_
  refine V.iload (n := 7) dX11_works_413 rfl rfl ?_
  refine V.aload_n (n := 0) dX11_works_415 rfl rfl ?_
  refine V.getR dX11_works_416 lkX11_133 rfl rfl h (fun x19 h => ?_)
  refine V.aload_n (n := 0) dX11_works_419 rfl rfl ?_
  refine V.getI dX11_works_420 lkX11_379 rfl rfl h (fun x20 h => ?_)
  refine V.iconst (x := 1) dX11_works_423 (by decide) rfl ?_
  refine V.isub dX11_works_424 rfl ?_
  refine V.lald dX11_works_425 rfl h (fun x21 h => ?_)
  refine V.aload_n (n := 0) dX11_works_426 rfl rfl ?_
  refine V.getR dX11_works_427 lkX11_133 rfl rfl h (fun x22 h => ?_)
  refine V.aload_n (n := 0) dX11_works_430 rfl rfl ?_
  refine V.getI dX11_works_431 lkX11_379 rfl rfl h (fun x23 h => ?_)
  refine V.lald dX11_works_434 rfl h (fun x24 h => ?_)
  refine V.callSl (d' := 0) (as := [vI v8, vL x21, vL x24]) (st := [vI (x18 - (1 : Int32)), vR x17]) dX11_works_435 meX11_acted mlX11_445 smX11_acted rfl (by omega) (Nat.le_of_ble_eq_true rfl) rfl rfl h (fun v hv => lift_X11_acted hv) (fun w25 h => ?_)
  refine V.last dX11_works_438 rfl h (fun M26 h => ?_)
  exact V.sub [0, 1, 2, 3, 4, 5, 6] rfl (lab_X11_works_439 hrF hk_22 h)
def J_X11_works_381 (rF : Option Nat → Int32 → Mem → Option (Int32 × Mem)) (k_22 : Option Nat → Int32 → Int32 → Int32 → Int32 → Int32 → Int32 → Mem → Option (Int32 × Mem)) (v0 : Option Nat) (v1 : Int32) (v3 : Int32) (v4 : Int32) (v5 : Int32) (v6 : Int32) (v7 : Int32) (v8 : Int32) (M : Mem) : Option (Int32 × Mem) :=
  (fR M 11 62 v0).bind fun x27 =>
  (fI M 11 63 v0).bind fun x28 =>
  (aL M 21 x27 x28).bind fun x29 =>
  if ¬ x29 = (0 : Int64) then
  (J_X11_works_403 rF k_22 v0 v1 v3 v4 v5 v6 v7 v8 M)
  else
  (J_X11_works_439 rF k_22 v0 v1 v3 v4 v5 (801 : Int32) v7 M)
set_option maxRecDepth 20000 in
set_option maxHeartbeats 4000000 in
theorem lab_X11_works_381 {G : Gt} {M0 M9 : Mem} {x9 : Int32} {dr : Nat} {rF : Option Nat → Int32 → Mem → Option (Int32 × Mem)} (hrF : ∀ (a0 : Option Nat) (a1 : Int32) (Ma : Mem) (v : Int32 × Mem), rF a0 a1 Ma = some v → Mt G mX11_needs dr [vR a0, vI a1] Ma (some (vI v.1)) v.2) {k_22 : Option Nat → Int32 → Int32 → Int32 → Int32 → Int32 → Int32 → Mem → Option (Int32 × Mem)} (hk_22 : ∀ (v0 : Option Nat) (v1 : Int32) (v3 : Int32) (v4 : Int32) (v5 : Int32) (v6 : Int32) (v7 : Int32) (Ma : Mem), k_22 v0 v1 v3 v4 v5 v6 v7 Ma = some (x9, M9) → V G mX11_works (dr + 3) M0 (some (vI x9)) M9 Ma 22 [(0, vR v0), (1, vI v1), (3, vI v3), (4, vI v4), (5, vI v5), (6, vI v6), (7, vI v7)] []) {v0 : Option Nat} {v1 : Int32} {v3 : Int32} {v4 : Int32} {v5 : Int32} {v6 : Int32} {v7 : Int32} {v8 : Int32} {M : Mem} (h : J_X11_works_381 rF k_22 v0 v1 v3 v4 v5 v6 v7 v8 M = some (x9, M9)) : V G mX11_works (dr + 3) M0 (some (vI x9)) M9 M 381 [(0, vR v0), (1, vI v1), (3, vI v3), (4, vI v4), (5, vI v5), (6, vI v6), (7, vI v7), (8, vI v8)] [] := by
  unfold J_X11_works_381 at h
  refine V.aload_n (n := 0) dX11_works_381 rfl rfl ?_
  refine V.getR dX11_works_382 lkX11_133 rfl rfl h (fun x27 h => ?_)
  refine V.aload_n (n := 0) dX11_works_385 rfl rfl ?_
  refine V.getI dX11_works_386 lkX11_379 rfl rfl h (fun x28 h => ?_)
  refine V.lald dX11_works_389 rfl h (fun x29 h => ?_)
  refine V.lconst (x := 0) dX11_works_390 (by decide) rfl ?_
  refine V.lif_ne (q := 403) dX11_works_391 rfl dX11_works_392 (by decide) rfl h (fun h => ?_) (fun h => ?_)
  · exact (lab_X11_works_403 hrF hk_22 h)
  · refine V.sipush (x := 801) dX11_works_395 (by decide) rfl ?_
    refine V.istore dX11_works_398 (by decide) rfl rfl ?_
    refine V.goto (q := 439) dX11_works_400 (by decide) ?_
    exact V.sub [1, 2, 3, 4, 5, 0, 6] rfl (lab_X11_works_439 hrF hk_22 h)
def J_X11_works_137 (rF : Option Nat → Int32 → Mem → Option (Int32 × Mem)) (k_22 : Option Nat → Int32 → Int32 → Int32 → Int32 → Int32 → Int32 → Mem → Option (Int32 × Mem)) (v0 : Option Nat) (v1 : Int32) (v3 : Int32) (v4 : Int32) (v5 : Int32) (v6 : Int32) (v7 : Int32) (v8 : Int32) (v9 : Int64) (v11 : Int32) (M : Mem) : Option (Int32 × Mem) :=
  if ¬ v8 = (6 : Int32) then
  (if ¬ v8 = (7 : Int32) then
  (if ¬ v8 = (8 : Int32) then
  (if ¬ v8 = (10 : Int32) then
  (if ¬ v8 = (9 : Int32) then
  ((fI M 11 63 v0).bind fun x30 =>
  (pI M 11 63 v0 (x30 - (1 : Int32))).bind fun M31 =>
  if v8 = (47 : Int32) then
  (J_X11_works_381 rF k_22 v0 v1 v3 v4 v5 v6 v7 v8 M31)
  else
  (if ¬ v8 = (37 : Int32) then
  (J_X11_works_403 rF k_22 v0 v1 v3 v4 v5 v6 v7 v8 M31)
  else
  (J_X11_works_381 rF k_22 v0 v1 v3 v4 v5 v6 v7 v8 M31)))
  else
  ((fI M 11 63 v0).bind fun x32 =>
  (pI M 11 63 v0 (x32 - (1 : Int32))).bind fun M33 =>
  (fR M33 11 62 v0).bind fun x34 =>
  (fI M33 11 63 v0).bind fun x35 =>
  (aL M33 21 x34 x35).bind fun x36 =>
  if ¬ x36 = (0 : Int64) then
  (J_X11_works_439 rF k_22 v0 v1 v3 v4 v5 v6 v7 M33)
  else
  (J_X11_works_439 rF k_22 v0 v1 v3 v4 v5 v6 v9.toInt32 M33)))
  else
  (J_X11_works_439 rF k_22 v0 v1 v3 v4 v5 v6 v9.toInt32 M))
  else
  ((fR M 11 62 v0).bind fun x37 =>
  (fI M 11 63 v0).bind fun x38 =>
  (fR M 11 62 v0).bind fun x39 =>
  (fI M 11 63 v0).bind fun x40 =>
  (aL M 21 x39 (x40 - (1 : Int32))).bind fun x41 =>
  (uL M 21 x37 (x38 - (1 : Int32)) (-x41)).bind fun M42 =>
  J_X11_works_439 rF k_22 v0 v1 v3 v4 v5 v6 v7 M42))
  else
  ((fR M 11 62 v0).bind fun x43 =>
  (fI M 11 63 v0).bind fun x44 =>
  (aL M 21 x43 (x44 - (1 : Int32))).bind fun x45 =>
  (ck M 11 v0).bind fun _ => (L_X11_looks rF v0 v1 v11 v9 x45 M).bind fun w46 =>
  (fR w46.2 11 62 v0).bind fun x47 =>
  (fI w46.2 11 63 v0).bind fun x48 =>
  (fL w46.2 11 71 v0).bind fun x49 =>
  (uL w46.2 21 x47 (x48 - (1 : Int32)) x49).bind fun M50 =>
  J_X11_works_439 rF k_22 v0 v1 v3 v4 v5 w46.1 v7 M50))
  else
  ((ck M 11 v0).bind fun _ => (L_X11_worksConstants v0 M).bind fun w51 =>
  if 0 ≤ v11 then
  (J_X11_works_160 rF k_22 v0 v1 v3 v4 v5 v6 v7 v9 v0 v11 w51.2)
  else
  (J_X11_works_160 rF k_22 v0 v1 v3 v4 v5 v6 v7 v9 v0 v1 w51.2))
set_option maxRecDepth 20000 in
set_option maxHeartbeats 4000000 in
theorem lab_X11_works_137 {G : Gt} {M0 M9 : Mem} {x9 : Int32} {dr : Nat} {rF : Option Nat → Int32 → Mem → Option (Int32 × Mem)} (hrF : ∀ (a0 : Option Nat) (a1 : Int32) (Ma : Mem) (v : Int32 × Mem), rF a0 a1 Ma = some v → Mt G mX11_needs dr [vR a0, vI a1] Ma (some (vI v.1)) v.2) {k_22 : Option Nat → Int32 → Int32 → Int32 → Int32 → Int32 → Int32 → Mem → Option (Int32 × Mem)} (hk_22 : ∀ (v0 : Option Nat) (v1 : Int32) (v3 : Int32) (v4 : Int32) (v5 : Int32) (v6 : Int32) (v7 : Int32) (Ma : Mem), k_22 v0 v1 v3 v4 v5 v6 v7 Ma = some (x9, M9) → V G mX11_works (dr + 3) M0 (some (vI x9)) M9 Ma 22 [(0, vR v0), (1, vI v1), (3, vI v3), (4, vI v4), (5, vI v5), (6, vI v6), (7, vI v7)] []) {v0 : Option Nat} {v1 : Int32} {v3 : Int32} {v4 : Int32} {v5 : Int32} {v6 : Int32} {v7 : Int32} {v8 : Int32} {v9 : Int64} {v11 : Int32} {M : Mem} (h : J_X11_works_137 rF k_22 v0 v1 v3 v4 v5 v6 v7 v8 v9 v11 M = some (x9, M9)) : V G mX11_works (dr + 3) M0 (some (vI x9)) M9 M 137 [(0, vR v0), (1, vI v1), (3, vI v3), (4, vI v4), (5, vI v5), (6, vI v6), (7, vI v7), (8, vI v8), (9, vL v9), (11, vI v11)] [] := by
  unfold J_X11_works_137 at h
  refine V.iload (n := 7) dX11_works_137 rfl rfl ?_
  refine V.bipush (x := 6) dX11_works_139 (by decide) rfl ?_
  refine V.icmp_ne (q := 219) dX11_works_141 (by decide) rfl h (fun h => ?_) (fun h => ?_)
  · refine V.iload (n := 7) dX11_works_219 rfl rfl ?_
    refine V.bipush (x := 7) dX11_works_221 (by decide) rfl ?_
    refine V.icmp_ne (q := 270) dX11_works_223 (by decide) rfl h (fun h => ?_) (fun h => ?_)
    · refine V.iload (n := 7) dX11_works_270 rfl rfl ?_
      refine V.bipush (x := 8) dX11_works_272 (by decide) rfl ?_
      refine V.icmp_ne (q := 303) dX11_works_274 (by decide) rfl h (fun h => ?_) (fun h => ?_)
      · refine V.iload (n := 7) dX11_works_303 rfl rfl ?_
        refine V.bipush (x := 10) dX11_works_305 (by decide) rfl ?_
        refine V.icmp_ne (q := 318) dX11_works_307 (by decide) rfl h (fun h => ?_) (fun h => ?_)
        · refine V.iload (n := 7) dX11_works_318 rfl rfl ?_
          refine V.bipush (x := 9) dX11_works_320 (by decide) rfl ?_
          refine V.icmp_ne (q := 357) dX11_works_322 (by decide) rfl h (fun h => ?_) (fun h => ?_)
          · refine V.aload_n (n := 0) dX11_works_357 rfl rfl ?_
            refine V.dup dX11_works_358 rfl rfl ?_
            refine V.getI dX11_works_359 lkX11_379 rfl rfl h (fun x30 h => ?_)
            refine V.iconst (x := 1) dX11_works_362 (by decide) rfl ?_
            refine V.isub dX11_works_363 rfl ?_
            refine V.putI dX11_works_364 lkX11_379 (Or.inl rfl) rfl rfl h (fun M31 h => ?_)
            refine V.iload (n := 7) dX11_works_367 rfl rfl ?_
            refine V.bipush (x := 47) dX11_works_369 (by decide) rfl ?_
            refine V.icmp_eq (q := 381) dX11_works_371 (by decide) rfl h (fun h => ?_) (fun h => ?_)
            · exact V.sub [0, 1, 2, 3, 4, 5, 6, 7] rfl (lab_X11_works_381 hrF hk_22 h)
            · refine V.iload (n := 7) dX11_works_374 rfl rfl ?_
              refine V.bipush (x := 37) dX11_works_376 (by decide) rfl ?_
              refine V.icmp_ne (q := 403) dX11_works_378 (by decide) rfl h (fun h => ?_) (fun h => ?_)
              · exact V.sub [0, 1, 2, 3, 4, 5, 6, 7] rfl (lab_X11_works_403 hrF hk_22 h)
              · exact V.sub [0, 1, 2, 3, 4, 5, 6, 7] rfl (lab_X11_works_381 hrF hk_22 h)
          · refine V.aload_n (n := 0) dX11_works_325 rfl rfl ?_
            refine V.dup dX11_works_326 rfl rfl ?_
            refine V.getI dX11_works_327 lkX11_379 rfl rfl h (fun x32 h => ?_)
            refine V.iconst (x := 1) dX11_works_330 (by decide) rfl ?_
            refine V.isub dX11_works_331 rfl ?_
            refine V.putI dX11_works_332 lkX11_379 (Or.inl rfl) rfl rfl h (fun M33 h => ?_)
            refine V.aload_n (n := 0) dX11_works_335 rfl rfl ?_
            refine V.getR dX11_works_336 lkX11_133 rfl rfl h (fun x34 h => ?_)
            refine V.aload_n (n := 0) dX11_works_339 rfl rfl ?_
            refine V.getI dX11_works_340 lkX11_379 rfl rfl h (fun x35 h => ?_)
            refine V.lald dX11_works_343 rfl h (fun x36 h => ?_)
            refine V.lconst (x := 0) dX11_works_344 (by decide) rfl ?_
            refine V.lif_ne (q := 439) dX11_works_345 rfl dX11_works_346 (by decide) rfl h (fun h => ?_) (fun h => ?_)
            · exact V.sub [0, 1, 2, 3, 4, 5, 6] rfl (lab_X11_works_439 hrF hk_22 h)
            · refine V.lload (n := 8) dX11_works_349 rfl rfl ?_
              refine V.l2i dX11_works_351 rfl ?_
              refine V.istore dX11_works_352 (by decide) rfl rfl ?_
              refine V.goto (q := 439) dX11_works_354 (by decide) ?_
              exact V.sub [1, 2, 3, 4, 5, 6, 0] rfl (lab_X11_works_439 hrF hk_22 h)
        · refine V.lload (n := 8) dX11_works_310 rfl rfl ?_
          refine V.l2i dX11_works_312 rfl ?_
          refine V.istore dX11_works_313 (by decide) rfl rfl ?_
          refine V.goto (q := 439) dX11_works_315 (by decide) ?_
          exact V.sub [1, 2, 3, 4, 5, 6, 0] rfl (lab_X11_works_439 hrF hk_22 h)
      · refine V.aload_n (n := 0) dX11_works_277 rfl rfl ?_
        refine V.getR dX11_works_278 lkX11_133 rfl rfl h (fun x37 h => ?_)
        refine V.aload_n (n := 0) dX11_works_281 rfl rfl ?_
        refine V.getI dX11_works_282 lkX11_379 rfl rfl h (fun x38 h => ?_)
        refine V.iconst (x := 1) dX11_works_285 (by decide) rfl ?_
        refine V.isub dX11_works_286 rfl ?_
        refine V.aload_n (n := 0) dX11_works_287 rfl rfl ?_
        refine V.getR dX11_works_288 lkX11_133 rfl rfl h (fun x39 h => ?_)
        refine V.aload_n (n := 0) dX11_works_291 rfl rfl ?_
        refine V.getI dX11_works_292 lkX11_379 rfl rfl h (fun x40 h => ?_)
        refine V.iconst (x := 1) dX11_works_295 (by decide) rfl ?_
        refine V.isub dX11_works_296 rfl ?_
        refine V.lald dX11_works_297 rfl h (fun x41 h => ?_)
        refine V.lneg dX11_works_298 rfl ?_
        refine V.last dX11_works_299 rfl h (fun M42 h => ?_)
        refine V.goto (q := 439) dX11_works_300 (by decide) ?_
        exact V.sub [0, 1, 2, 3, 4, 5, 6] rfl (lab_X11_works_439 hrF hk_22 h)
    · refine V.aload_n (n := 0) dX11_works_226 rfl rfl ?_
      refine V.getR dX11_works_227 lkX11_133 rfl rfl h (fun x43 h => ?_)
      refine V.aload_n (n := 0) dX11_works_230 rfl rfl ?_
      refine V.getI dX11_works_231 lkX11_379 rfl rfl h (fun x44 h => ?_)
      refine V.iconst (x := 1) dX11_works_234 (by decide) rfl ?_
      refine V.isub dX11_works_235 rfl ?_
      refine V.lald dX11_works_236 rfl h (fun x45 h => ?_)
      refine V.lstore dX11_works_237 (by decide) rfl rfl ?_
      refine V.aload_n (n := 1) dX11_works_239 rfl rfl ?_
      refine V.iload_n (n := 2) dX11_works_240 rfl rfl ?_
      refine V.iload (n := 10) dX11_works_241 rfl rfl ?_
      refine V.lload (n := 9) dX11_works_243 rfl rfl ?_
      refine V.lload (n := 0) dX11_works_245 rfl rfl ?_
      refine V.callVi (d' := dr + 1) (as := [vI v1, vI v11, vL v9, vL x45]) (st := []) dX11_works_247 meX11_looks mlX11_441 imX11_looks seX11_looks clsX11 rfl (by omega) (Nat.le_of_ble_eq_true rfl) rfl rfl h (fun v hv => lift_X11_looks hrF hv) (fun w46 h => ?_)
      refine V.istore dX11_works_250 (by decide) rfl rfl ?_
      refine V.aload_n (n := 2) dX11_works_252 rfl rfl ?_
      refine V.getR dX11_works_253 lkX11_133 rfl rfl h (fun x47 h => ?_)
      refine V.aload_n (n := 2) dX11_works_256 rfl rfl ?_
      refine V.getI dX11_works_257 lkX11_379 rfl rfl h (fun x48 h => ?_)
      refine V.iconst (x := 1) dX11_works_260 (by decide) rfl ?_
      refine V.isub dX11_works_261 rfl ?_
      refine V.aload_n (n := 2) dX11_works_262 rfl rfl ?_
      refine V.getL dX11_works_263 lkX11_417 rfl rfl h (fun x49 h => ?_)
      refine V.last dX11_works_266 rfl h (fun M50 h => ?_)
      refine V.goto (q := 439) dX11_works_267 (by decide) ?_
      exact V.sub [2, 3, 4, 5, 6, 0, 7] rfl (lab_X11_works_439 hrF hk_22 h)
  · refine V.aload_n (n := 0) dX11_works_144 rfl rfl ?_
    refine V.callVv (d' := 2) (as := []) (st := []) dX11_works_145 meX11_worksConstants mlX11_398 imX11_worksConstants seX11_worksConstants clsX11 rfl (by omega) (Nat.le_of_ble_eq_true rfl) rfl rfl h (fun v hv => lift_X11_worksConstants hv) (fun w51 h => ?_)
    refine V.aload_n (n := 0) dX11_works_148 rfl rfl ?_
    refine V.iload (n := 9) dX11_works_149 rfl rfl ?_
    refine V.if_ge (q := 158) dX11_works_151 (by decide) rfl h (fun h => ?_) (fun h => ?_)
    · refine V.iload (n := 9) dX11_works_158 rfl rfl ?_
      exact V.sub [0, 1, 2, 3, 4, 5, 6, 8] rfl (lab_X11_works_160 hrF hk_22 h)
    · refine V.iload_n (n := 1) dX11_works_154 rfl rfl ?_
      refine V.goto (q := 160) dX11_works_155 (by decide) ?_
      exact V.sub [0, 1, 2, 3, 4, 5, 6, 8] rfl (lab_X11_works_160 hrF hk_22 h)
def J_X11_works_462 (rF : Option Nat → Int32 → Mem → Option (Int32 × Mem)) (v0 : Option Nat) (v5 : Int32) (v6 : Int32) (M : Mem) : Option (Int32 × Mem) :=
  (pI M 11 63 v0 v5).bind fun M52 =>
  some (v6, M52)
set_option maxRecDepth 20000 in
set_option maxHeartbeats 4000000 in
theorem lab_X11_works_462 {G : Gt} {M0 M9 : Mem} {x9 : Int32} {dr : Nat} {rF : Option Nat → Int32 → Mem → Option (Int32 × Mem)} (hrF : ∀ (a0 : Option Nat) (a1 : Int32) (Ma : Mem) (v : Int32 × Mem), rF a0 a1 Ma = some v → Mt G mX11_needs dr [vR a0, vI a1] Ma (some (vI v.1)) v.2) {v0 : Option Nat} {v5 : Int32} {v6 : Int32} {M : Mem} (h : J_X11_works_462 rF v0 v5 v6 M = some (x9, M9)) : V G mX11_works (dr + 3) M0 (some (vI x9)) M9 M 462 [(0, vR v0), (5, vI v5), (6, vI v6)] [] := by
  unfold J_X11_works_462 at h
  refine V.aload_n (n := 0) dX11_works_462 rfl rfl ?_
  refine V.iload (n := 1) dX11_works_463 rfl rfl ?_
  refine V.putI dX11_works_465 lkX11_379 (Or.inl rfl) rfl rfl h (fun M52 h => ?_)
  refine V.iload (n := 2) dX11_works_468 rfl rfl ?_
  exact V.iret dX11_works_470 rfl h
def J_X11_works_442 (rF : Option Nat → Int32 → Mem → Option (Int32 × Mem)) (v0 : Option Nat) (v5 : Int32) (v6 : Int32) (M : Mem) : Option (Int32 × Mem) :=
  if ¬ v6 = 0 then
  (J_X11_works_462 rF v0 v5 v6 M)
  else
  ((fR M 11 62 v0).bind fun x53 =>
  (fI M 11 63 v0).bind fun x54 =>
  (aL M 21 x53 (x54 - (1 : Int32))).bind fun x55 =>
  (pL M 11 71 v0 x55).bind fun M56 =>
  J_X11_works_462 rF v0 v5 v6 M56)
set_option maxRecDepth 20000 in
set_option maxHeartbeats 4000000 in
theorem lab_X11_works_442 {G : Gt} {M0 M9 : Mem} {x9 : Int32} {dr : Nat} {rF : Option Nat → Int32 → Mem → Option (Int32 × Mem)} (hrF : ∀ (a0 : Option Nat) (a1 : Int32) (Ma : Mem) (v : Int32 × Mem), rF a0 a1 Ma = some v → Mt G mX11_needs dr [vR a0, vI a1] Ma (some (vI v.1)) v.2) {v0 : Option Nat} {v5 : Int32} {v6 : Int32} {M : Mem} (h : J_X11_works_442 rF v0 v5 v6 M = some (x9, M9)) : V G mX11_works (dr + 3) M0 (some (vI x9)) M9 M 442 [(0, vR v0), (5, vI v5), (6, vI v6)] [] := by
  unfold J_X11_works_442 at h
  refine V.iload (n := 2) dX11_works_442 rfl rfl ?_
  refine V.if_ne (q := 462) dX11_works_444 (by decide) rfl h (fun h => ?_) (fun h => ?_)
  · exact (lab_X11_works_462 hrF h)
  · refine V.aload_n (n := 0) dX11_works_447 rfl rfl ?_
    refine V.aload_n (n := 0) dX11_works_448 rfl rfl ?_
    refine V.getR dX11_works_449 lkX11_133 rfl rfl h (fun x53 h => ?_)
    refine V.aload_n (n := 0) dX11_works_452 rfl rfl ?_
    refine V.getI dX11_works_453 lkX11_379 rfl rfl h (fun x54 h => ?_)
    refine V.iconst (x := 1) dX11_works_456 (by decide) rfl ?_
    refine V.isub dX11_works_457 rfl ?_
    refine V.lald dX11_works_458 rfl h (fun x55 h => ?_)
    refine V.putL dX11_works_459 lkX11_417 (Or.inl rfl) rfl rfl h (fun M56 h => ?_)
    exact (lab_X11_works_462 hrF h)
def J_X11_works_22 (rF : Option Nat → Int32 → Mem → Option (Int32 × Mem)) : Nat → Option Nat → Int32 → Int32 → Int32 → Int32 → Int32 → Int32 → Mem → Option (Int32 × Mem)
  | 0 => fun _ _ _ _ _ _ _ _ => none
  | n + 1 => fun v0 v1 v3 v4 v5 v6 v7 M =>
  (fR M 11 50 v0).bind fun x57 =>
  (aI M 20 x57 (v4 + v7)).bind fun x58 =>
  if x58 = (11 : Int32) then
  (J_X11_works_442 rF v0 v5 v6 M)
  else
  (if ¬ v6 = 0 then
  (J_X11_works_442 rF v0 v5 v6 M)
  else
  ((fR M 11 50 v0).bind fun x59 =>
  (aI M 20 x59 (v4 + v7)).bind fun x60 =>
  (fR M 11 51 v0).bind fun x61 =>
  (aL M 21 x61 (v4 + v7)).bind fun x62 =>
  (fR M 11 52 v0).bind fun x63 =>
  (aI M 20 x63 (v4 + v7)).bind fun x64 =>
  if x60 = 0 then
  (J_X11_works_98 rF (J_X11_works_22 rF n) v0 v1 v3 v4 v5 v6 (v7 + 1) x60 x62 M)
  else
  (if x60 < (1 : Int32) then
  (J_X11_works_137 rF (J_X11_works_22 rF n) v0 v1 v3 v4 v5 v6 (v7 + 1) x60 x62 x64 M)
  else
  (if (5 : Int32) < x60 then
  (J_X11_works_137 rF (J_X11_works_22 rF n) v0 v1 v3 v4 v5 v6 (v7 + 1) x60 x62 x64 M)
  else
  (J_X11_works_98 rF (J_X11_works_22 rF n) v0 v1 v3 v4 v5 v6 (v7 + 1) x60 x62 M)))))
set_option maxRecDepth 20000 in
set_option maxHeartbeats 4000000 in
theorem lab_X11_works_22 {G : Gt} {M0 M9 : Mem} {x9 : Int32} {dr : Nat} {rF : Option Nat → Int32 → Mem → Option (Int32 × Mem)} (hrF : ∀ (a0 : Option Nat) (a1 : Int32) (Ma : Mem) (v : Int32 × Mem), rF a0 a1 Ma = some v → Mt G mX11_needs dr [vR a0, vI a1] Ma (some (vI v.1)) v.2) : ∀ (n : Nat) (v0 : Option Nat) (v1 : Int32) (v3 : Int32) (v4 : Int32) (v5 : Int32) (v6 : Int32) (v7 : Int32) (M : Mem), J_X11_works_22 rF n v0 v1 v3 v4 v5 v6 v7 M = some (x9, M9) → V G mX11_works (dr + 3) M0 (some (vI x9)) M9 M 22 [(0, vR v0), (1, vI v1), (3, vI v3), (4, vI v4), (5, vI v5), (6, vI v6), (7, vI v7)] [] := by
  intro n
  induction n with
  | zero => intro v0 v1 v3 v4 v5 v6 v7 M h; exact nomatch h
  | succ n ih =>
    intro v0 v1 v3 v4 v5 v6 v7 M h
    unfold J_X11_works_22 at h
    refine V.aload_n (n := 0) dX11_works_22 rfl rfl ?_
    refine V.getR dX11_works_23 lkX11_100 rfl rfl h (fun x57 h => ?_)
    refine V.iload (n := 3) dX11_works_26 rfl rfl ?_
    refine V.iload (n := 6) dX11_works_28 rfl rfl ?_
    refine V.iadd dX11_works_30 rfl ?_
    refine V.iald dX11_works_31 rfl h (fun x58 h => ?_)
    refine V.bipush (x := 11) dX11_works_32 (by decide) rfl ?_
    refine V.icmp_eq (q := 442) dX11_works_34 (by decide) rfl h (fun h => ?_) (fun h => ?_)
    · exact V.sub [0, 4, 5] rfl (lab_X11_works_442 hrF h)
    · refine V.iload (n := 5) dX11_works_37 rfl rfl ?_
      refine V.if_ne (q := 442) dX11_works_39 (by decide) rfl h (fun h => ?_) (fun h => ?_)
      · exact V.sub [0, 4, 5] rfl (lab_X11_works_442 hrF h)
      · refine V.aload_n (n := 0) dX11_works_42 rfl rfl ?_
        refine V.getR dX11_works_43 lkX11_100 rfl rfl h (fun x59 h => ?_)
        refine V.iload (n := 3) dX11_works_46 rfl rfl ?_
        refine V.iload (n := 6) dX11_works_48 rfl rfl ?_
        refine V.iadd dX11_works_50 rfl ?_
        refine V.iald dX11_works_51 rfl h (fun x60 h => ?_)
        refine V.istore dX11_works_52 (by decide) rfl rfl ?_
        refine V.aload_n (n := 1) dX11_works_54 rfl rfl ?_
        refine V.getR dX11_works_55 lkX11_103 rfl rfl h (fun x61 h => ?_)
        refine V.iload (n := 4) dX11_works_58 rfl rfl ?_
        refine V.iload (n := 7) dX11_works_60 rfl rfl ?_
        refine V.iadd dX11_works_62 rfl ?_
        refine V.lald dX11_works_63 rfl h (fun x62 h => ?_)
        refine V.lstore dX11_works_64 (by decide) rfl rfl ?_
        refine V.aload_n (n := 2) dX11_works_66 rfl rfl ?_
        refine V.getR dX11_works_67 lkX11_106 rfl rfl h (fun x63 h => ?_)
        refine V.iload (n := 5) dX11_works_70 rfl rfl ?_
        refine V.iload (n := 8) dX11_works_72 rfl rfl ?_
        refine V.iadd dX11_works_74 rfl ?_
        refine V.iald dX11_works_75 rfl h (fun x64 h => ?_)
        refine V.istore dX11_works_76 (by decide) rfl rfl ?_
        refine V.iinc (n := 9) (x := v7 + 1) dX11_works_78 rfl (by rfl) (by decide) rfl rfl ?_
        refine V.iload (n := 3) dX11_works_81 rfl rfl ?_
        refine V.if_eq (q := 98) dX11_works_83 (by decide) rfl h (fun h => ?_) (fun h => ?_)
        · exact V.sub [4, 5, 6, 7, 8, 9, 0, 3, 2] rfl (lab_X11_works_98 hrF ih h)
        · refine V.iload (n := 3) dX11_works_86 rfl rfl ?_
          refine V.iconst (x := 1) dX11_works_88 (by decide) rfl ?_
          refine V.icmp_lt (q := 137) dX11_works_89 (by decide) rfl h (fun h => ?_) (fun h => ?_)
          · exact V.sub [4, 5, 6, 7, 8, 9, 0, 3, 2, 1] rfl (lab_X11_works_137 hrF ih h)
          · refine V.iload (n := 3) dX11_works_92 rfl rfl ?_
            refine V.iconst (x := 5) dX11_works_94 (by decide) rfl ?_
            refine V.icmp_gt (q := 137) dX11_works_95 (by decide) rfl h (fun h => ?_) (fun h => ?_)
            · exact V.sub [4, 5, 6, 7, 8, 9, 0, 3, 2, 1] rfl (lab_X11_works_137 hrF ih h)
            · exact V.sub [4, 5, 6, 7, 8, 9, 0, 3, 2] rfl (lab_X11_works_98 hrF ih h)
def L_X11_works (rF : Option Nat → Int32 → Mem → Option (Int32 × Mem)) (v0 : Option Nat) (v1 : Int32) (v2 : Int32) (v3 : Int32) (M : Mem) : Option (Int32 × Mem) :=
  (fI M 11 63 v0).bind fun x65 =>
  J_X11_works_22 rF FU v0 v1 v3 ((1200 : Int32) * ((30 : Int32) + v1)) x65 (0 : Int32) v2 M
set_option maxRecDepth 20000 in
set_option maxHeartbeats 4000000 in
theorem lift_X11_works {G : Gt} {M M9 : Mem} {x9 : Int32} {v0 : Option Nat} {v1 : Int32} {v2 : Int32} {v3 : Int32} {dr : Nat} {rF : Option Nat → Int32 → Mem → Option (Int32 × Mem)} (hrF : ∀ (a0 : Option Nat) (a1 : Int32) (Ma : Mem) (v : Int32 × Mem), rF a0 a1 Ma = some v → Mt G mX11_needs dr [vR a0, vI a1] Ma (some (vI v.1)) v.2) (h : L_X11_works rF v0 v1 v2 v3 M = some (x9, M9)) : Mt G mX11_works (dr + 3) [vR v0, vI v1, vI v2, vI v3] M (some (vI x9)) M9 := by
  unfold L_X11_works at h
  refine Mt.of (by decide +kernel) (Nat.le_of_ble_eq_true rfl) ?_
  have hh : V G mX11_works (dr + 3) M (some (vI x9)) M9 M 0 [(0, vR v0), (1, vI v1), (2, vI v2), (3, vI v3)] [] := by
    refine V.sipush (x := 1200) dX11_works_0 (by decide) rfl ?_
    refine V.bipush (x := 30) dX11_works_3 (by decide) rfl ?_
    refine V.iload_n (n := 1) dX11_works_5 rfl rfl ?_
    refine V.iadd dX11_works_6 rfl ?_
    refine V.imul dX11_works_7 rfl ?_
    refine V.istore dX11_works_8 (by decide) rfl rfl ?_
    refine V.aload_n (n := 1) dX11_works_10 rfl rfl ?_
    refine V.getI dX11_works_11 lkX11_379 rfl rfl h (fun x65 h => ?_)
    refine V.istore dX11_works_14 (by decide) rfl rfl ?_
    refine V.iconst (x := 0) dX11_works_16 (by decide) rfl ?_
    refine V.istore dX11_works_17 (by decide) rfl rfl ?_
    refine V.iload_n (n := 5) dX11_works_19 rfl rfl ?_
    refine V.istore dX11_works_20 (by decide) rfl rfl ?_
    exact V.sub [4, 5, 7, 3, 2, 1, 0] rfl (lab_X11_works_22 hrF FU _ _ _ _ _ _ _ _ h)
  exact hh
def J_X11_builds_19 (rF : Option Nat → Int32 → Mem → Option (Int32 × Mem)) : Nat → Option Nat → Int32 → Int32 → Int32 → Int32 → Int32 → Mem → Option (Int32 × Mem)
  | 0 => fun _ _ _ _ _ _ _ => none
  | n + 1 => fun v0 v1 v2 v3 v4 v5 M =>
  if v4 ≤ v5 then
  (some ((0 : Int32), M))
  else
  ((ck M 11 v0).bind fun _ => (L_X11_works rF v0 v1 v3 v5 M).bind fun w1 =>
  if w1.1 = 0 then
  ((fR w1.2 11 58 v0).bind fun x2 =>
  (fL w1.2 11 71 v0).bind fun x3 =>
  (uL w1.2 21 x2 ((((72 : Int32) * v1) + ((12 : Int32) * v2)) + v5) x3).bind fun M4 =>
  J_X11_builds_19 rF n v0 v1 v2 v3 v4 (v5 + 1) M4)
  else
  (some (w1.1, w1.2)))
set_option maxRecDepth 20000 in
set_option maxHeartbeats 4000000 in
theorem lab_X11_builds_19 {G : Gt} {M0 M9 : Mem} {x9 : Int32} {dr : Nat} {rF : Option Nat → Int32 → Mem → Option (Int32 × Mem)} (hrF : ∀ (a0 : Option Nat) (a1 : Int32) (Ma : Mem) (v : Int32 × Mem), rF a0 a1 Ma = some v → Mt G mX11_needs dr [vR a0, vI a1] Ma (some (vI v.1)) v.2) : ∀ (n : Nat) (v0 : Option Nat) (v1 : Int32) (v2 : Int32) (v3 : Int32) (v4 : Int32) (v5 : Int32) (M : Mem), J_X11_builds_19 rF n v0 v1 v2 v3 v4 v5 M = some (x9, M9) → V G mX11_builds (dr + 4) M0 (some (vI x9)) M9 M 19 [(0, vR v0), (1, vI v1), (2, vI v2), (3, vI v3), (4, vI v4), (5, vI v5)] [] := by
  intro n
  induction n with
  | zero => intro v0 v1 v2 v3 v4 v5 M h; exact nomatch h
  | succ n ih =>
    intro v0 v1 v2 v3 v4 v5 M h
    unfold J_X11_builds_19 at h
    refine V.iload (n := 5) dX11_builds_19 rfl rfl ?_
    refine V.iload (n := 4) dX11_builds_21 rfl rfl ?_
    refine V.icmp_ge (q := 71) dX11_builds_23 (by decide) rfl h (fun h => ?_) (fun h => ?_)
    · refine V.iconst (x := 0) dX11_builds_71 (by decide) rfl ?_
      exact V.iret dX11_builds_72 rfl h
    · refine V.aload_n (n := 0) dX11_builds_26 rfl rfl ?_
      refine V.iload_n (n := 1) dX11_builds_27 rfl rfl ?_
      refine V.iload_n (n := 3) dX11_builds_28 rfl rfl ?_
      refine V.iload (n := 5) dX11_builds_29 rfl rfl ?_
      refine V.callVi (d' := dr + 3) (as := [vI v1, vI v3, vI v5]) (st := []) dX11_builds_31 meX11_works mlX11_414 imX11_works seX11_works clsX11 rfl (by omega) (Nat.le_of_ble_eq_true rfl) rfl rfl h (fun v hv => lift_X11_works hrF hv) (fun w1 h => ?_)
      refine V.istore dX11_builds_34 (by decide) rfl rfl ?_
      refine V.iload (n := 0) dX11_builds_36 rfl rfl ?_
      refine V.if_eq (q := 44) dX11_builds_38 (by decide) rfl h (fun h => ?_) (fun h => ?_)
      · refine V.aload_n (n := 1) dX11_builds_44 rfl rfl ?_
        refine V.getR dX11_builds_45 lkX11_124 rfl rfl h (fun x2 h => ?_)
        refine V.bipush (x := 72) dX11_builds_48 (by decide) rfl ?_
        refine V.iload_n (n := 2) dX11_builds_50 rfl rfl ?_
        refine V.imul dX11_builds_51 rfl ?_
        refine V.bipush (x := 12) dX11_builds_52 (by decide) rfl ?_
        refine V.iload_n (n := 3) dX11_builds_54 rfl rfl ?_
        refine V.imul dX11_builds_55 rfl ?_
        refine V.iadd dX11_builds_56 rfl ?_
        refine V.iload (n := 6) dX11_builds_57 rfl rfl ?_
        refine V.iadd dX11_builds_59 rfl ?_
        refine V.aload_n (n := 1) dX11_builds_60 rfl rfl ?_
        refine V.getL dX11_builds_61 lkX11_417 rfl rfl h (fun x3 h => ?_)
        refine V.last dX11_builds_64 rfl h (fun M4 h => ?_)
        refine V.iinc (n := 6) (x := v5 + 1) dX11_builds_65 rfl (by rfl) (by decide) rfl rfl ?_
        refine V.goto (q := 19) dX11_builds_68 (by decide) ?_
        exact V.sub [2, 3, 4, 5, 6, 0] rfl (ih _ _ _ _ _ _ _ h)
      · refine V.iload (n := 0) dX11_builds_41 rfl rfl ?_
        exact V.iret dX11_builds_43 rfl h
def L_X11_builds (rF : Option Nat → Int32 → Mem → Option (Int32 × Mem)) (v0 : Option Nat) (v1 : Int32) (v2 : Int32) (v3 : Int32) (M : Mem) : Option (Int32 × Mem) :=
  (fR M 11 44 v0).bind fun x5 =>
  (aI M 20 x5 (((6 : Int32) * ((30 : Int32) + v1)) + v2)).bind fun x6 =>
  J_X11_builds_19 rF FU v0 v1 v2 v3 x6 (0 : Int32) M
set_option maxRecDepth 20000 in
set_option maxHeartbeats 4000000 in
theorem lift_X11_builds {G : Gt} {M M9 : Mem} {x9 : Int32} {v0 : Option Nat} {v1 : Int32} {v2 : Int32} {v3 : Int32} {dr : Nat} {rF : Option Nat → Int32 → Mem → Option (Int32 × Mem)} (hrF : ∀ (a0 : Option Nat) (a1 : Int32) (Ma : Mem) (v : Int32 × Mem), rF a0 a1 Ma = some v → Mt G mX11_needs dr [vR a0, vI a1] Ma (some (vI v.1)) v.2) (h : L_X11_builds rF v0 v1 v2 v3 M = some (x9, M9)) : Mt G mX11_builds (dr + 4) [vR v0, vI v1, vI v2, vI v3] M (some (vI x9)) M9 := by
  unfold L_X11_builds at h
  refine Mt.of (by decide +kernel) (Nat.le_of_ble_eq_true rfl) ?_
  have hh : V G mX11_builds (dr + 4) M (some (vI x9)) M9 M 0 [(0, vR v0), (1, vI v1), (2, vI v2), (3, vI v3)] [] := by
    refine V.aload_n (n := 0) dX11_builds_0 rfl rfl ?_
    refine V.getR dX11_builds_1 lkX11_81 rfl rfl h (fun x5 h => ?_)
    refine V.bipush (x := 6) dX11_builds_4 (by decide) rfl ?_
    refine V.bipush (x := 30) dX11_builds_6 (by decide) rfl ?_
    refine V.iload_n (n := 1) dX11_builds_8 rfl rfl ?_
    refine V.iadd dX11_builds_9 rfl ?_
    refine V.imul dX11_builds_10 rfl ?_
    refine V.iload_n (n := 2) dX11_builds_11 rfl rfl ?_
    refine V.iadd dX11_builds_12 rfl ?_
    refine V.iald dX11_builds_13 rfl h (fun x6 h => ?_)
    refine V.istore dX11_builds_14 (by decide) rfl rfl ?_
    refine V.iconst (x := 0) dX11_builds_16 (by decide) rfl ?_
    refine V.istore dX11_builds_17 (by decide) rfl rfl ?_
    exact V.sub [2, 3, 4, 5, 1, 0] rfl (lab_X11_builds_19 hrF FU _ _ _ _ _ _ _ h)
  exact hh
def J_X11_does_225 (rF : Option Nat → Int32 → Mem → Option (Int32 × Mem)) (k_24 : Option Nat → Int32 → Int32 → Int32 → Int32 → Int32 → Mem → Option (Int32 × Mem)) (v0 : Option Nat) (v1 : Int32) (v2 : Int32) (v3 : Int32) (v4 : Int32) (v7 : Int32) (M : Mem) : Option (Int32 × Mem) :=
  k_24 v0 v1 v2 v3 v4 v7 M
set_option maxRecDepth 20000 in
set_option maxHeartbeats 4000000 in
theorem lab_X11_does_225 {G : Gt} {M0 M9 : Mem} {x9 : Int32} {dr : Nat} {rF : Option Nat → Int32 → Mem → Option (Int32 × Mem)} (hrF : ∀ (a0 : Option Nat) (a1 : Int32) (Ma : Mem) (v : Int32 × Mem), rF a0 a1 Ma = some v → Mt G mX11_needs dr [vR a0, vI a1] Ma (some (vI v.1)) v.2) {k_24 : Option Nat → Int32 → Int32 → Int32 → Int32 → Int32 → Mem → Option (Int32 × Mem)} (hk_24 : ∀ (v0 : Option Nat) (v1 : Int32) (v2 : Int32) (v3 : Int32) (v4 : Int32) (v5 : Int32) (Ma : Mem), k_24 v0 v1 v2 v3 v4 v5 Ma = some (x9, M9) → V G mX11_does (dr + 5) M0 (some (vI x9)) M9 Ma 24 [(0, vR v0), (1, vI v1), (2, vI v2), (3, vI v3), (4, vI v4), (5, vI v5)] []) {v0 : Option Nat} {v1 : Int32} {v2 : Int32} {v3 : Int32} {v4 : Int32} {v7 : Int32} {M : Mem} (h : J_X11_does_225 rF k_24 v0 v1 v2 v3 v4 v7 M = some (x9, M9)) : V G mX11_does (dr + 5) M0 (some (vI x9)) M9 M 225 [(0, vR v0), (1, vI v1), (2, vI v2), (3, vI v3), (4, vI v4), (7, vI v7)] [] := by
  unfold J_X11_does_225 at h
  refine V.iload (n := 5) dX11_does_225 rfl rfl ?_
  refine V.istore dX11_does_227 (by decide) rfl rfl ?_
  refine V.goto (q := 24) dX11_does_229 (by decide) ?_
  exact V.sub [1, 2, 3, 4, 5, 0] rfl (hk_24 _ _ _ _ _ _ _ h)
def J_X11_does_196 (rF : Option Nat → Int32 → Mem → Option (Int32 × Mem)) (k_24 : Option Nat → Int32 → Int32 → Int32 → Int32 → Int32 → Mem → Option (Int32 × Mem)) (v0 : Option Nat) (v1 : Int32) (v2 : Int32) (v3 : Int32) (v4 : Int32) (v6 : Int32) (v7 : Int32) (M : Mem) : Option (Int32 × Mem) :=
  if v6 = 0 then
  (J_X11_does_225 rF k_24 v0 v1 v2 v3 v4 v7 M)
  else
  (if ¬ v4 = 0 then
  ((fR M 11 72 v0).bind fun x1 =>
  (aI M 20 x1 (((3 : Int32) * v1) + (v4 + (-1)))).bind fun x2 =>
  J_X11_does_225 rF k_24 v0 v1 v2 v3 (v4 + (-1)) x2 M)
  else
  (some (v6, M)))
set_option maxRecDepth 20000 in
set_option maxHeartbeats 4000000 in
theorem lab_X11_does_196 {G : Gt} {M0 M9 : Mem} {x9 : Int32} {dr : Nat} {rF : Option Nat → Int32 → Mem → Option (Int32 × Mem)} (hrF : ∀ (a0 : Option Nat) (a1 : Int32) (Ma : Mem) (v : Int32 × Mem), rF a0 a1 Ma = some v → Mt G mX11_needs dr [vR a0, vI a1] Ma (some (vI v.1)) v.2) {k_24 : Option Nat → Int32 → Int32 → Int32 → Int32 → Int32 → Mem → Option (Int32 × Mem)} (hk_24 : ∀ (v0 : Option Nat) (v1 : Int32) (v2 : Int32) (v3 : Int32) (v4 : Int32) (v5 : Int32) (Ma : Mem), k_24 v0 v1 v2 v3 v4 v5 Ma = some (x9, M9) → V G mX11_does (dr + 5) M0 (some (vI x9)) M9 Ma 24 [(0, vR v0), (1, vI v1), (2, vI v2), (3, vI v3), (4, vI v4), (5, vI v5)] []) {v0 : Option Nat} {v1 : Int32} {v2 : Int32} {v3 : Int32} {v4 : Int32} {v6 : Int32} {v7 : Int32} {M : Mem} (h : J_X11_does_196 rF k_24 v0 v1 v2 v3 v4 v6 v7 M = some (x9, M9)) : V G mX11_does (dr + 5) M0 (some (vI x9)) M9 M 196 [(0, vR v0), (1, vI v1), (2, vI v2), (3, vI v3), (4, vI v4), (6, vI v6), (7, vI v7)] [] := by
  unfold J_X11_does_196 at h
  refine V.iload (n := 5) dX11_does_196 rfl rfl ?_
  refine V.if_eq (q := 225) dX11_does_198 (by decide) rfl h (fun h => ?_) (fun h => ?_)
  · exact V.sub [0, 1, 2, 3, 4, 6] rfl (lab_X11_does_225 hrF hk_24 h)
  · refine V.iload (n := 4) dX11_does_201 rfl rfl ?_
    refine V.if_ne (q := 209) dX11_does_203 (by decide) rfl h (fun h => ?_) (fun h => ?_)
    · refine V.iinc (n := 4) (x := v4 + (-1)) dX11_does_209 rfl (by rfl) (by decide) rfl rfl ?_
      refine V.aload_n (n := 1) dX11_does_212 rfl rfl ?_
      refine V.getR dX11_does_213 lkX11_142 rfl rfl h (fun x1 h => ?_)
      refine V.iconst (x := 3) dX11_does_216 (by decide) rfl ?_
      refine V.iload_n (n := 2) dX11_does_217 rfl rfl ?_
      refine V.imul dX11_does_218 rfl ?_
      refine V.iload (n := 0) dX11_does_219 rfl rfl ?_
      refine V.iadd dX11_does_221 rfl ?_
      refine V.iald dX11_does_222 rfl h (fun x2 h => ?_)
      refine V.istore dX11_does_223 (by decide) rfl rfl ?_
      exact V.sub [2, 3, 4, 5, 1, 0] rfl (lab_X11_does_225 hrF hk_24 h)
    · refine V.iload (n := 5) dX11_does_206 rfl rfl ?_
      exact V.iret dX11_does_208 rfl h
def J_X11_does_24 (rF : Option Nat → Int32 → Mem → Option (Int32 × Mem)) : Nat → Option Nat → Int32 → Int32 → Int32 → Int32 → Int32 → Mem → Option (Int32 × Mem)
  | 0 => fun _ _ _ _ _ _ _ => none
  | n + 1 => fun v0 v1 v2 v3 v4 v5 M =>
  if v3 ≤ v5 then
  (some ((0 : Int32), M))
  else
  ((fR M 11 46 v0).bind fun x3 =>
  (aI M 20 x3 (v2 + v5)).bind fun x4 =>
  if x4 = 0 then
  ((fR M 11 48 v0).bind fun x5 =>
  (aI M 20 x5 (v2 + v5)).bind fun x6 =>
  (fR M 11 47 v0).bind fun x7 =>
  (aI M 20 x7 (v2 + v5)).bind fun x8 =>
  (ck M 11 v0).bind fun _ => (L_X11_builds rF v0 v1 x6 x8 M).bind fun w9 =>
  J_X11_does_196 rF (J_X11_does_24 rF n) v0 v1 v2 v3 v4 w9.1 (v5 + (1 : Int32)) w9.2)
  else
  if x4 = 1 then
  ((fR M 11 47 v0).bind fun x10 =>
  (aI M 20 x10 (v2 + v5)).bind fun x11 =>
  (ck M 11 v0).bind fun _ => (L_X11_works rF v0 v1 x11 (0 : Int32) M).bind fun w12 =>
  if ¬ w12.1 = 0 then
  (J_X11_does_196 rF (J_X11_does_24 rF n) v0 v1 v2 v3 v4 w12.1 (v5 + (1 : Int32)) w12.2)
  else
  ((fL w12.2 11 71 v0).bind fun x13 =>
  if ¬ x13 = (0 : Int64) then
  (J_X11_does_196 rF (J_X11_does_24 rF n) v0 v1 v2 v3 v4 w12.1 (v5 + (1 : Int32)) w12.2)
  else
  ((fR w12.2 11 48 v0).bind fun x14 =>
  (aI w12.2 20 x14 (v2 + v5)).bind fun x15 =>
  J_X11_does_196 rF (J_X11_does_24 rF n) v0 v1 v2 v3 v4 x15 (v5 + (1 : Int32)) w12.2)))
  else
  if x4 = 2 then
  ((fR M 11 72 v0).bind fun x16 =>
  (fR M 11 48 v0).bind fun x17 =>
  (aI M 20 x17 (v2 + v5)).bind fun x18 =>
  (uI M 20 x16 (((3 : Int32) * v1) + v4) x18).bind fun M19 =>
  J_X11_does_196 rF (J_X11_does_24 rF n) v0 v1 v2 v3 (v4 + 1) (0 : Int32) (v5 + (1 : Int32)) M19)
  else
  if x4 = 3 then
  ((fR M 11 48 v0).bind fun x20 =>
  (aI M 20 x20 (v2 + v5)).bind fun x21 =>
  J_X11_does_196 rF (J_X11_does_24 rF n) v0 v1 v2 v3 (v4 + (-1)) (0 : Int32) x21 M)
  else
  (J_X11_does_196 rF (J_X11_does_24 rF n) v0 v1 v2 v3 v4 (0 : Int32) (v5 + (1 : Int32)) M))
set_option maxRecDepth 20000 in
set_option maxHeartbeats 4000000 in
theorem lab_X11_does_24 {G : Gt} {M0 M9 : Mem} {x9 : Int32} {dr : Nat} {rF : Option Nat → Int32 → Mem → Option (Int32 × Mem)} (hrF : ∀ (a0 : Option Nat) (a1 : Int32) (Ma : Mem) (v : Int32 × Mem), rF a0 a1 Ma = some v → Mt G mX11_needs dr [vR a0, vI a1] Ma (some (vI v.1)) v.2) : ∀ (n : Nat) (v0 : Option Nat) (v1 : Int32) (v2 : Int32) (v3 : Int32) (v4 : Int32) (v5 : Int32) (M : Mem), J_X11_does_24 rF n v0 v1 v2 v3 v4 v5 M = some (x9, M9) → V G mX11_does (dr + 5) M0 (some (vI x9)) M9 M 24 [(0, vR v0), (1, vI v1), (2, vI v2), (3, vI v3), (4, vI v4), (5, vI v5)] [] := by
  intro n
  induction n with
  | zero => intro v0 v1 v2 v3 v4 v5 M h; exact nomatch h
  | succ n ih =>
    intro v0 v1 v2 v3 v4 v5 M h
    unfold J_X11_does_24 at h
    refine V.iload (n := 5) dX11_does_24 rfl rfl ?_
    refine V.iload_n (n := 3) dX11_does_26 rfl rfl ?_
    refine V.icmp_ge (q := 232) dX11_does_27 (by decide) rfl h (fun h => ?_) (fun h => ?_)
    · refine V.iconst (x := 0) dX11_does_232 (by decide) rfl ?_
      exact V.iret dX11_does_233 rfl h
    · refine V.iconst (x := 0) dX11_does_30 (by decide) rfl ?_
      refine V.istore dX11_does_31 (by decide) rfl rfl ?_
      refine V.iload (n := 6) dX11_does_33 rfl rfl ?_
      refine V.iconst (x := 1) dX11_does_35 (by decide) rfl ?_
      refine V.iadd dX11_does_36 rfl ?_
      refine V.istore dX11_does_37 (by decide) rfl rfl ?_
      refine V.aload_n (n := 2) dX11_does_39 rfl rfl ?_
      refine V.getR dX11_does_40 lkX11_87 rfl rfl h (fun x3 h => ?_)
      refine V.iload_n (n := 4) dX11_does_43 rfl rfl ?_
      refine V.iload (n := 7) dX11_does_44 rfl rfl ?_
      refine V.iadd dX11_does_46 rfl ?_
      refine V.iald dX11_does_47 rfl h (fun x4 h => ?_)
      refine V.sw h (fun hx h => ?_) (fun n0 h => ?_)
      · refine V.swt hx ?_
        refine V.tableIn (q := 80) (x := 0) (off := 32) dX11_does_48 (by decide) (by decide) (by decide) (by decide) ?_
        refine V.aload_n (n := 2) dX11_does_80 rfl rfl ?_
        refine V.iload_n (n := 3) dX11_does_81 rfl rfl ?_
        refine V.aload_n (n := 2) dX11_does_82 rfl rfl ?_
        refine V.getR dX11_does_83 lkX11_93 rfl rfl h (fun x5 h => ?_)
        refine V.iload_n (n := 4) dX11_does_86 rfl rfl ?_
        refine V.iload (n := 7) dX11_does_87 rfl rfl ?_
        refine V.iadd dX11_does_89 rfl ?_
        refine V.iald dX11_does_90 rfl h (fun x6 h => ?_)
        refine V.aload_n (n := 2) dX11_does_91 rfl rfl ?_
        refine V.getR dX11_does_92 lkX11_90 rfl rfl h (fun x7 h => ?_)
        refine V.iload_n (n := 4) dX11_does_95 rfl rfl ?_
        refine V.iload (n := 7) dX11_does_96 rfl rfl ?_
        refine V.iadd dX11_does_98 rfl ?_
        refine V.iald dX11_does_99 rfl h (fun x8 h => ?_)
        refine V.callVi (d' := dr + 4) (as := [vI v1, vI x6, vI x8]) (st := []) dX11_does_100 meX11_builds mlX11_410 imX11_builds seX11_builds clsX11 rfl (by omega) (Nat.le_of_ble_eq_true rfl) rfl rfl h (fun v hv => lift_X11_builds hrF hv) (fun w9 h => ?_)
        refine V.istore dX11_does_103 (by decide) rfl rfl ?_
        refine V.goto (q := 196) dX11_does_105 (by decide) ?_
        exact V.sub [2, 3, 4, 5, 6, 0, 1] rfl (lab_X11_does_196 hrF ih h)
      refine V.sw h (fun hx h => ?_) (fun n1 h => ?_)
      · refine V.swt hx ?_
        refine V.tableIn (q := 108) (x := 1) (off := 60) dX11_does_48 (by decide) (by decide) (by decide) (by decide) ?_
        refine V.aload_n (n := 2) dX11_does_108 rfl rfl ?_
        refine V.iload_n (n := 3) dX11_does_109 rfl rfl ?_
        refine V.aload_n (n := 2) dX11_does_110 rfl rfl ?_
        refine V.getR dX11_does_111 lkX11_90 rfl rfl h (fun x10 h => ?_)
        refine V.iload_n (n := 4) dX11_does_114 rfl rfl ?_
        refine V.iload (n := 7) dX11_does_115 rfl rfl ?_
        refine V.iadd dX11_does_117 rfl ?_
        refine V.iald dX11_does_118 rfl h (fun x11 h => ?_)
        refine V.iconst (x := 0) dX11_does_119 (by decide) rfl ?_
        refine V.callVi (d' := dr + 3) (as := [vI v1, vI x11, vI (0 : Int32)]) (st := []) dX11_does_120 meX11_works mlX11_414 imX11_works seX11_works clsX11 rfl (by omega) (Nat.le_of_ble_eq_true rfl) rfl rfl h (fun v hv => lift_X11_works hrF hv) (fun w12 h => ?_)
        refine V.istore dX11_does_123 (by decide) rfl rfl ?_
        refine V.iload (n := 0) dX11_does_125 rfl rfl ?_
        refine V.if_ne (q := 196) dX11_does_127 (by decide) rfl h (fun h => ?_) (fun h => ?_)
        · exact V.sub [2, 3, 4, 5, 6, 0, 1] rfl (lab_X11_does_196 hrF ih h)
        · refine V.aload_n (n := 2) dX11_does_130 rfl rfl ?_
          refine V.getL dX11_does_131 lkX11_417 rfl rfl h (fun x13 h => ?_)
          refine V.lconst (x := 0) dX11_does_134 (by decide) rfl ?_
          refine V.lif_ne (q := 196) dX11_does_135 rfl dX11_does_136 (by decide) rfl h (fun h => ?_) (fun h => ?_)
          · exact V.sub [2, 3, 4, 5, 6, 0, 1] rfl (lab_X11_does_196 hrF ih h)
          · refine V.aload_n (n := 2) dX11_does_139 rfl rfl ?_
            refine V.getR dX11_does_140 lkX11_93 rfl rfl h (fun x14 h => ?_)
            refine V.iload_n (n := 4) dX11_does_143 rfl rfl ?_
            refine V.iload (n := 7) dX11_does_144 rfl rfl ?_
            refine V.iadd dX11_does_146 rfl ?_
            refine V.iald dX11_does_147 rfl h (fun x15 h => ?_)
            refine V.istore dX11_does_148 (by decide) rfl rfl ?_
            refine V.goto (q := 196) dX11_does_150 (by decide) ?_
            exact V.sub [2, 3, 4, 5, 6, 0, 1] rfl (lab_X11_does_196 hrF ih h)
      refine V.sw h (fun hx h => ?_) (fun n2 h => ?_)
      · refine V.swt hx ?_
        refine V.tableIn (q := 153) (x := 2) (off := 105) dX11_does_48 (by decide) (by decide) (by decide) (by decide) ?_
        refine V.aload_n (n := 2) dX11_does_153 rfl rfl ?_
        refine V.getR dX11_does_154 lkX11_142 rfl rfl h (fun x16 h => ?_)
        refine V.iconst (x := 3) dX11_does_157 (by decide) rfl ?_
        refine V.iload_n (n := 3) dX11_does_158 rfl rfl ?_
        refine V.imul dX11_does_159 rfl ?_
        refine V.iload (n := 6) dX11_does_160 rfl rfl ?_
        refine V.iadd dX11_does_162 rfl ?_
        refine V.aload_n (n := 2) dX11_does_163 rfl rfl ?_
        refine V.getR dX11_does_164 lkX11_93 rfl rfl h (fun x17 h => ?_)
        refine V.iload_n (n := 4) dX11_does_167 rfl rfl ?_
        refine V.iload (n := 7) dX11_does_168 rfl rfl ?_
        refine V.iadd dX11_does_170 rfl ?_
        refine V.iald dX11_does_171 rfl h (fun x18 h => ?_)
        refine V.iast dX11_does_172 rfl h (fun M19 h => ?_)
        refine V.iinc (n := 6) (x := v4 + 1) dX11_does_173 rfl (by rfl) (by decide) rfl rfl ?_
        refine V.goto (q := 196) dX11_does_176 (by decide) ?_
        exact V.sub [3, 4, 5, 6, 0, 2, 1] rfl (lab_X11_does_196 hrF ih h)
      refine V.sw h (fun hx h => ?_) (fun n3 h => ?_)
      · refine V.swt hx ?_
        refine V.tableIn (q := 179) (x := 3) (off := 131) dX11_does_48 (by decide) (by decide) (by decide) (by decide) ?_
        refine V.iinc (n := 6) (x := v4 + (-1)) dX11_does_179 rfl (by rfl) (by decide) rfl rfl ?_
        refine V.aload_n (n := 3) dX11_does_182 rfl rfl ?_
        refine V.getR dX11_does_183 lkX11_93 rfl rfl h (fun x20 h => ?_)
        refine V.iload_n (n := 5) dX11_does_186 rfl rfl ?_
        refine V.iload (n := 7) dX11_does_187 rfl rfl ?_
        refine V.iadd dX11_does_189 rfl ?_
        refine V.iald dX11_does_190 rfl h (fun x21 h => ?_)
        refine V.istore dX11_does_191 (by decide) rfl rfl ?_
        refine V.goto (q := 196) dX11_does_193 (by decide) ?_
        exact V.sub [3, 4, 5, 6, 1, 2, 0] rfl (lab_X11_does_196 hrF ih h)
      have e0 := sw_ne n0
      have e1 := sw_ne n1
      have e2 := sw_ne n2
      have e3 := sw_ne n3
      have t0 : (0 : Int32).toInt = 0 := by decide
      have t1 : (1 : Int32).toInt = 1 := by decide
      have t2 : (2 : Int32).toInt = 2 := by decide
      have t3 : (3 : Int32).toInt = 3 := by decide
      refine V.tableOut (q := 196) dX11_does_48 (by omega) (by decide) ?_
      exact V.sub [2, 3, 4, 5, 6, 1, 0] rfl (lab_X11_does_196 hrF ih h)
def L_X11_does (rF : Option Nat → Int32 → Mem → Option (Int32 × Mem)) (v0 : Option Nat) (v1 : Int32) (M : Mem) : Option (Int32 × Mem) :=
  (fR M 11 45 v0).bind fun x22 =>
  (aI M 20 x22 ((30 : Int32) + v1)).bind fun x23 =>
  J_X11_does_24 rF FU v0 v1 ((120 : Int32) * ((30 : Int32) + v1)) x23 (0 : Int32) (0 : Int32) M
set_option maxRecDepth 20000 in
set_option maxHeartbeats 4000000 in
theorem lift_X11_does {G : Gt} {M M9 : Mem} {x9 : Int32} {v0 : Option Nat} {v1 : Int32} {dr : Nat} {rF : Option Nat → Int32 → Mem → Option (Int32 × Mem)} (hrF : ∀ (a0 : Option Nat) (a1 : Int32) (Ma : Mem) (v : Int32 × Mem), rF a0 a1 Ma = some v → Mt G mX11_needs dr [vR a0, vI a1] Ma (some (vI v.1)) v.2) (h : L_X11_does rF v0 v1 M = some (x9, M9)) : Mt G mX11_does (dr + 5) [vR v0, vI v1] M (some (vI x9)) M9 := by
  unfold L_X11_does at h
  refine Mt.of (by decide +kernel) (Nat.le_of_ble_eq_true rfl) ?_
  have hh : V G mX11_does (dr + 5) M (some (vI x9)) M9 M 0 [(0, vR v0), (1, vI v1)] [] := by
    refine V.bipush (x := 120) dX11_does_0 (by decide) rfl ?_
    refine V.bipush (x := 30) dX11_does_2 (by decide) rfl ?_
    refine V.iload_n (n := 1) dX11_does_4 rfl rfl ?_
    refine V.iadd dX11_does_5 rfl ?_
    refine V.imul dX11_does_6 rfl ?_
    refine V.istore_n dX11_does_7 rfl (by decide) rfl rfl ?_
    refine V.aload_n (n := 1) dX11_does_8 rfl rfl ?_
    refine V.getR dX11_does_9 lkX11_84 rfl rfl h (fun x22 h => ?_)
    refine V.bipush (x := 30) dX11_does_12 (by decide) rfl ?_
    refine V.iload_n (n := 2) dX11_does_14 rfl rfl ?_
    refine V.iadd dX11_does_15 rfl ?_
    refine V.iald dX11_does_16 rfl h (fun x23 h => ?_)
    refine V.istore_n dX11_does_17 rfl (by decide) rfl rfl ?_
    refine V.iconst (x := 0) dX11_does_18 (by decide) rfl ?_
    refine V.istore dX11_does_19 (by decide) rfl rfl ?_
    refine V.iconst (x := 0) dX11_does_21 (by decide) rfl ?_
    refine V.istore dX11_does_22 (by decide) rfl rfl ?_
    exact V.sub [4, 5, 3, 2, 1, 0] rfl (lab_X11_does_24 hrF FU _ _ _ _ _ _ _ h)
  exact hh
def J_X11_needs_147 (rF : Option Nat → Int32 → Mem → Option (Int32 × Mem)) (v0 : Option Nat) (v1 : Int32) (v2 : Int32) (s0 : Option Nat) (s1 : Int32) (s2 : Int32) (M : Mem) : Option (Int32 × Mem) :=
  (uI M 20 s0 s1 s2).bind fun M1 =>
  (fR M1 11 56 v0).bind fun x2 =>
  (uI M1 20 x2 v1 v2).bind fun M3 =>
  some (v2, M3)
set_option maxRecDepth 20000 in
set_option maxHeartbeats 4000000 in
theorem lab_X11_needs_147 {G : Gt} {M0 M9 : Mem} {x9 : Int32} {dr : Nat} {rF : Option Nat → Int32 → Mem → Option (Int32 × Mem)} (hrF : ∀ (a0 : Option Nat) (a1 : Int32) (Ma : Mem) (v : Int32 × Mem), rF a0 a1 Ma = some v → Mt G mX11_needs dr [vR a0, vI a1] Ma (some (vI v.1)) v.2) {v0 : Option Nat} {v1 : Int32} {v2 : Int32} {s0 : Option Nat} {s1 : Int32} {s2 : Int32} {M : Mem} (h : J_X11_needs_147 rF v0 v1 v2 s0 s1 s2 M = some (x9, M9)) : V G mX11_needs (dr + 6) M0 (some (vI x9)) M9 M 147 [(0, vR v0), (1, vI v1), (2, vI v2)] [vI s2, vI s1, vR s0] := by
  unfold J_X11_needs_147 at h
  refine V.iast dX11_needs_147 rfl h (fun M1 h => ?_)
  refine V.aload_n (n := 0) dX11_needs_148 rfl rfl ?_
  refine V.getR dX11_needs_149 lkX11_118 rfl rfl h (fun x2 h => ?_)
  refine V.iload_n (n := 1) dX11_needs_152 rfl rfl ?_
  refine V.iload_n (n := 2) dX11_needs_153 rfl rfl ?_
  refine V.iast dX11_needs_154 rfl h (fun M3 h => ?_)
  refine V.iload_n (n := 2) dX11_needs_155 rfl rfl ?_
  exact V.iret dX11_needs_156 rfl h
def J_X11_needs_133 (rF : Option Nat → Int32 → Mem → Option (Int32 × Mem)) (v0 : Option Nat) (v1 : Int32) (v2 : Int32) (M : Mem) : Option (Int32 × Mem) :=
  (fR M 11 54 v0).bind fun x4 =>
  if ¬ v2 = 0 then
  (J_X11_needs_147 rF v0 v1 v2 x4 v1 (3 : Int32) M)
  else
  (J_X11_needs_147 rF v0 v1 v2 x4 v1 (2 : Int32) M)
set_option maxRecDepth 20000 in
set_option maxHeartbeats 4000000 in
theorem lab_X11_needs_133 {G : Gt} {M0 M9 : Mem} {x9 : Int32} {dr : Nat} {rF : Option Nat → Int32 → Mem → Option (Int32 × Mem)} (hrF : ∀ (a0 : Option Nat) (a1 : Int32) (Ma : Mem) (v : Int32 × Mem), rF a0 a1 Ma = some v → Mt G mX11_needs dr [vR a0, vI a1] Ma (some (vI v.1)) v.2) {v0 : Option Nat} {v1 : Int32} {v2 : Int32} {M : Mem} (h : J_X11_needs_133 rF v0 v1 v2 M = some (x9, M9)) : V G mX11_needs (dr + 6) M0 (some (vI x9)) M9 M 133 [(0, vR v0), (1, vI v1), (2, vI v2)] [] := by
  unfold J_X11_needs_133 at h
  refine V.aload_n (n := 0) dX11_needs_133 rfl rfl ?_
  refine V.getR dX11_needs_134 lkX11_112 rfl rfl h (fun x4 h => ?_)
  refine V.iload_n (n := 1) dX11_needs_137 rfl rfl ?_
  refine V.iload_n (n := 2) dX11_needs_138 rfl rfl ?_
  refine V.if_ne (q := 146) dX11_needs_139 (by decide) rfl h (fun h => ?_) (fun h => ?_)
  · refine V.iconst (x := 3) dX11_needs_146 (by decide) rfl ?_
    exact (lab_X11_needs_147 hrF h)
  · refine V.iconst (x := 2) dX11_needs_142 (by decide) rfl ?_
    refine V.goto (q := 147) dX11_needs_143 (by decide) ?_
    exact (lab_X11_needs_147 hrF h)
def J_X11_needs_122 (rF : Option Nat → Int32 → Mem → Option (Int32 × Mem)) (v0 : Option Nat) (v1 : Int32) (s0 : Int32) (M : Mem) : Option (Int32 × Mem) :=
  if ¬ s0 = 0 then
  (J_X11_needs_133 rF v0 v1 s0 M)
  else
  ((ck M 11 v0).bind fun _ => (L_X11_does rF v0 v1 M).bind fun w5 =>
  J_X11_needs_133 rF v0 v1 w5.1 w5.2)
set_option maxRecDepth 20000 in
set_option maxHeartbeats 4000000 in
theorem lab_X11_needs_122 {G : Gt} {M0 M9 : Mem} {x9 : Int32} {dr : Nat} {rF : Option Nat → Int32 → Mem → Option (Int32 × Mem)} (hrF : ∀ (a0 : Option Nat) (a1 : Int32) (Ma : Mem) (v : Int32 × Mem), rF a0 a1 Ma = some v → Mt G mX11_needs dr [vR a0, vI a1] Ma (some (vI v.1)) v.2) {v0 : Option Nat} {v1 : Int32} {s0 : Int32} {M : Mem} (h : J_X11_needs_122 rF v0 v1 s0 M = some (x9, M9)) : V G mX11_needs (dr + 6) M0 (some (vI x9)) M9 M 122 [(0, vR v0), (1, vI v1)] [vI s0] := by
  unfold J_X11_needs_122 at h
  refine V.istore_n dX11_needs_122 rfl (by decide) rfl rfl ?_
  refine V.iload_n (n := 0) dX11_needs_123 rfl rfl ?_
  refine V.if_ne (q := 133) dX11_needs_124 (by decide) rfl h (fun h => ?_) (fun h => ?_)
  · exact V.sub [1, 2, 0] rfl (lab_X11_needs_133 hrF h)
  · refine V.aload_n (n := 1) dX11_needs_127 rfl rfl ?_
    refine V.iload_n (n := 2) dX11_needs_128 rfl rfl ?_
    refine V.callVi (d' := dr + 5) (as := [vI v1]) (st := []) dX11_needs_129 meX11_does mlX11_407 imX11_does seX11_does clsX11 rfl (by omega) (Nat.le_of_ble_eq_true rfl) rfl rfl h (fun v hv => lift_X11_does hrF hv) (fun w5 h => ?_)
    refine V.istore_n dX11_needs_132 rfl (by decide) rfl rfl ?_
    exact V.sub [1, 2, 0] rfl (lab_X11_needs_133 hrF h)
def J_X11_needs_83 (rF : Option Nat → Int32 → Mem → Option (Int32 × Mem)) (v0 : Option Nat) (v1 : Int32) (M : Mem) : Option (Int32 × Mem) :=
  (fI M 11 66 v0).bind fun x6 =>
  (pI M 11 66 v0 (x6 + (1 : Int32))).bind fun M7 =>
  (fR M7 11 37 v0).bind fun x8 =>
  (aI M7 20 x8 ((30 : Int32) + v1)).bind fun x9 =>
  if x9 < 0 then
  (J_X11_needs_122 rF v0 v1 (0 : Int32) M7)
  else
  ((fR M7 11 37 v0).bind fun x10 =>
  (aI M7 20 x10 ((30 : Int32) + v1)).bind fun x11 =>
  (ck M7 11 v0).bind fun _ => (rF v0 x11 M7).bind fun w12 =>
  J_X11_needs_122 rF v0 v1 w12.1 w12.2)
set_option maxRecDepth 20000 in
set_option maxHeartbeats 4000000 in
theorem lab_X11_needs_83 {G : Gt} {M0 M9 : Mem} {x9 : Int32} {dr : Nat} {rF : Option Nat → Int32 → Mem → Option (Int32 × Mem)} (hrF : ∀ (a0 : Option Nat) (a1 : Int32) (Ma : Mem) (v : Int32 × Mem), rF a0 a1 Ma = some v → Mt G mX11_needs dr [vR a0, vI a1] Ma (some (vI v.1)) v.2) {v0 : Option Nat} {v1 : Int32} {M : Mem} (h : J_X11_needs_83 rF v0 v1 M = some (x9, M9)) : V G mX11_needs (dr + 6) M0 (some (vI x9)) M9 M 83 [(0, vR v0), (1, vI v1)] [] := by
  unfold J_X11_needs_83 at h
  refine V.aload_n (n := 0) dX11_needs_83 rfl rfl ?_
  refine V.dup dX11_needs_84 rfl rfl ?_
  refine V.getI dX11_needs_85 lkX11_401 rfl rfl h (fun x6 h => ?_)
  refine V.iconst (x := 1) dX11_needs_88 (by decide) rfl ?_
  refine V.iadd dX11_needs_89 rfl ?_
  refine V.putI dX11_needs_90 lkX11_401 (Or.inl rfl) rfl rfl h (fun M7 h => ?_)
  refine V.aload_n (n := 0) dX11_needs_93 rfl rfl ?_
  refine V.getR dX11_needs_94 lkX11_60 rfl rfl h (fun x8 h => ?_)
  refine V.bipush (x := 30) dX11_needs_97 (by decide) rfl ?_
  refine V.iload_n (n := 1) dX11_needs_99 rfl rfl ?_
  refine V.iadd dX11_needs_100 rfl ?_
  refine V.iald dX11_needs_101 rfl h (fun x9 h => ?_)
  refine V.if_lt (q := 121) dX11_needs_102 (by decide) rfl h (fun h => ?_) (fun h => ?_)
  · refine V.iconst (x := 0) dX11_needs_121 (by decide) rfl ?_
    exact (lab_X11_needs_122 hrF h)
  · refine V.aload_n (n := 0) dX11_needs_105 rfl rfl ?_
    refine V.aload_n (n := 0) dX11_needs_106 rfl rfl ?_
    refine V.getR dX11_needs_107 lkX11_60 rfl rfl h (fun x10 h => ?_)
    refine V.bipush (x := 30) dX11_needs_110 (by decide) rfl ?_
    refine V.iload_n (n := 1) dX11_needs_112 rfl rfl ?_
    refine V.iadd dX11_needs_113 rfl ?_
    refine V.iald dX11_needs_114 rfl h (fun x11 h => ?_)
    refine V.callVi (d' := dr) (as := [vI x11]) (st := []) dX11_needs_115 meX11_needs mlX11_404 imX11_needs seX11_needs clsX11 rfl (by omega) (Nat.le_of_ble_eq_true rfl) rfl rfl h (fun v hv => hrF _ _ _ v hv) (fun w12 h => ?_)
    refine V.goto (q := 122) dX11_needs_118 (by decide) ?_
    exact (lab_X11_needs_122 hrF h)
def B_X11_needs (rF : Option Nat → Int32 → Mem → Option (Int32 × Mem)) (v0 : Option Nat) (v1 : Int32) (M : Mem) : Option (Int32 × Mem) :=
  (fR M 11 36 v0).bind fun x13 =>
  (aI M 24 x13 ((30 : Int32) + v1)).bind fun x14 =>
  if ¬ x14 = 0 then
  ((fR M 11 54 v0).bind fun x15 =>
  (aI M 20 x15 v1).bind fun x16 =>
  if x16 = (2 : Int32) then
  (some ((0 : Int32), M))
  else
  ((fR M 11 54 v0).bind fun x17 =>
  (aI M 20 x17 v1).bind fun x18 =>
  if ¬ x18 = (4 : Int32) then
  ((fR M 11 54 v0).bind fun x19 =>
  (aI M 20 x19 v1).bind fun x20 =>
  if ¬ x20 = (3 : Int32) then
  ((fR M 11 54 v0).bind fun x21 =>
  (uI M 20 x21 v1 (4 : Int32)).bind fun M22 =>
  (fI M22 11 66 v0).bind fun x23 =>
  if (300 : Int32) ≤ x23 then
  (J_X11_needs_83 rF v0 v1 M22)
  else
  ((fR M22 11 65 v0).bind fun x24 =>
  (fI M22 11 66 v0).bind fun x25 =>
  (uI M22 20 x24 x25 ((1700 : Int32) + v1)).bind fun M26 =>
  J_X11_needs_83 rF v0 v1 M26))
  else
  (some ((804 : Int32), M)))
  else
  (some ((0 : Int32), M))))
  else
  (some ((803 : Int32), M))
set_option maxRecDepth 20000 in
set_option maxHeartbeats 4000000 in
theorem liftB_X11_needs {G : Gt} {M M9 : Mem} {x9 : Int32} {v0 : Option Nat} {v1 : Int32} {dr : Nat} {rF : Option Nat → Int32 → Mem → Option (Int32 × Mem)} (hrF : ∀ (a0 : Option Nat) (a1 : Int32) (Ma : Mem) (v : Int32 × Mem), rF a0 a1 Ma = some v → Mt G mX11_needs dr [vR a0, vI a1] Ma (some (vI v.1)) v.2) (h : B_X11_needs rF v0 v1 M = some (x9, M9)) : Mt G mX11_needs (dr + 6) [vR v0, vI v1] M (some (vI x9)) M9 := by
  unfold B_X11_needs at h
  refine Mt.of (by decide +kernel) (Nat.le_of_ble_eq_true rfl) ?_
  have hh : V G mX11_needs (dr + 6) M (some (vI x9)) M9 M 0 [(0, vR v0), (1, vI v1)] [] := by
    refine V.aload_n (n := 0) dX11_needs_0 rfl rfl ?_
    refine V.getR dX11_needs_1 lkX11_56 rfl rfl h (fun x13 h => ?_)
    refine V.bipush (x := 30) dX11_needs_4 (by decide) rfl ?_
    refine V.iload_n (n := 1) dX11_needs_6 rfl rfl ?_
    refine V.iadd dX11_needs_7 rfl ?_
    refine V.zald dX11_needs_8 rfl h (fun x14 h => ?_)
    refine V.if_ne (q := 16) dX11_needs_9 (by decide) rfl h (fun h => ?_) (fun h => ?_)
    · refine V.aload_n (n := 0) dX11_needs_16 rfl rfl ?_
      refine V.getR dX11_needs_17 lkX11_112 rfl rfl h (fun x15 h => ?_)
      refine V.iload_n (n := 1) dX11_needs_20 rfl rfl ?_
      refine V.iald dX11_needs_21 rfl h (fun x16 h => ?_)
      refine V.iconst (x := 2) dX11_needs_22 (by decide) rfl ?_
      refine V.icmp_eq (q := 36) dX11_needs_23 (by decide) rfl h (fun h => ?_) (fun h => ?_)
      · refine V.iconst (x := 0) dX11_needs_36 (by decide) rfl ?_
        exact V.iret dX11_needs_37 rfl h
      · refine V.aload_n (n := 0) dX11_needs_26 rfl rfl ?_
        refine V.getR dX11_needs_27 lkX11_112 rfl rfl h (fun x17 h => ?_)
        refine V.iload_n (n := 1) dX11_needs_30 rfl rfl ?_
        refine V.iald dX11_needs_31 rfl h (fun x18 h => ?_)
        refine V.iconst (x := 4) dX11_needs_32 (by decide) rfl ?_
        refine V.icmp_ne (q := 38) dX11_needs_33 (by decide) rfl h (fun h => ?_) (fun h => ?_)
        · refine V.aload_n (n := 0) dX11_needs_38 rfl rfl ?_
          refine V.getR dX11_needs_39 lkX11_112 rfl rfl h (fun x19 h => ?_)
          refine V.iload_n (n := 1) dX11_needs_42 rfl rfl ?_
          refine V.iald dX11_needs_43 rfl h (fun x20 h => ?_)
          refine V.iconst (x := 3) dX11_needs_44 (by decide) rfl ?_
          refine V.icmp_ne (q := 52) dX11_needs_45 (by decide) rfl h (fun h => ?_) (fun h => ?_)
          · refine V.aload_n (n := 0) dX11_needs_52 rfl rfl ?_
            refine V.getR dX11_needs_53 lkX11_112 rfl rfl h (fun x21 h => ?_)
            refine V.iload_n (n := 1) dX11_needs_56 rfl rfl ?_
            refine V.iconst (x := 4) dX11_needs_57 (by decide) rfl ?_
            refine V.iast dX11_needs_58 rfl h (fun M22 h => ?_)
            refine V.aload_n (n := 0) dX11_needs_59 rfl rfl ?_
            refine V.getI dX11_needs_60 lkX11_401 rfl rfl h (fun x23 h => ?_)
            refine V.sipush (x := 300) dX11_needs_63 (by decide) rfl ?_
            refine V.icmp_ge (q := 83) dX11_needs_66 (by decide) rfl h (fun h => ?_) (fun h => ?_)
            · exact (lab_X11_needs_83 hrF h)
            · refine V.aload_n (n := 0) dX11_needs_69 rfl rfl ?_
              refine V.getR dX11_needs_70 lkX11_139 rfl rfl h (fun x24 h => ?_)
              refine V.aload_n (n := 0) dX11_needs_73 rfl rfl ?_
              refine V.getI dX11_needs_74 lkX11_401 rfl rfl h (fun x25 h => ?_)
              refine V.sipush (x := 1700) dX11_needs_77 (by decide) rfl ?_
              refine V.iload_n (n := 1) dX11_needs_80 rfl rfl ?_
              refine V.iadd dX11_needs_81 rfl ?_
              refine V.iast dX11_needs_82 rfl h (fun M26 h => ?_)
              exact (lab_X11_needs_83 hrF h)
          · refine V.sipush (x := 804) dX11_needs_48 (by decide) rfl ?_
            exact V.iret dX11_needs_51 rfl h
        · refine V.iconst (x := 0) dX11_needs_36 (by decide) rfl ?_
          exact V.iret dX11_needs_37 rfl h
    · refine V.sipush (x := 803) dX11_needs_12 (by decide) rfl ?_
      exact V.iret dX11_needs_15 rfl h
  exact hh
def L_X11_needs : Nat → Option Nat → Int32 → Mem → Option (Int32 × Mem)
  | 0 => fun _ _ _ => none
  | n + 1 => B_X11_needs (L_X11_needs n)
theorem lift_X11_needs {G : Gt} : ∀ (n : Nat) {M M9 : Mem} {x9 : Int32} {v0 : Option Nat} {v1 : Int32} (h : L_X11_needs n v0 v1 M = some (x9, M9)), Mt G mX11_needs (6 * n) [vR v0, vI v1] M (some (vI x9)) M9
  | 0 => fun h => nomatch h
  | n + 1 => fun h => liftB_X11_needs (dr := 6 * n) (rF := L_X11_needs n) (fun _ _ _ _ hv => lift_X11_needs n hv) h
def L_X11_need (v0 : Option Nat) (v1 : Int32) (M : Mem) : Option (Int32 × Mem) :=
  (L_X11_isYear v1 M).bind fun w1 =>
  if w1.1 = 0 then
  (some ((-1 : Int32), w1.2))
  else
  ((ck w1.2 11 v0).bind fun _ => (L_X11_needs 32 v0 (v1 - (1700 : Int32)) w1.2).bind fun w2 =>
  some (w2.1, w2.2))
set_option maxRecDepth 20000 in
set_option maxHeartbeats 4000000 in
theorem lift_X11_need {G : Gt} {M M9 : Mem} {x9 : Int32} {v0 : Option Nat} {v1 : Int32} (h : L_X11_need v0 v1 M = some (x9, M9)) : Mt G mX11_need 193 [vR v0, vI v1] M (some (vI x9)) M9 := by
  unfold L_X11_need at h
  refine Mt.of (by decide +kernel) (Nat.le_of_ble_eq_true rfl) ?_
  have hh : V G mX11_need 193 M (some (vI x9)) M9 M 0 [(0, vR v0), (1, vI v1)] [] := by
    refine V.iload_n (n := 1) dX11_need_0 rfl rfl ?_
    refine V.callSi (d' := 0) (as := [vI v1]) (st := []) dX11_need_1 meX11_isYear mlX11_360 smX11_isYear rfl (by omega) (Nat.le_of_ble_eq_true rfl) rfl rfl h (fun v hv => lift_X11_isYear hv) (fun w1 h => ?_)
    refine V.if_eq (q := 19) dX11_need_4 (by decide) rfl h (fun h => ?_) (fun h => ?_)
    · refine V.iconst (x := (-1)) dX11_need_19 (by decide) rfl ?_
      exact V.iret dX11_need_20 rfl h
    · refine V.aload_n (n := 0) dX11_need_7 rfl rfl ?_
      refine V.iload_n (n := 1) dX11_need_8 rfl rfl ?_
      refine V.sipush (x := 1700) dX11_need_9 (by decide) rfl ?_
      refine V.isub dX11_need_12 rfl ?_
      refine V.callVi (d' := 6 * 32) (as := [vI (v1 - (1700 : Int32))]) (st := []) dX11_need_13 meX11_needs mlX11_404 imX11_needs seX11_needs clsX11 rfl (by omega) (Nat.le_of_ble_eq_true rfl) rfl rfl h (fun v hv => lift_X11_needs 32 hv) (fun w2 h => ?_)
      refine V.goto (q := 20) dX11_need_16 (by decide) ?_
      exact V.iret dX11_need_20 rfl h
  exact hh
def J_X11_started_21 (v0 : Option Nat) (v1 : Int32) (s0 : Int32) (s1 : Int32) (M : Mem) : Option (Int32 × Mem) :=
  (L_X11_isIn s0 s1 M).bind fun w1 =>
  if w1.1 = 0 then
  (some ((-1 : Int32), w1.2))
  else
  ((fR w1.2 11 65 v0).bind fun x2 =>
  (aI w1.2 20 x2 v1).bind fun x3 =>
  some (x3, w1.2))
set_option maxRecDepth 20000 in
set_option maxHeartbeats 4000000 in
theorem lab_X11_started_21 {G : Gt} {M0 M9 : Mem} {x9 : Int32} {v0 : Option Nat} {v1 : Int32} {s0 : Int32} {s1 : Int32} {M : Mem} (h : J_X11_started_21 v0 v1 s0 s1 M = some (x9, M9)) : V G mX11_started 1 M0 (some (vI x9)) M9 M 21 [(0, vR v0), (1, vI v1)] [vI s1, vI s0] := by
  unfold J_X11_started_21 at h
  refine V.callSi (d' := 0) (as := [vI s0, vI s1]) (st := []) dX11_started_21 meX11_isIn mlX11_392 smX11_isIn rfl (by omega) (Nat.le_of_ble_eq_true rfl) rfl rfl h (fun v hv => lift_X11_isIn hv) (fun w1 h => ?_)
  refine V.if_eq (q := 36) dX11_started_24 (by decide) rfl h (fun h => ?_) (fun h => ?_)
  · refine V.iconst (x := (-1)) dX11_started_36 (by decide) rfl ?_
    exact V.iret dX11_started_37 rfl h
  · refine V.aload_n (n := 0) dX11_started_27 rfl rfl ?_
    refine V.getR dX11_started_28 lkX11_139 rfl rfl h (fun x2 h => ?_)
    refine V.iload_n (n := 1) dX11_started_31 rfl rfl ?_
    refine V.iald dX11_started_32 rfl h (fun x3 h => ?_)
    refine V.goto (q := 37) dX11_started_33 (by decide) ?_
    exact V.iret dX11_started_37 rfl h
def L_X11_started (v0 : Option Nat) (v1 : Int32) (M : Mem) : Option (Int32 × Mem) :=
  (fI M 11 66 v0).bind fun x4 =>
  if (300 : Int32) ≤ x4 then
  (J_X11_started_21 v0 v1 v1 (300 : Int32) M)
  else
  ((fI M 11 66 v0).bind fun x5 =>
  J_X11_started_21 v0 v1 v1 x5 M)
set_option maxRecDepth 20000 in
set_option maxHeartbeats 4000000 in
theorem lift_X11_started {G : Gt} {M M9 : Mem} {x9 : Int32} {v0 : Option Nat} {v1 : Int32} (h : L_X11_started v0 v1 M = some (x9, M9)) : Mt G mX11_started 1 [vR v0, vI v1] M (some (vI x9)) M9 := by
  unfold L_X11_started at h
  refine Mt.of (by decide +kernel) (Nat.le_of_ble_eq_true rfl) ?_
  have hh : V G mX11_started 1 M (some (vI x9)) M9 M 0 [(0, vR v0), (1, vI v1)] [] := by
    refine V.iload_n (n := 1) dX11_started_0 rfl rfl ?_
    refine V.aload_n (n := 0) dX11_started_1 rfl rfl ?_
    refine V.getI dX11_started_2 lkX11_401 rfl rfl h (fun x4 h => ?_)
    refine V.sipush (x := 300) dX11_started_5 (by decide) rfl ?_
    refine V.icmp_ge (q := 18) dX11_started_8 (by decide) rfl h (fun h => ?_) (fun h => ?_)
    · refine V.sipush (x := 300) dX11_started_18 (by decide) rfl ?_
      exact (lab_X11_started_21 h)
    · refine V.aload_n (n := 0) dX11_started_11 rfl rfl ?_
      refine V.getI dX11_started_12 lkX11_401 rfl rfl h (fun x5 h => ?_)
      refine V.goto (q := 21) dX11_started_15 (by decide) ?_
      exact (lab_X11_started_21 h)
  exact hh
def L_X11_voyage (v0 : Option Nat) (v1 : Int32) (v2 : Int32) (M : Mem) : Option (Int32 × Mem) :=
  (fI M 11 73 v0).bind fun x1 =>
  if x1 = (20 : Int32) then
  (some ((-1 : Int32), M))
  else
  ((L_X11_isIn v1 (100001 : Int32) M).bind fun w2 =>
  if w2.1 = 0 then
  (some ((-1 : Int32), w2.2))
  else
  ((L_X11_isIn v2 (10 : Int32) w2.2).bind fun w3 =>
  if ¬ w3.1 = 0 then
  ((fR w3.2 11 74 v0).bind fun x4 =>
  (fI w3.2 11 73 v0).bind fun x5 =>
  (uI w3.2 20 x4 x5 v1).bind fun M6 =>
  (fR M6 11 75 v0).bind fun x7 =>
  (fI M6 11 73 v0).bind fun x8 =>
  (uI M6 20 x7 x8 v2).bind fun M9 =>
  (fR M9 11 80 v0).bind fun x10 =>
  (fI M9 11 73 v0).bind fun x11 =>
  (uI M9 20 x10 x11 (-1 : Int32)).bind fun M12 =>
  (fI M12 11 73 v0).bind fun x13 =>
  (pI M12 11 73 v0 (x13 + (1 : Int32))).bind fun M14 =>
  (fI M14 11 73 v0).bind fun x15 =>
  some (x15 - (1 : Int32), M14))
  else
  (some ((-1 : Int32), w3.2))))
set_option maxRecDepth 20000 in
set_option maxHeartbeats 4000000 in
theorem lift_X11_voyage {G : Gt} {M M9 : Mem} {x9 : Int32} {v0 : Option Nat} {v1 : Int32} {v2 : Int32} (h : L_X11_voyage v0 v1 v2 M = some (x9, M9)) : Mt G mX11_voyage 1 [vR v0, vI v1, vI v2] M (some (vI x9)) M9 := by
  unfold L_X11_voyage at h
  refine Mt.of (by decide +kernel) (Nat.le_of_ble_eq_true rfl) ?_
  have hh : V G mX11_voyage 1 M (some (vI x9)) M9 M 0 [(0, vR v0), (1, vI v1), (2, vI v2)] [] := by
    refine V.aload_n (n := 0) dX11_voyage_0 rfl rfl ?_
    refine V.getI dX11_voyage_1 lkX11_449 rfl rfl h (fun x1 h => ?_)
    refine V.bipush (x := 20) dX11_voyage_4 (by decide) rfl ?_
    refine V.icmp_eq (q := 28) dX11_voyage_6 (by decide) rfl h (fun h => ?_) (fun h => ?_)
    · refine V.iconst (x := (-1)) dX11_voyage_28 (by decide) rfl ?_
      exact V.iret dX11_voyage_29 rfl h
    · refine V.iload_n (n := 1) dX11_voyage_9 rfl rfl ?_
      refine V.ldc_w (x := (100001)) dX11_voyage_10 ciX11_452 rfl ?_
      refine V.callSi (d' := 0) (as := [vI v1, vI (100001 : Int32)]) (st := []) dX11_voyage_13 meX11_isIn mlX11_392 smX11_isIn rfl (by omega) (Nat.le_of_ble_eq_true rfl) rfl rfl h (fun v hv => lift_X11_isIn hv) (fun w2 h => ?_)
      refine V.if_eq (q := 28) dX11_voyage_16 (by decide) rfl h (fun h => ?_) (fun h => ?_)
      · refine V.iconst (x := (-1)) dX11_voyage_28 (by decide) rfl ?_
        exact V.iret dX11_voyage_29 rfl h
      · refine V.iload_n (n := 2) dX11_voyage_19 rfl rfl ?_
        refine V.bipush (x := 10) dX11_voyage_20 (by decide) rfl ?_
        refine V.callSi (d' := 0) (as := [vI v2, vI (10 : Int32)]) (st := []) dX11_voyage_22 meX11_isIn mlX11_392 smX11_isIn rfl (by omega) (Nat.le_of_ble_eq_true rfl) rfl rfl h (fun v hv => lift_X11_isIn hv) (fun w3 h => ?_)
        refine V.if_ne (q := 30) dX11_voyage_25 (by decide) rfl h (fun h => ?_) (fun h => ?_)
        · refine V.aload_n (n := 0) dX11_voyage_30 rfl rfl ?_
          refine V.getR dX11_voyage_31 lkX11_145 rfl rfl h (fun x4 h => ?_)
          refine V.aload_n (n := 0) dX11_voyage_34 rfl rfl ?_
          refine V.getI dX11_voyage_35 lkX11_449 rfl rfl h (fun x5 h => ?_)
          refine V.iload_n (n := 1) dX11_voyage_38 rfl rfl ?_
          refine V.iast dX11_voyage_39 rfl h (fun M6 h => ?_)
          refine V.aload_n (n := 0) dX11_voyage_40 rfl rfl ?_
          refine V.getR dX11_voyage_41 lkX11_148 rfl rfl h (fun x7 h => ?_)
          refine V.aload_n (n := 0) dX11_voyage_44 rfl rfl ?_
          refine V.getI dX11_voyage_45 lkX11_449 rfl rfl h (fun x8 h => ?_)
          refine V.iload_n (n := 2) dX11_voyage_48 rfl rfl ?_
          refine V.iast dX11_voyage_49 rfl h (fun M9 h => ?_)
          refine V.aload_n (n := 0) dX11_voyage_50 rfl rfl ?_
          refine V.getR dX11_voyage_51 lkX11_163 rfl rfl h (fun x10 h => ?_)
          refine V.aload_n (n := 0) dX11_voyage_54 rfl rfl ?_
          refine V.getI dX11_voyage_55 lkX11_449 rfl rfl h (fun x11 h => ?_)
          refine V.iconst (x := (-1)) dX11_voyage_58 (by decide) rfl ?_
          refine V.iast dX11_voyage_59 rfl h (fun M12 h => ?_)
          refine V.aload_n (n := 0) dX11_voyage_60 rfl rfl ?_
          refine V.dup dX11_voyage_61 rfl rfl ?_
          refine V.getI dX11_voyage_62 lkX11_449 rfl rfl h (fun x13 h => ?_)
          refine V.iconst (x := 1) dX11_voyage_65 (by decide) rfl ?_
          refine V.iadd dX11_voyage_66 rfl ?_
          refine V.putI dX11_voyage_67 lkX11_449 (Or.inl rfl) rfl rfl h (fun M14 h => ?_)
          refine V.aload_n (n := 0) dX11_voyage_70 rfl rfl ?_
          refine V.getI dX11_voyage_71 lkX11_449 rfl rfl h (fun x15 h => ?_)
          refine V.iconst (x := 1) dX11_voyage_74 (by decide) rfl ?_
          refine V.isub dX11_voyage_75 rfl ?_
          exact V.iret dX11_voyage_76 rfl h
        · refine V.iconst (x := (-1)) dX11_voyage_28 (by decide) rfl ?_
          exact V.iret dX11_voyage_29 rfl h
  exact hh
def L_X11_lock (v0 : Option Nat) (v1 : Int32) (v2 : Int32) (v3 : Int32) (v4 : Int32) (M : Mem) : Option (Int32 × Mem) :=
  (fI M 11 73 v0).bind fun x1 =>
  (L_X11_isIn v1 x1 M).bind fun w2 =>
  if w2.1 = 0 then
  (some ((-1 : Int32), w2.2))
  else
  ((fR w2.2 11 76 v0).bind fun x3 =>
  (aI w2.2 20 x3 v1).bind fun x4 =>
  if x4 = (8 : Int32) then
  (some ((-1 : Int32), w2.2))
  else
  ((L_X11_isIn v2 (100 : Int32) w2.2).bind fun w5 =>
  if w5.1 = 0 then
  (some ((-1 : Int32), w5.2))
  else
  ((L_X11_isYear v3 w5.2).bind fun w6 =>
  if w6.1 = 0 then
  (some ((-1 : Int32), w6.2))
  else
  (if v4 < (1 : Int32) then
  (some ((-1 : Int32), w6.2))
  else
  (if v4 ≤ (366 : Int32) then
  ((fR w6.2 11 76 v0).bind fun x7 =>
  (aI w6.2 20 x7 v1).bind fun x8 =>
  (fR w6.2 11 77 v0).bind fun x9 =>
  (uI w6.2 20 x9 (((8 : Int32) * v1) + x8) v2).bind fun M10 =>
  (fR M10 11 78 v0).bind fun x11 =>
  (uI M10 20 x11 (((8 : Int32) * v1) + x8) (v3 - (1700 : Int32))).bind fun M12 =>
  (fR M12 11 79 v0).bind fun x13 =>
  (uI M12 20 x13 (((8 : Int32) * v1) + x8) v4).bind fun M14 =>
  (fR M14 11 76 v0).bind fun x15 =>
  (aI M14 20 x15 v1).bind fun x16 =>
  (uI M14 20 x15 v1 (x16 + (1 : Int32))).bind fun M17 =>
  (fR M17 11 76 v0).bind fun x18 =>
  (aI M17 20 x18 v1).bind fun x19 =>
  some (x19, M17))
  else
  (some ((-1 : Int32), w6.2)))))))
set_option maxRecDepth 20000 in
set_option maxHeartbeats 4000000 in
theorem lift_X11_lock {G : Gt} {M M9 : Mem} {x9 : Int32} {v0 : Option Nat} {v1 : Int32} {v2 : Int32} {v3 : Int32} {v4 : Int32} (h : L_X11_lock v0 v1 v2 v3 v4 M = some (x9, M9)) : Mt G mX11_lock 1 [vR v0, vI v1, vI v2, vI v3, vI v4] M (some (vI x9)) M9 := by
  unfold L_X11_lock at h
  refine Mt.of (by decide +kernel) (Nat.le_of_ble_eq_true rfl) ?_
  have hh : V G mX11_lock 1 M (some (vI x9)) M9 M 0 [(0, vR v0), (1, vI v1), (2, vI v2), (3, vI v3), (4, vI v4)] [] := by
    refine V.iload_n (n := 1) dX11_lock_0 rfl rfl ?_
    refine V.aload_n (n := 0) dX11_lock_1 rfl rfl ?_
    refine V.getI dX11_lock_2 lkX11_449 rfl rfl h (fun x1 h => ?_)
    refine V.callSi (d' := 0) (as := [vI v1, vI x1]) (st := []) dX11_lock_5 meX11_isIn mlX11_392 smX11_isIn rfl (by omega) (Nat.le_of_ble_eq_true rfl) rfl rfl h (fun v hv => lift_X11_isIn hv) (fun w2 h => ?_)
    refine V.if_eq (q := 52) dX11_lock_8 (by decide) rfl h (fun h => ?_) (fun h => ?_)
    · refine V.iconst (x := (-1)) dX11_lock_52 (by decide) rfl ?_
      exact V.iret dX11_lock_53 rfl h
    · refine V.aload_n (n := 0) dX11_lock_11 rfl rfl ?_
      refine V.getR dX11_lock_12 lkX11_151 rfl rfl h (fun x3 h => ?_)
      refine V.iload_n (n := 1) dX11_lock_15 rfl rfl ?_
      refine V.iald dX11_lock_16 rfl h (fun x4 h => ?_)
      refine V.bipush (x := 8) dX11_lock_17 (by decide) rfl ?_
      refine V.icmp_eq (q := 52) dX11_lock_19 (by decide) rfl h (fun h => ?_) (fun h => ?_)
      · refine V.iconst (x := (-1)) dX11_lock_52 (by decide) rfl ?_
        exact V.iret dX11_lock_53 rfl h
      · refine V.iload_n (n := 2) dX11_lock_22 rfl rfl ?_
        refine V.bipush (x := 100) dX11_lock_23 (by decide) rfl ?_
        refine V.callSi (d' := 0) (as := [vI v2, vI (100 : Int32)]) (st := []) dX11_lock_25 meX11_isIn mlX11_392 smX11_isIn rfl (by omega) (Nat.le_of_ble_eq_true rfl) rfl rfl h (fun v hv => lift_X11_isIn hv) (fun w5 h => ?_)
        refine V.if_eq (q := 52) dX11_lock_28 (by decide) rfl h (fun h => ?_) (fun h => ?_)
        · refine V.iconst (x := (-1)) dX11_lock_52 (by decide) rfl ?_
          exact V.iret dX11_lock_53 rfl h
        · refine V.iload_n (n := 3) dX11_lock_31 rfl rfl ?_
          refine V.callSi (d' := 0) (as := [vI v3]) (st := []) dX11_lock_32 meX11_isYear mlX11_360 smX11_isYear rfl (by omega) (Nat.le_of_ble_eq_true rfl) rfl rfl h (fun v hv => lift_X11_isYear hv) (fun w6 h => ?_)
          refine V.if_eq (q := 52) dX11_lock_35 (by decide) rfl h (fun h => ?_) (fun h => ?_)
          · refine V.iconst (x := (-1)) dX11_lock_52 (by decide) rfl ?_
            exact V.iret dX11_lock_53 rfl h
          · refine V.iload (n := 4) dX11_lock_38 rfl rfl ?_
            refine V.iconst (x := 1) dX11_lock_40 (by decide) rfl ?_
            refine V.icmp_lt (q := 52) dX11_lock_41 (by decide) rfl h (fun h => ?_) (fun h => ?_)
            · refine V.iconst (x := (-1)) dX11_lock_52 (by decide) rfl ?_
              exact V.iret dX11_lock_53 rfl h
            · refine V.iload (n := 4) dX11_lock_44 rfl rfl ?_
              refine V.sipush (x := 366) dX11_lock_46 (by decide) rfl ?_
              refine V.icmp_le (q := 54) dX11_lock_49 (by decide) rfl h (fun h => ?_) (fun h => ?_)
              · refine V.bipush (x := 8) dX11_lock_54 (by decide) rfl ?_
                refine V.iload_n (n := 1) dX11_lock_56 rfl rfl ?_
                refine V.imul dX11_lock_57 rfl ?_
                refine V.aload_n (n := 0) dX11_lock_58 rfl rfl ?_
                refine V.getR dX11_lock_59 lkX11_151 rfl rfl h (fun x7 h => ?_)
                refine V.iload_n (n := 1) dX11_lock_62 rfl rfl ?_
                refine V.iald dX11_lock_63 rfl h (fun x8 h => ?_)
                refine V.iadd dX11_lock_64 rfl ?_
                refine V.istore dX11_lock_65 (by decide) rfl rfl ?_
                refine V.aload_n (n := 1) dX11_lock_67 rfl rfl ?_
                refine V.getR dX11_lock_68 lkX11_154 rfl rfl h (fun x9 h => ?_)
                refine V.iload (n := 0) dX11_lock_71 rfl rfl ?_
                refine V.iload_n (n := 3) dX11_lock_73 rfl rfl ?_
                refine V.iast dX11_lock_74 rfl h (fun M10 h => ?_)
                refine V.aload_n (n := 1) dX11_lock_75 rfl rfl ?_
                refine V.getR dX11_lock_76 lkX11_157 rfl rfl h (fun x11 h => ?_)
                refine V.iload (n := 0) dX11_lock_79 rfl rfl ?_
                refine V.iload_n (n := 4) dX11_lock_81 rfl rfl ?_
                refine V.sipush (x := 1700) dX11_lock_82 (by decide) rfl ?_
                refine V.isub dX11_lock_85 rfl ?_
                refine V.iast dX11_lock_86 rfl h (fun M12 h => ?_)
                refine V.aload_n (n := 1) dX11_lock_87 rfl rfl ?_
                refine V.getR dX11_lock_88 lkX11_160 rfl rfl h (fun x13 h => ?_)
                refine V.iload (n := 0) dX11_lock_91 rfl rfl ?_
                refine V.iload (n := 5) dX11_lock_93 rfl rfl ?_
                refine V.iast dX11_lock_95 rfl h (fun M14 h => ?_)
                refine V.aload_n (n := 1) dX11_lock_96 rfl rfl ?_
                refine V.getR dX11_lock_97 lkX11_151 rfl rfl h (fun x15 h => ?_)
                refine V.iload_n (n := 2) dX11_lock_100 rfl rfl ?_
                refine V.dup2 dX11_lock_101 rfl rfl rfl ?_
                refine V.iald dX11_lock_102 rfl h (fun x16 h => ?_)
                refine V.iconst (x := 1) dX11_lock_103 (by decide) rfl ?_
                refine V.iadd dX11_lock_104 rfl ?_
                refine V.iast dX11_lock_105 rfl h (fun M17 h => ?_)
                refine V.aload_n (n := 1) dX11_lock_106 rfl rfl ?_
                refine V.getR dX11_lock_107 lkX11_151 rfl rfl h (fun x18 h => ?_)
                refine V.iload_n (n := 2) dX11_lock_110 rfl rfl ?_
                refine V.iald dX11_lock_111 rfl h (fun x19 h => ?_)
                exact V.iret dX11_lock_112 rfl h
              · refine V.iconst (x := (-1)) dX11_lock_52 (by decide) rfl ?_
                exact V.iret dX11_lock_53 rfl h
  exact hh
def J_X11_lined_81 (v0 : Option Nat) (v1 : Int32) (v4 : Int32) (M : Mem) : Option (Int32 × Mem) :=
  if v4 < 0 then
  (some ((802 : Int32), M))
  else
  ((fR M 11 36 v0).bind fun x1 =>
  (aI M 24 x1 ((30 : Int32) + v4)).bind fun x2 =>
  if x2 = 0 then
  (some ((802 : Int32), M))
  else
  ((fR M 11 49 v0).bind fun x3 =>
  (aI M 20 x3 ((30 : Int32) + v4)).bind fun x4 =>
  if 0 ≤ x4 then
  ((fR M 11 77 v0).bind fun x5 =>
  (aI M 20 x5 v1).bind fun x6 =>
  (pI M 11 69 v0 x6).bind fun M7 =>
  (fR M7 11 79 v0).bind fun x8 =>
  (aI M7 20 x8 v1).bind fun x9 =>
  (pI M7 11 70 v0 x9).bind fun M10 =>
  (fR M10 11 49 v0).bind fun x11 =>
  (aI M10 20 x11 ((30 : Int32) + v4)).bind fun x12 =>
  (ck M10 11 v0).bind fun _ => (L_X11_works (L_X11_needs 32) v0 v4 x12 (0 : Int32) M10).bind fun w13 =>
  some (w13.1, w13.2))
  else
  (some ((802 : Int32), M))))
set_option maxRecDepth 20000 in
set_option maxHeartbeats 4000000 in
theorem lab_X11_lined_81 {G : Gt} {M0 M9 : Mem} {x9 : Int32} {v0 : Option Nat} {v1 : Int32} {v4 : Int32} {M : Mem} (h : J_X11_lined_81 v0 v1 v4 M = some (x9, M9)) : V G mX11_lined 196 M0 (some (vI x9)) M9 M 81 [(0, vR v0), (1, vI v1), (4, vI v4)] [] := by
  unfold J_X11_lined_81 at h
  refine V.iload (n := 2) dX11_lined_81 rfl rfl ?_
  refine V.if_lt (q := 112) dX11_lined_83 (by decide) rfl h (fun h => ?_) (fun h => ?_)
  · refine V.sipush (x := 802) dX11_lined_112 (by decide) rfl ?_
    exact V.iret dX11_lined_115 rfl h
  · refine V.aload_n (n := 0) dX11_lined_86 rfl rfl ?_
    refine V.getR dX11_lined_87 lkX11_56 rfl rfl h (fun x1 h => ?_)
    refine V.bipush (x := 30) dX11_lined_90 (by decide) rfl ?_
    refine V.iload (n := 2) dX11_lined_92 rfl rfl ?_
    refine V.iadd dX11_lined_94 rfl ?_
    refine V.zald dX11_lined_95 rfl h (fun x2 h => ?_)
    refine V.if_eq (q := 112) dX11_lined_96 (by decide) rfl h (fun h => ?_) (fun h => ?_)
    · refine V.sipush (x := 802) dX11_lined_112 (by decide) rfl ?_
      exact V.iret dX11_lined_115 rfl h
    · refine V.aload_n (n := 0) dX11_lined_99 rfl rfl ?_
      refine V.getR dX11_lined_100 lkX11_96 rfl rfl h (fun x3 h => ?_)
      refine V.bipush (x := 30) dX11_lined_103 (by decide) rfl ?_
      refine V.iload (n := 2) dX11_lined_105 rfl rfl ?_
      refine V.iadd dX11_lined_107 rfl ?_
      refine V.iald dX11_lined_108 rfl h (fun x4 h => ?_)
      refine V.if_ge (q := 116) dX11_lined_109 (by decide) rfl h (fun h => ?_) (fun h => ?_)
      · refine V.aload_n (n := 0) dX11_lined_116 rfl rfl ?_
        refine V.aload_n (n := 0) dX11_lined_117 rfl rfl ?_
        refine V.getR dX11_lined_118 lkX11_154 rfl rfl h (fun x5 h => ?_)
        refine V.iload_n (n := 1) dX11_lined_121 rfl rfl ?_
        refine V.iald dX11_lined_122 rfl h (fun x6 h => ?_)
        refine V.putI dX11_lined_123 lkX11_431 (Or.inl rfl) rfl rfl h (fun M7 h => ?_)
        refine V.aload_n (n := 0) dX11_lined_126 rfl rfl ?_
        refine V.aload_n (n := 0) dX11_lined_127 rfl rfl ?_
        refine V.getR dX11_lined_128 lkX11_160 rfl rfl h (fun x8 h => ?_)
        refine V.iload_n (n := 1) dX11_lined_131 rfl rfl ?_
        refine V.iald dX11_lined_132 rfl h (fun x9 h => ?_)
        refine V.putI dX11_lined_133 lkX11_434 (Or.inl rfl) rfl rfl h (fun M10 h => ?_)
        refine V.aload_n (n := 0) dX11_lined_136 rfl rfl ?_
        refine V.iload (n := 2) dX11_lined_137 rfl rfl ?_
        refine V.aload_n (n := 0) dX11_lined_139 rfl rfl ?_
        refine V.getR dX11_lined_140 lkX11_96 rfl rfl h (fun x11 h => ?_)
        refine V.bipush (x := 30) dX11_lined_143 (by decide) rfl ?_
        refine V.iload (n := 2) dX11_lined_145 rfl rfl ?_
        refine V.iadd dX11_lined_147 rfl ?_
        refine V.iald dX11_lined_148 rfl h (fun x12 h => ?_)
        refine V.iconst (x := 0) dX11_lined_149 (by decide) rfl ?_
        refine V.callVi (d' := 6 * 32 + 3) (as := [vI v4, vI x12, vI (0 : Int32)]) (st := []) dX11_lined_150 meX11_works mlX11_414 imX11_works seX11_works clsX11 rfl (by omega) (Nat.le_of_ble_eq_true rfl) rfl rfl h (fun v hv => lift_X11_works (dr := 6 * 32) (fun _ _ _ _ hv => lift_X11_needs 32 hv) hv) (fun w13 h => ?_)
        exact V.iret dX11_lined_153 rfl h
      · refine V.sipush (x := 802) dX11_lined_112 (by decide) rfl ?_
        exact V.iret dX11_lined_115 rfl h
def J_X11_lined_25 : Nat → Option Nat → Int32 → Int32 → Int32 → Mem → Option (Int32 × Mem)
  | 0 => fun _ _ _ _ _ => none
  | n + 1 => fun v0 v1 v4 v5 M =>
  if (30 : Int32) < v5 then
  (J_X11_lined_81 v0 v1 v4 M)
  else
  (if v4 < 0 then
  (J_X11_lined_81 v0 v1 v4 M)
  else
  ((fR M 11 36 v0).bind fun x14 =>
  (aI M 24 x14 ((30 : Int32) + v4)).bind fun x15 =>
  if x15 = 0 then
  (J_X11_lined_81 v0 v1 v4 M)
  else
  ((fR M 11 49 v0).bind fun x16 =>
  (aI M 20 x16 ((30 : Int32) + v4)).bind fun x17 =>
  if 0 ≤ x17 then
  (J_X11_lined_81 v0 v1 v4 M)
  else
  ((fR M 11 37 v0).bind fun x18 =>
  (aI M 20 x18 ((30 : Int32) + v4)).bind fun x19 =>
  J_X11_lined_25 n v0 v1 x19 (v5 + 1) M))))
set_option maxRecDepth 20000 in
set_option maxHeartbeats 4000000 in
theorem lab_X11_lined_25 {G : Gt} {M0 M9 : Mem} {x9 : Int32} : ∀ (n : Nat) (v0 : Option Nat) (v1 : Int32) (v4 : Int32) (v5 : Int32) (M : Mem), J_X11_lined_25 n v0 v1 v4 v5 M = some (x9, M9) → V G mX11_lined 196 M0 (some (vI x9)) M9 M 25 [(0, vR v0), (1, vI v1), (4, vI v4), (5, vI v5)] [] := by
  intro n
  induction n with
  | zero => intro v0 v1 v4 v5 M h; exact nomatch h
  | succ n ih =>
    intro v0 v1 v4 v5 M h
    unfold J_X11_lined_25 at h
    refine V.iload (n := 3) dX11_lined_25 rfl rfl ?_
    refine V.bipush (x := 30) dX11_lined_27 (by decide) rfl ?_
    refine V.icmp_gt (q := 81) dX11_lined_29 (by decide) rfl h (fun h => ?_) (fun h => ?_)
    · exact V.sub [0, 1, 2] rfl (lab_X11_lined_81 h)
    · refine V.iload (n := 2) dX11_lined_32 rfl rfl ?_
      refine V.if_lt (q := 81) dX11_lined_34 (by decide) rfl h (fun h => ?_) (fun h => ?_)
      · exact V.sub [0, 1, 2] rfl (lab_X11_lined_81 h)
      · refine V.aload_n (n := 0) dX11_lined_37 rfl rfl ?_
        refine V.getR dX11_lined_38 lkX11_56 rfl rfl h (fun x14 h => ?_)
        refine V.bipush (x := 30) dX11_lined_41 (by decide) rfl ?_
        refine V.iload (n := 2) dX11_lined_43 rfl rfl ?_
        refine V.iadd dX11_lined_45 rfl ?_
        refine V.zald dX11_lined_46 rfl h (fun x15 h => ?_)
        refine V.if_eq (q := 81) dX11_lined_47 (by decide) rfl h (fun h => ?_) (fun h => ?_)
        · exact V.sub [0, 1, 2] rfl (lab_X11_lined_81 h)
        · refine V.aload_n (n := 0) dX11_lined_50 rfl rfl ?_
          refine V.getR dX11_lined_51 lkX11_96 rfl rfl h (fun x16 h => ?_)
          refine V.bipush (x := 30) dX11_lined_54 (by decide) rfl ?_
          refine V.iload (n := 2) dX11_lined_56 rfl rfl ?_
          refine V.iadd dX11_lined_58 rfl ?_
          refine V.iald dX11_lined_59 rfl h (fun x17 h => ?_)
          refine V.if_ge (q := 81) dX11_lined_60 (by decide) rfl h (fun h => ?_) (fun h => ?_)
          · exact V.sub [0, 1, 2] rfl (lab_X11_lined_81 h)
          · refine V.aload_n (n := 0) dX11_lined_63 rfl rfl ?_
            refine V.getR dX11_lined_64 lkX11_60 rfl rfl h (fun x18 h => ?_)
            refine V.bipush (x := 30) dX11_lined_67 (by decide) rfl ?_
            refine V.iload (n := 2) dX11_lined_69 rfl rfl ?_
            refine V.iadd dX11_lined_71 rfl ?_
            refine V.iald dX11_lined_72 rfl h (fun x19 h => ?_)
            refine V.istore dX11_lined_73 (by decide) rfl rfl ?_
            refine V.iinc (n := 3) (x := v5 + 1) dX11_lined_75 rfl (by rfl) (by decide) rfl rfl ?_
            refine V.goto (q := 25) dX11_lined_78 (by decide) ?_
            exact V.sub [2, 3, 1, 0] rfl (ih _ _ _ _ _ h)
def L_X11_lined (v0 : Option Nat) (v1 : Int32) (M : Mem) : Option (Int32 × Mem) :=
  (fR M 11 78 v0).bind fun x20 =>
  (aI M 20 x20 v1).bind fun x21 =>
  (ck M 11 v0).bind fun _ => (L_X11_needs 32 v0 x21 M).bind fun w22 =>
  if w22.1 = 0 then
  (J_X11_lined_25 FU v0 v1 x21 (0 : Int32) w22.2)
  else
  (some (w22.1, w22.2))
set_option maxRecDepth 20000 in
set_option maxHeartbeats 4000000 in
theorem lift_X11_lined {G : Gt} {M M9 : Mem} {x9 : Int32} {v0 : Option Nat} {v1 : Int32} (h : L_X11_lined v0 v1 M = some (x9, M9)) : Mt G mX11_lined 196 [vR v0, vI v1] M (some (vI x9)) M9 := by
  unfold L_X11_lined at h
  refine Mt.of (by decide +kernel) (Nat.le_of_ble_eq_true rfl) ?_
  have hh : V G mX11_lined 196 M (some (vI x9)) M9 M 0 [(0, vR v0), (1, vI v1)] [] := by
    refine V.aload_n (n := 0) dX11_lined_0 rfl rfl ?_
    refine V.getR dX11_lined_1 lkX11_157 rfl rfl h (fun x20 h => ?_)
    refine V.iload_n (n := 1) dX11_lined_4 rfl rfl ?_
    refine V.iald dX11_lined_5 rfl h (fun x21 h => ?_)
    refine V.istore_n dX11_lined_6 rfl (by decide) rfl rfl ?_
    refine V.aload_n (n := 1) dX11_lined_7 rfl rfl ?_
    refine V.iload_n (n := 0) dX11_lined_8 rfl rfl ?_
    refine V.callVi (d' := 6 * 32) (as := [vI x21]) (st := []) dX11_lined_9 meX11_needs mlX11_404 imX11_needs seX11_needs clsX11 rfl (by omega) (Nat.le_of_ble_eq_true rfl) rfl rfl h (fun v hv => lift_X11_needs 32 hv) (fun w22 h => ?_)
    refine V.istore_n dX11_lined_12 rfl (by decide) rfl rfl ?_
    refine V.iload_n (n := 0) dX11_lined_13 rfl rfl ?_
    refine V.if_eq (q := 19) dX11_lined_14 (by decide) rfl h (fun h => ?_) (fun h => ?_)
    · refine V.iload_n (n := 1) dX11_lined_19 rfl rfl ?_
      refine V.istore dX11_lined_20 (by decide) rfl rfl ?_
      refine V.iconst (x := 0) dX11_lined_22 (by decide) rfl ?_
      refine V.istore dX11_lined_23 (by decide) rfl rfl ?_
      exact V.sub [4, 5, 1, 0] rfl (lab_X11_lined_25 FU _ _ _ _ _ h)
    · refine V.iload_n (n := 0) dX11_lined_17 rfl rfl ?_
      exact V.iret dX11_lined_18 rfl h
  exact hh
def J_X11_bill_54 : Nat → Option Nat → Int32 → Int64 → Int32 → Mem → Option (Int32 × Mem)
  | 0 => fun _ _ _ _ _ => none
  | n + 1 => fun v0 v1 v2 v4 M =>
  (fR M 11 76 v0).bind fun x1 =>
  (aI M 20 x1 v1).bind fun x2 =>
  if x2 ≤ v4 then
  ((fR M 11 81 v0).bind fun x3 =>
  (uL M 21 x3 v1 v2).bind fun M4 =>
  (fR M4 11 80 v0).bind fun x5 =>
  (fR M4 11 76 v0).bind fun x6 =>
  (aI M4 20 x6 v1).bind fun x7 =>
  (uI M4 20 x5 v1 x7).bind fun M8 =>
  (fI M8 11 83 v0).bind fun x9 =>
  (pI M8 11 83 v0 (x9 + (1 : Int32))).bind fun M10 =>
  some ((0 : Int32), M10))
  else
  ((ck M 11 v0).bind fun _ => (L_X11_lined v0 (((8 : Int32) * v1) + v4) M).bind fun w11 =>
  if w11.1 = 0 then
  ((fR w11.2 11 82 v0).bind fun x12 =>
  (fL w11.2 11 71 v0).bind fun x13 =>
  (uL w11.2 21 x12 (((8 : Int32) * v1) + v4) x13).bind fun M14 =>
  (fL M14 11 71 v0).bind fun x15 =>
  J_X11_bill_54 n v0 v1 (v2 + x15) (v4 + 1) M14)
  else
  ((fI w11.2 11 84 v0).bind fun x16 =>
  (pI w11.2 11 84 v0 (x16 + (1 : Int32))).bind fun M17 =>
  some (w11.1, M17)))
set_option maxRecDepth 20000 in
set_option maxHeartbeats 4000000 in
theorem lab_X11_bill_54 {G : Gt} {M0 M9 : Mem} {x9 : Int32} : ∀ (n : Nat) (v0 : Option Nat) (v1 : Int32) (v2 : Int64) (v4 : Int32) (M : Mem), J_X11_bill_54 n v0 v1 v2 v4 M = some (x9, M9) → V G mX11_bill 197 M0 (some (vI x9)) M9 M 54 [(0, vR v0), (1, vI v1), (2, vL v2), (4, vI v4)] [] := by
  intro n
  induction n with
  | zero => intro v0 v1 v2 v4 M h; exact nomatch h
  | succ n ih =>
    intro v0 v1 v2 v4 M h
    unfold J_X11_bill_54 at h
    refine V.iload (n := 3) dX11_bill_54 rfl rfl ?_
    refine V.aload_n (n := 0) dX11_bill_56 rfl rfl ?_
    refine V.getR dX11_bill_57 lkX11_151 rfl rfl h (fun x1 h => ?_)
    refine V.iload_n (n := 1) dX11_bill_60 rfl rfl ?_
    refine V.iald dX11_bill_61 rfl h (fun x2 h => ?_)
    refine V.icmp_ge (q := 125) dX11_bill_62 (by decide) rfl h (fun h => ?_) (fun h => ?_)
    · refine V.aload_n (n := 0) dX11_bill_125 rfl rfl ?_
      refine V.getR dX11_bill_126 lkX11_166 rfl rfl h (fun x3 h => ?_)
      refine V.iload_n (n := 1) dX11_bill_129 rfl rfl ?_
      refine V.lload_n (n := 2) dX11_bill_130 rfl rfl ?_
      refine V.last dX11_bill_131 rfl h (fun M4 h => ?_)
      refine V.aload_n (n := 0) dX11_bill_132 rfl rfl ?_
      refine V.getR dX11_bill_133 lkX11_163 rfl rfl h (fun x5 h => ?_)
      refine V.iload_n (n := 1) dX11_bill_136 rfl rfl ?_
      refine V.aload_n (n := 0) dX11_bill_137 rfl rfl ?_
      refine V.getR dX11_bill_138 lkX11_151 rfl rfl h (fun x6 h => ?_)
      refine V.iload_n (n := 1) dX11_bill_141 rfl rfl ?_
      refine V.iald dX11_bill_142 rfl h (fun x7 h => ?_)
      refine V.iast dX11_bill_143 rfl h (fun M8 h => ?_)
      refine V.aload_n (n := 0) dX11_bill_144 rfl rfl ?_
      refine V.dup dX11_bill_145 rfl rfl ?_
      refine V.getI dX11_bill_146 lkX11_459 rfl rfl h (fun x9 h => ?_)
      refine V.iconst (x := 1) dX11_bill_149 (by decide) rfl ?_
      refine V.iadd dX11_bill_150 rfl ?_
      refine V.putI dX11_bill_151 lkX11_459 (Or.inl rfl) rfl rfl h (fun M10 h => ?_)
      refine V.iconst (x := 0) dX11_bill_154 (by decide) rfl ?_
      exact V.iret dX11_bill_155 rfl h
    · refine V.aload_n (n := 0) dX11_bill_65 rfl rfl ?_
      refine V.bipush (x := 8) dX11_bill_66 (by decide) rfl ?_
      refine V.iload_n (n := 1) dX11_bill_68 rfl rfl ?_
      refine V.imul dX11_bill_69 rfl ?_
      refine V.iload (n := 3) dX11_bill_70 rfl rfl ?_
      refine V.iadd dX11_bill_72 rfl ?_
      refine V.callVi (d' := 196) (as := [vI (((8 : Int32) * v1) + v4)]) (st := []) dX11_bill_73 meX11_lined mlX11_453 imX11_lined seX11_lined clsX11 rfl (by omega) (Nat.le_of_ble_eq_true rfl) rfl rfl h (fun v hv => lift_X11_lined hv) (fun w11 h => ?_)
      refine V.istore dX11_bill_76 (by decide) rfl rfl ?_
      refine V.iload (n := 0) dX11_bill_78 rfl rfl ?_
      refine V.if_eq (q := 96) dX11_bill_80 (by decide) rfl h (fun h => ?_) (fun h => ?_)
      · refine V.aload_n (n := 1) dX11_bill_96 rfl rfl ?_
        refine V.getR dX11_bill_97 lkX11_169 rfl rfl h (fun x12 h => ?_)
        refine V.bipush (x := 8) dX11_bill_100 (by decide) rfl ?_
        refine V.iload_n (n := 2) dX11_bill_102 rfl rfl ?_
        refine V.imul dX11_bill_103 rfl ?_
        refine V.iload (n := 4) dX11_bill_104 rfl rfl ?_
        refine V.iadd dX11_bill_106 rfl ?_
        refine V.aload_n (n := 1) dX11_bill_107 rfl rfl ?_
        refine V.getL dX11_bill_108 lkX11_417 rfl rfl h (fun x13 h => ?_)
        refine V.last dX11_bill_111 rfl h (fun M14 h => ?_)
        refine V.lload_n (n := 3) dX11_bill_112 rfl rfl ?_
        refine V.aload_n (n := 1) dX11_bill_113 rfl rfl ?_
        refine V.getL dX11_bill_114 lkX11_417 rfl rfl h (fun x15 h => ?_)
        refine V.ladd dX11_bill_117 rfl ?_
        refine V.lstore_n dX11_bill_118 rfl (by decide) rfl rfl ?_
        refine V.iinc (n := 4) (x := v4 + 1) dX11_bill_119 rfl (by rfl) (by decide) rfl rfl ?_
        refine V.goto (q := 54) dX11_bill_122 (by decide) ?_
        exact V.sub [3, 4, 1, 0] rfl (ih _ _ _ _ _ h)
      · refine V.aload_n (n := 1) dX11_bill_83 rfl rfl ?_
        refine V.dup dX11_bill_84 rfl rfl ?_
        refine V.getI dX11_bill_85 lkX11_456 rfl rfl h (fun x16 h => ?_)
        refine V.iconst (x := 1) dX11_bill_88 (by decide) rfl ?_
        refine V.iadd dX11_bill_89 rfl ?_
        refine V.putI dX11_bill_90 lkX11_456 (Or.inl rfl) rfl rfl h (fun M17 h => ?_)
        refine V.iload (n := 0) dX11_bill_93 rfl rfl ?_
        exact V.iret dX11_bill_95 rfl h
def L_X11_bill (v0 : Option Nat) (v1 : Int32) (M : Mem) : Option (Int32 × Mem) :=
  (fI M 11 73 v0).bind fun x18 =>
  (L_X11_isIn v1 x18 M).bind fun w19 =>
  if w19.1 = 0 then
  (some ((-1 : Int32), w19.2))
  else
  ((fR w19.2 11 76 v0).bind fun x20 =>
  (aI w19.2 20 x20 v1).bind fun x21 =>
  if ¬ x21 = 0 then
  ((fR w19.2 11 74 v0).bind fun x22 =>
  (aI w19.2 20 x22 v1).bind fun x23 =>
  (pI w19.2 11 67 v0 x23).bind fun M24 =>
  (fR M24 11 75 v0).bind fun x25 =>
  (aI M24 20 x25 v1).bind fun x26 =>
  (pI M24 11 68 v0 x26).bind fun M27 =>
  (fR M27 11 80 v0).bind fun x28 =>
  (uI M27 20 x28 v1 (-1 : Int32)).bind fun M29 =>
  J_X11_bill_54 FU v0 v1 (0 : Int64) (0 : Int32) M29)
  else
  (some ((-1 : Int32), w19.2)))
set_option maxRecDepth 20000 in
set_option maxHeartbeats 4000000 in
theorem lift_X11_bill {G : Gt} {M M9 : Mem} {x9 : Int32} {v0 : Option Nat} {v1 : Int32} (h : L_X11_bill v0 v1 M = some (x9, M9)) : Mt G mX11_bill 197 [vR v0, vI v1] M (some (vI x9)) M9 := by
  unfold L_X11_bill at h
  refine Mt.of (by decide +kernel) (Nat.le_of_ble_eq_true rfl) ?_
  have hh : V G mX11_bill 197 M (some (vI x9)) M9 M 0 [(0, vR v0), (1, vI v1)] [] := by
    refine V.iload_n (n := 1) dX11_bill_0 rfl rfl ?_
    refine V.aload_n (n := 0) dX11_bill_1 rfl rfl ?_
    refine V.getI dX11_bill_2 lkX11_449 rfl rfl h (fun x18 h => ?_)
    refine V.callSi (d' := 0) (as := [vI v1, vI x18]) (st := []) dX11_bill_5 meX11_isIn mlX11_392 smX11_isIn rfl (by omega) (Nat.le_of_ble_eq_true rfl) rfl rfl h (fun v hv => lift_X11_isIn hv) (fun w19 h => ?_)
    refine V.if_eq (q := 20) dX11_bill_8 (by decide) rfl h (fun h => ?_) (fun h => ?_)
    · refine V.iconst (x := (-1)) dX11_bill_20 (by decide) rfl ?_
      exact V.iret dX11_bill_21 rfl h
    · refine V.aload_n (n := 0) dX11_bill_11 rfl rfl ?_
      refine V.getR dX11_bill_12 lkX11_151 rfl rfl h (fun x20 h => ?_)
      refine V.iload_n (n := 1) dX11_bill_15 rfl rfl ?_
      refine V.iald dX11_bill_16 rfl h (fun x21 h => ?_)
      refine V.if_ne (q := 22) dX11_bill_17 (by decide) rfl h (fun h => ?_) (fun h => ?_)
      · refine V.aload_n (n := 0) dX11_bill_22 rfl rfl ?_
        refine V.aload_n (n := 0) dX11_bill_23 rfl rfl ?_
        refine V.getR dX11_bill_24 lkX11_145 rfl rfl h (fun x22 h => ?_)
        refine V.iload_n (n := 1) dX11_bill_27 rfl rfl ?_
        refine V.iald dX11_bill_28 rfl h (fun x23 h => ?_)
        refine V.putI dX11_bill_29 lkX11_425 (Or.inl rfl) rfl rfl h (fun M24 h => ?_)
        refine V.aload_n (n := 0) dX11_bill_32 rfl rfl ?_
        refine V.aload_n (n := 0) dX11_bill_33 rfl rfl ?_
        refine V.getR dX11_bill_34 lkX11_148 rfl rfl h (fun x25 h => ?_)
        refine V.iload_n (n := 1) dX11_bill_37 rfl rfl ?_
        refine V.iald dX11_bill_38 rfl h (fun x26 h => ?_)
        refine V.putI dX11_bill_39 lkX11_428 (Or.inl rfl) rfl rfl h (fun M27 h => ?_)
        refine V.aload_n (n := 0) dX11_bill_42 rfl rfl ?_
        refine V.getR dX11_bill_43 lkX11_163 rfl rfl h (fun x28 h => ?_)
        refine V.iload_n (n := 1) dX11_bill_46 rfl rfl ?_
        refine V.iconst (x := (-1)) dX11_bill_47 (by decide) rfl ?_
        refine V.iast dX11_bill_48 rfl h (fun M29 h => ?_)
        refine V.lconst (x := 0) dX11_bill_49 (by decide) rfl ?_
        refine V.lstore_n dX11_bill_50 rfl (by decide) rfl rfl ?_
        refine V.iconst (x := 0) dX11_bill_51 (by decide) rfl ?_
        refine V.istore dX11_bill_52 (by decide) rfl rfl ?_
        exact V.sub [2, 3, 1, 0] rfl (lab_X11_bill_54 FU _ _ _ _ _ h)
      · refine V.iconst (x := (-1)) dX11_bill_20 (by decide) rfl ?_
        exact V.iret dX11_bill_21 rfl h
  exact hh
def L_X11_line (v0 : Option Nat) (v1 : Int32) (v2 : Int32) (M : Mem) : Option (Int64 × Mem) :=
  (fI M 11 73 v0).bind fun x1 =>
  (L_X11_isIn v1 x1 M).bind fun w2 =>
  if w2.1 = 0 then
  (some ((-2000000000000000 : Int64), w2.2))
  else
  ((fR w2.2 11 80 v0).bind fun x3 =>
  (aI w2.2 20 x3 v1).bind fun x4 =>
  if x4 < 0 then
  (some ((-2000000000000000 : Int64), w2.2))
  else
  (if v2 < 0 then
  (some ((-2000000000000000 : Int64), w2.2))
  else
  ((fR w2.2 11 80 v0).bind fun x5 =>
  (aI w2.2 20 x5 v1).bind fun x6 =>
  if v2 ≤ x6 then
  (if ¬ v2 = 0 then
  ((fR w2.2 11 82 v0).bind fun x7 =>
  (aL w2.2 21 x7 ((((8 : Int32) * v1) + v2) - (1 : Int32))).bind fun x8 =>
  some (x8, w2.2))
  else
  ((fR w2.2 11 81 v0).bind fun x9 =>
  (aL w2.2 21 x9 v1).bind fun x10 =>
  some (x10, w2.2)))
  else
  (some ((-2000000000000000 : Int64), w2.2)))))
set_option maxRecDepth 20000 in
set_option maxHeartbeats 4000000 in
theorem lift_X11_line {G : Gt} {M M9 : Mem} {x9 : Int64} {v0 : Option Nat} {v1 : Int32} {v2 : Int32} (h : L_X11_line v0 v1 v2 M = some (x9, M9)) : Mt G mX11_line 1 [vR v0, vI v1, vI v2] M (some (vL x9)) M9 := by
  unfold L_X11_line at h
  refine Mt.of (by decide +kernel) (Nat.le_of_ble_eq_true rfl) ?_
  have hh : V G mX11_line 1 M (some (vL x9)) M9 M 0 [(0, vR v0), (1, vI v1), (2, vI v2)] [] := by
    refine V.iload_n (n := 1) dX11_line_0 rfl rfl ?_
    refine V.aload_n (n := 0) dX11_line_1 rfl rfl ?_
    refine V.getI dX11_line_2 lkX11_449 rfl rfl h (fun x1 h => ?_)
    refine V.callSi (d' := 0) (as := [vI v1, vI x1]) (st := []) dX11_line_5 meX11_isIn mlX11_392 smX11_isIn rfl (by omega) (Nat.le_of_ble_eq_true rfl) rfl rfl h (fun v hv => lift_X11_isIn hv) (fun w2 h => ?_)
    refine V.if_eq (q := 34) dX11_line_8 (by decide) rfl h (fun h => ?_) (fun h => ?_)
    · refine V.ldc2 (x := (-2000000000000000)) dX11_line_34 clX11_396 rfl ?_
      exact V.lret dX11_line_37 rfl h
    · refine V.aload_n (n := 0) dX11_line_11 rfl rfl ?_
      refine V.getR dX11_line_12 lkX11_163 rfl rfl h (fun x3 h => ?_)
      refine V.iload_n (n := 1) dX11_line_15 rfl rfl ?_
      refine V.iald dX11_line_16 rfl h (fun x4 h => ?_)
      refine V.if_lt (q := 34) dX11_line_17 (by decide) rfl h (fun h => ?_) (fun h => ?_)
      · refine V.ldc2 (x := (-2000000000000000)) dX11_line_34 clX11_396 rfl ?_
        exact V.lret dX11_line_37 rfl h
      · refine V.iload_n (n := 2) dX11_line_20 rfl rfl ?_
        refine V.if_lt (q := 34) dX11_line_21 (by decide) rfl h (fun h => ?_) (fun h => ?_)
        · refine V.ldc2 (x := (-2000000000000000)) dX11_line_34 clX11_396 rfl ?_
          exact V.lret dX11_line_37 rfl h
        · refine V.iload_n (n := 2) dX11_line_24 rfl rfl ?_
          refine V.aload_n (n := 0) dX11_line_25 rfl rfl ?_
          refine V.getR dX11_line_26 lkX11_163 rfl rfl h (fun x5 h => ?_)
          refine V.iload_n (n := 1) dX11_line_29 rfl rfl ?_
          refine V.iald dX11_line_30 rfl h (fun x6 h => ?_)
          refine V.icmp_le (q := 38) dX11_line_31 (by decide) rfl h (fun h => ?_) (fun h => ?_)
          · refine V.iload_n (n := 2) dX11_line_38 rfl rfl ?_
            refine V.if_ne (q := 51) dX11_line_39 (by decide) rfl h (fun h => ?_) (fun h => ?_)
            · refine V.aload_n (n := 0) dX11_line_51 rfl rfl ?_
              refine V.getR dX11_line_52 lkX11_169 rfl rfl h (fun x7 h => ?_)
              refine V.bipush (x := 8) dX11_line_55 (by decide) rfl ?_
              refine V.iload_n (n := 1) dX11_line_57 rfl rfl ?_
              refine V.imul dX11_line_58 rfl ?_
              refine V.iload_n (n := 2) dX11_line_59 rfl rfl ?_
              refine V.iadd dX11_line_60 rfl ?_
              refine V.iconst (x := 1) dX11_line_61 (by decide) rfl ?_
              refine V.isub dX11_line_62 rfl ?_
              refine V.lald dX11_line_63 rfl h (fun x8 h => ?_)
              exact V.lret dX11_line_64 rfl h
            · refine V.aload_n (n := 0) dX11_line_42 rfl rfl ?_
              refine V.getR dX11_line_43 lkX11_166 rfl rfl h (fun x9 h => ?_)
              refine V.iload_n (n := 1) dX11_line_46 rfl rfl ?_
              refine V.lald dX11_line_47 rfl h (fun x10 h => ?_)
              refine V.goto (q := 64) dX11_line_48 (by decide) ?_
              exact V.lret dX11_line_64 rfl h
          · refine V.ldc2 (x := (-2000000000000000)) dX11_line_34 clX11_396 rfl ?_
            exact V.lret dX11_line_37 rfl h
  exact hh
def L_X11_count (v0 : Option Nat) (v1 : Int32) (M : Mem) : Option (Int32 × Mem) :=
  if v1 = 0 then
  ((fI M 11 59 v0).bind fun x1 =>
  some (x1, M))
  else
  if v1 = 1 then
  ((fI M 11 66 v0).bind fun x2 =>
  some (x2, M))
  else
  if v1 = 2 then
  ((fI M 11 83 v0).bind fun x3 =>
  some (x3, M))
  else
  if v1 = 3 then
  ((fI M 11 84 v0).bind fun x4 =>
  some (x4, M))
  else
  if v1 = 4 then
  ((fI M 11 73 v0).bind fun x5 =>
  some (x5, M))
  else
  (some ((-1 : Int32), M))
set_option maxRecDepth 20000 in
set_option maxHeartbeats 4000000 in
theorem lift_X11_count {G : Gt} {M M9 : Mem} {x9 : Int32} {v0 : Option Nat} {v1 : Int32} (h : L_X11_count v0 v1 M = some (x9, M9)) : Mt G mX11_count 0 [vR v0, vI v1] M (some (vI x9)) M9 := by
  unfold L_X11_count at h
  refine Mt.of (by decide +kernel) (Nat.le_of_ble_eq_true rfl) ?_
  have hh : V G mX11_count 0 M (some (vI x9)) M9 M 0 [(0, vR v0), (1, vI v1)] [] := by
    refine V.iload_n (n := 1) dX11_count_0 rfl rfl ?_
    refine V.sw h (fun hx h => ?_) (fun n0 h => ?_)
    · refine V.swt hx ?_
      refine V.tableIn (q := 36) (x := 0) (off := 35) dX11_count_1 (by decide) (by decide) (by decide) (by decide) ?_
      refine V.aload_n (n := 0) dX11_count_36 rfl rfl ?_
      refine V.getI dX11_count_37 lkX11_369 rfl rfl h (fun x1 h => ?_)
      exact V.iret dX11_count_40 rfl h
    refine V.sw h (fun hx h => ?_) (fun n1 h => ?_)
    · refine V.swt hx ?_
      refine V.tableIn (q := 41) (x := 1) (off := 40) dX11_count_1 (by decide) (by decide) (by decide) (by decide) ?_
      refine V.aload_n (n := 0) dX11_count_41 rfl rfl ?_
      refine V.getI dX11_count_42 lkX11_401 rfl rfl h (fun x2 h => ?_)
      exact V.iret dX11_count_45 rfl h
    refine V.sw h (fun hx h => ?_) (fun n2 h => ?_)
    · refine V.swt hx ?_
      refine V.tableIn (q := 46) (x := 2) (off := 45) dX11_count_1 (by decide) (by decide) (by decide) (by decide) ?_
      refine V.aload_n (n := 0) dX11_count_46 rfl rfl ?_
      refine V.getI dX11_count_47 lkX11_459 rfl rfl h (fun x3 h => ?_)
      exact V.iret dX11_count_50 rfl h
    refine V.sw h (fun hx h => ?_) (fun n3 h => ?_)
    · refine V.swt hx ?_
      refine V.tableIn (q := 51) (x := 3) (off := 50) dX11_count_1 (by decide) (by decide) (by decide) (by decide) ?_
      refine V.aload_n (n := 0) dX11_count_51 rfl rfl ?_
      refine V.getI dX11_count_52 lkX11_456 rfl rfl h (fun x4 h => ?_)
      exact V.iret dX11_count_55 rfl h
    refine V.sw h (fun hx h => ?_) (fun n4 h => ?_)
    · refine V.swt hx ?_
      refine V.tableIn (q := 56) (x := 4) (off := 55) dX11_count_1 (by decide) (by decide) (by decide) (by decide) ?_
      refine V.aload_n (n := 0) dX11_count_56 rfl rfl ?_
      refine V.getI dX11_count_57 lkX11_449 rfl rfl h (fun x5 h => ?_)
      exact V.iret dX11_count_60 rfl h
    have e0 := sw_ne n0
    have e1 := sw_ne n1
    have e2 := sw_ne n2
    have e3 := sw_ne n3
    have e4 := sw_ne n4
    have t0 : (0 : Int32).toInt = 0 := by decide
    have t1 : (1 : Int32).toInt = 1 := by decide
    have t2 : (2 : Int32).toInt = 2 := by decide
    have t3 : (3 : Int32).toInt = 3 := by decide
    have t4 : (4 : Int32).toInt = 4 := by decide
    refine V.tableOut (q := 61) dX11_count_1 (by omega) (by decide) ?_
    refine V.iconst (x := (-1)) dX11_count_61 (by decide) rfl ?_
    exact V.iret dX11_count_62 rfl h
  exact hh
