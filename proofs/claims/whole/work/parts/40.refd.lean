def J_X11_comesOut_333 (k_39 : Option Nat → Int32 → Int32 → Int32 → Int32 → Int32 → Mem → Option (Int32 × Mem)) (v0 : Option Nat) (v1 : Int32) (v2 : Int32) (v3 : Int32) (v4 : Int32) (v5 : Int32) (M : Mem) : Option (Int32 × Mem) :=
  (fR M 11 62 v0).bind fun x1 =>
  (aL M 21 x1 (v4 - (1 : Int32))).bind fun x2 =>
  (L_X11_isSmall x2 M).bind fun w3 =>
  if ¬ w3.1 = 0 then
  (k_39 v0 v1 v2 v3 v4 (v5 + 1) w3.2)
  else
  ((bz (0 : Int32)).bind fun _ => some ((0 : Int32), w3.2))
set_option maxRecDepth 20000 in
set_option maxHeartbeats 4000000 in
theorem lab_X11_comesOut_333 {G : Gt} {M0 M9 : Mem} {x9 : Int32} {k_39 : Option Nat → Int32 → Int32 → Int32 → Int32 → Int32 → Mem → Option (Int32 × Mem)} (hk_39 : ∀ (v0 : Option Nat) (v1 : Int32) (v2 : Int32) (v3 : Int32) (v4 : Int32) (v5 : Int32) (Ma : Mem), k_39 v0 v1 v2 v3 v4 v5 Ma = some (x9, M9) → V G mX11_comesOut 1 M0 (some (vI x9)) M9 Ma 39 [(0, vR v0), (1, vI v1), (2, vI v2), (3, vI v3), (4, vI v4), (5, vI v5)] []) {v0 : Option Nat} {v1 : Int32} {v2 : Int32} {v3 : Int32} {v4 : Int32} {v5 : Int32} {M : Mem} (h : J_X11_comesOut_333 k_39 v0 v1 v2 v3 v4 v5 M = some (x9, M9)) : V G mX11_comesOut 1 M0 (some (vI x9)) M9 M 333 [(0, vR v0), (1, vI v1), (2, vI v2), (3, vI v3), (4, vI v4), (5, vI v5)] [] := by
  unfold J_X11_comesOut_333 at h
  refine V.aload_n (n := 0) dX11_comesOut_333 rfl rfl ?_
  refine V.getR dX11_comesOut_334 lkX11_133 rfl rfl h (fun x1 h => ?_)
  refine V.iload (n := 4) dX11_comesOut_337 rfl rfl ?_
  refine V.iconst (x := 1) dX11_comesOut_339 (by decide) rfl ?_
  refine V.isub dX11_comesOut_340 rfl ?_
  refine V.lald dX11_comesOut_341 rfl h (fun x2 h => ?_)
  refine V.callSi (d' := 0) (as := [vL x2]) (st := []) dX11_comesOut_342 meX11_isSmall mlX11_386 smX11_isSmall rfl (by omega) (Nat.le_of_ble_eq_true rfl) rfl rfl h (fun v hv => lift_X11_isSmall hv) (fun w3 h => ?_)
  refine V.if_ne (q := 350) dX11_comesOut_345 (by decide) rfl h (fun h => ?_) (fun h => ?_)
  · refine V.iinc (n := 5) (x := v5 + 1) dX11_comesOut_350 rfl (by rfl) (by decide) rfl rfl ?_
    refine V.goto (q := 39) dX11_comesOut_353 (by decide) ?_
    exact V.sub [1, 2, 3, 4, 5, 0] rfl (hk_39 _ _ _ _ _ _ _ h)
  · refine V.iconst (x := 0) dX11_comesOut_348 (by decide) rfl ?_
    exact V.zret dX11_comesOut_349 rfl h
def J_X11_comesOut_124 (k_39 : Option Nat → Int32 → Int32 → Int32 → Int32 → Int32 → Mem → Option (Int32 × Mem)) (v0 : Option Nat) (v1 : Int32) (v2 : Int32) (v3 : Int32) (v4 : Int32) (v5 : Int32) (s0 : Option Nat) (s1 : Int32) (M : Mem) : Option (Int32 × Mem) :=
  (fR M 11 51 v0).bind fun x4 =>
  (aL M 21 x4 (v3 + v5)).bind fun x5 =>
  (ck M 11 s0).bind fun _ => (L_X11_constOf s0 s1 x5 M).bind fun w6 =>
  if w6.1 < 0 then
  ((bz (0 : Int32)).bind fun _ => some ((0 : Int32), w6.2))
  else
  ((fR w6.2 11 60 v0).bind fun x7 =>
  (aI w6.2 24 x7 w6.1).bind fun x8 =>
  if ¬ x8 = 0 then
  ((fR w6.2 11 62 v0).bind fun x9 =>
  (fR w6.2 11 61 v0).bind fun x10 =>
  (aL w6.2 21 x10 w6.1).bind fun x11 =>
  (uL w6.2 21 x9 v4 x11).bind fun M12 =>
  J_X11_comesOut_333 k_39 v0 v1 v2 v3 (v4 + 1) v5 M12)
  else
  ((bz (0 : Int32)).bind fun _ => some ((0 : Int32), w6.2)))
set_option maxRecDepth 20000 in
set_option maxHeartbeats 4000000 in
theorem lab_X11_comesOut_124 {G : Gt} {M0 M9 : Mem} {x9 : Int32} {k_39 : Option Nat → Int32 → Int32 → Int32 → Int32 → Int32 → Mem → Option (Int32 × Mem)} (hk_39 : ∀ (v0 : Option Nat) (v1 : Int32) (v2 : Int32) (v3 : Int32) (v4 : Int32) (v5 : Int32) (Ma : Mem), k_39 v0 v1 v2 v3 v4 v5 Ma = some (x9, M9) → V G mX11_comesOut 1 M0 (some (vI x9)) M9 Ma 39 [(0, vR v0), (1, vI v1), (2, vI v2), (3, vI v3), (4, vI v4), (5, vI v5)] []) {v0 : Option Nat} {v1 : Int32} {v2 : Int32} {v3 : Int32} {v4 : Int32} {v5 : Int32} {s0 : Option Nat} {s1 : Int32} {M : Mem} (h : J_X11_comesOut_124 k_39 v0 v1 v2 v3 v4 v5 s0 s1 M = some (x9, M9)) : V G mX11_comesOut 1 M0 (some (vI x9)) M9 M 124 [(0, vR v0), (1, vI v1), (2, vI v2), (3, vI v3), (4, vI v4), (5, vI v5)] [vI s1, vR s0] := by
  unfold J_X11_comesOut_124 at h
  refine V.aload_n (n := 0) dX11_comesOut_124 rfl rfl ?_
  refine V.getR dX11_comesOut_125 lkX11_103 rfl rfl h (fun x4 h => ?_)
  refine V.iload_n (n := 3) dX11_comesOut_128 rfl rfl ?_
  refine V.iload (n := 5) dX11_comesOut_129 rfl rfl ?_
  refine V.iadd dX11_comesOut_131 rfl ?_
  refine V.lald dX11_comesOut_132 rfl h (fun x5 h => ?_)
  refine V.callVi (d' := 0) (as := [vI s1, vL x5]) (st := []) dX11_comesOut_133 meX11_constOf mlX11_382 imX11_constOf seX11_constOf clsX11 rfl (by omega) (Nat.le_of_ble_eq_true rfl) rfl rfl h (fun v hv => lift_X11_constOf hv) (fun w6 h => ?_)
  refine V.istore dX11_comesOut_136 (by decide) rfl rfl ?_
  refine V.iload (n := 0) dX11_comesOut_138 rfl rfl ?_
  refine V.if_lt (q := 153) dX11_comesOut_140 (by decide) rfl h (fun h => ?_) (fun h => ?_)
  · refine V.iconst (x := 0) dX11_comesOut_153 (by decide) rfl ?_
    exact V.zret dX11_comesOut_154 rfl h
  · refine V.aload_n (n := 1) dX11_comesOut_143 rfl rfl ?_
    refine V.getR dX11_comesOut_144 lkX11_127 rfl rfl h (fun x7 h => ?_)
    refine V.iload (n := 0) dX11_comesOut_147 rfl rfl ?_
    refine V.zald dX11_comesOut_149 rfl h (fun x8 h => ?_)
    refine V.if_ne (q := 155) dX11_comesOut_150 (by decide) rfl h (fun h => ?_) (fun h => ?_)
    · refine V.aload_n (n := 1) dX11_comesOut_155 rfl rfl ?_
      refine V.getR dX11_comesOut_156 lkX11_133 rfl rfl h (fun x9 h => ?_)
      refine V.iload (n := 5) dX11_comesOut_159 rfl rfl ?_
      refine V.aload_n (n := 1) dX11_comesOut_161 rfl rfl ?_
      refine V.getR dX11_comesOut_162 lkX11_130 rfl rfl h (fun x10 h => ?_)
      refine V.iload (n := 0) dX11_comesOut_165 rfl rfl ?_
      refine V.lald dX11_comesOut_167 rfl h (fun x11 h => ?_)
      refine V.last dX11_comesOut_168 rfl h (fun M12 h => ?_)
      refine V.iinc (n := 5) (x := v4 + 1) dX11_comesOut_169 rfl (by rfl) (by decide) rfl rfl ?_
      refine V.goto (q := 333) dX11_comesOut_172 (by decide) ?_
      exact V.sub [2, 3, 4, 5, 0, 6] rfl (lab_X11_comesOut_333 hk_39 h)
    · refine V.iconst (x := 0) dX11_comesOut_153 (by decide) rfl ?_
      exact V.zret dX11_comesOut_154 rfl h
def J_X11_comesOut_332 (k_39 : Option Nat → Int32 → Int32 → Int32 → Int32 → Int32 → Mem → Option (Int32 × Mem)) (v0 : Option Nat) (v1 : Int32) (v2 : Int32) (v3 : Int32) (v4 : Int32) (v5 : Int32) (s0 : Option Nat) (s1 : Int32) (s2 : Int64) (M : Mem) : Option (Int32 × Mem) :=
  (uL M 21 s0 s1 s2).bind fun M13 =>
  J_X11_comesOut_333 k_39 v0 v1 v2 v3 v4 v5 M13
set_option maxRecDepth 20000 in
set_option maxHeartbeats 4000000 in
theorem lab_X11_comesOut_332 {G : Gt} {M0 M9 : Mem} {x9 : Int32} {k_39 : Option Nat → Int32 → Int32 → Int32 → Int32 → Int32 → Mem → Option (Int32 × Mem)} (hk_39 : ∀ (v0 : Option Nat) (v1 : Int32) (v2 : Int32) (v3 : Int32) (v4 : Int32) (v5 : Int32) (Ma : Mem), k_39 v0 v1 v2 v3 v4 v5 Ma = some (x9, M9) → V G mX11_comesOut 1 M0 (some (vI x9)) M9 Ma 39 [(0, vR v0), (1, vI v1), (2, vI v2), (3, vI v3), (4, vI v4), (5, vI v5)] []) {v0 : Option Nat} {v1 : Int32} {v2 : Int32} {v3 : Int32} {v4 : Int32} {v5 : Int32} {s0 : Option Nat} {s1 : Int32} {s2 : Int64} {M : Mem} (h : J_X11_comesOut_332 k_39 v0 v1 v2 v3 v4 v5 s0 s1 s2 M = some (x9, M9)) : V G mX11_comesOut 1 M0 (some (vI x9)) M9 M 332 [(0, vR v0), (1, vI v1), (2, vI v2), (3, vI v3), (4, vI v4), (5, vI v5)] [vL s2, vI s1, vR s0] := by
  unfold J_X11_comesOut_332 at h
  refine V.last dX11_comesOut_332 rfl h (fun M13 h => ?_)
  exact (lab_X11_comesOut_333 hk_39 h)
def J_X11_comesOut_289 (k_39 : Option Nat → Int32 → Int32 → Int32 → Int32 → Int32 → Mem → Option (Int32 × Mem)) (v0 : Option Nat) (v1 : Int32) (v2 : Int32) (v3 : Int32) (v4 : Int32) (v5 : Int32) (v6 : Int32) (v7 : Int64) (v9 : Int64) (M : Mem) : Option (Int32 × Mem) :=
  (fR M 11 62 v0).bind fun x14 =>
  if ¬ v6 = (42 : Int32) then
  (if ¬ v6 = (43 : Int32) then
  (J_X11_comesOut_332 k_39 v0 v1 v2 v3 v4 v5 x14 (v4 - (1 : Int32)) (v7 - v9) M)
  else
  (J_X11_comesOut_332 k_39 v0 v1 v2 v3 v4 v5 x14 (v4 - (1 : Int32)) (v7 + v9) M))
  else
  (J_X11_comesOut_332 k_39 v0 v1 v2 v3 v4 v5 x14 (v4 - (1 : Int32)) (v7 * v9) M)
set_option maxRecDepth 20000 in
set_option maxHeartbeats 4000000 in
theorem lab_X11_comesOut_289 {G : Gt} {M0 M9 : Mem} {x9 : Int32} {k_39 : Option Nat → Int32 → Int32 → Int32 → Int32 → Int32 → Mem → Option (Int32 × Mem)} (hk_39 : ∀ (v0 : Option Nat) (v1 : Int32) (v2 : Int32) (v3 : Int32) (v4 : Int32) (v5 : Int32) (Ma : Mem), k_39 v0 v1 v2 v3 v4 v5 Ma = some (x9, M9) → V G mX11_comesOut 1 M0 (some (vI x9)) M9 Ma 39 [(0, vR v0), (1, vI v1), (2, vI v2), (3, vI v3), (4, vI v4), (5, vI v5)] []) {v0 : Option Nat} {v1 : Int32} {v2 : Int32} {v3 : Int32} {v4 : Int32} {v5 : Int32} {v6 : Int32} {v7 : Int64} {v9 : Int64} {M : Mem} (h : J_X11_comesOut_289 k_39 v0 v1 v2 v3 v4 v5 v6 v7 v9 M = some (x9, M9)) : V G mX11_comesOut 1 M0 (some (vI x9)) M9 M 289 [(0, vR v0), (1, vI v1), (2, vI v2), (3, vI v3), (4, vI v4), (5, vI v5), (6, vI v6), (7, vL v7), (9, vL v9)] [] := by
  unfold J_X11_comesOut_289 at h
  refine V.aload_n (n := 0) dX11_comesOut_289 rfl rfl ?_
  refine V.getR dX11_comesOut_290 lkX11_133 rfl rfl h (fun x14 h => ?_)
  refine V.iload (n := 4) dX11_comesOut_293 rfl rfl ?_
  refine V.iconst (x := 1) dX11_comesOut_295 (by decide) rfl ?_
  refine V.isub dX11_comesOut_296 rfl ?_
  refine V.iload (n := 6) dX11_comesOut_297 rfl rfl ?_
  refine V.bipush (x := 42) dX11_comesOut_299 (by decide) rfl ?_
  refine V.icmp_ne (q := 312) dX11_comesOut_301 (by decide) rfl h (fun h => ?_) (fun h => ?_)
  · refine V.iload (n := 6) dX11_comesOut_312 rfl rfl ?_
    refine V.bipush (x := 43) dX11_comesOut_314 (by decide) rfl ?_
    refine V.icmp_ne (q := 327) dX11_comesOut_316 (by decide) rfl h (fun h => ?_) (fun h => ?_)
    · refine V.lload (n := 7) dX11_comesOut_327 rfl rfl ?_
      refine V.lload (n := 8) dX11_comesOut_329 rfl rfl ?_
      refine V.lsub dX11_comesOut_331 rfl ?_
      exact V.sub [0, 1, 2, 3, 4, 5] rfl (lab_X11_comesOut_332 hk_39 h)
    · refine V.lload (n := 7) dX11_comesOut_319 rfl rfl ?_
      refine V.lload (n := 8) dX11_comesOut_321 rfl rfl ?_
      refine V.ladd dX11_comesOut_323 rfl ?_
      refine V.goto (q := 332) dX11_comesOut_324 (by decide) ?_
      exact V.sub [0, 1, 2, 3, 4, 5] rfl (lab_X11_comesOut_332 hk_39 h)
  · refine V.lload (n := 7) dX11_comesOut_304 rfl rfl ?_
    refine V.lload (n := 8) dX11_comesOut_306 rfl rfl ?_
    refine V.lmul dX11_comesOut_308 rfl ?_
    refine V.goto (q := 332) dX11_comesOut_309 (by decide) ?_
    exact V.sub [0, 1, 2, 3, 4, 5] rfl (lab_X11_comesOut_332 hk_39 h)
def J_X11_comesOut_259 (k_39 : Option Nat → Int32 → Int32 → Int32 → Int32 → Int32 → Mem → Option (Int32 × Mem)) (v0 : Option Nat) (v1 : Int32) (v2 : Int32) (v3 : Int32) (v4 : Int32) (v5 : Int32) (v6 : Int32) (v7 : Int64) (v9 : Int64) (v11 : Int64) (s0 : Int64) (M : Mem) : Option (Int32 × Mem) :=
  if ¬ v6 = (42 : Int32) then
  (J_X11_comesOut_289 k_39 v0 v1 v2 v3 v4 v5 v6 v7 v9 M)
  else
  (if v7 = (0 : Int64) then
  (J_X11_comesOut_289 k_39 v0 v1 v2 v3 v4 v5 v6 v7 v9 M)
  else
  (if s0 = 0 then none else
  if v11 ≤ ((1000000000000000 : Int64) / s0) then
  (J_X11_comesOut_289 k_39 v0 v1 v2 v3 v4 v5 v6 v7 v9 M)
  else
  ((bz (0 : Int32)).bind fun _ => some ((0 : Int32), M))))
set_option maxRecDepth 20000 in
set_option maxHeartbeats 4000000 in
theorem lab_X11_comesOut_259 {G : Gt} {M0 M9 : Mem} {x9 : Int32} {k_39 : Option Nat → Int32 → Int32 → Int32 → Int32 → Int32 → Mem → Option (Int32 × Mem)} (hk_39 : ∀ (v0 : Option Nat) (v1 : Int32) (v2 : Int32) (v3 : Int32) (v4 : Int32) (v5 : Int32) (Ma : Mem), k_39 v0 v1 v2 v3 v4 v5 Ma = some (x9, M9) → V G mX11_comesOut 1 M0 (some (vI x9)) M9 Ma 39 [(0, vR v0), (1, vI v1), (2, vI v2), (3, vI v3), (4, vI v4), (5, vI v5)] []) {v0 : Option Nat} {v1 : Int32} {v2 : Int32} {v3 : Int32} {v4 : Int32} {v5 : Int32} {v6 : Int32} {v7 : Int64} {v9 : Int64} {v11 : Int64} {s0 : Int64} {M : Mem} (h : J_X11_comesOut_259 k_39 v0 v1 v2 v3 v4 v5 v6 v7 v9 v11 s0 M = some (x9, M9)) : V G mX11_comesOut 1 M0 (some (vI x9)) M9 M 259 [(0, vR v0), (1, vI v1), (2, vI v2), (3, vI v3), (4, vI v4), (5, vI v5), (6, vI v6), (7, vL v7), (9, vL v9), (11, vL v11)] [vL s0] := by
  unfold J_X11_comesOut_259 at h
  refine V.lstore dX11_comesOut_259 (by decide) rfl rfl ?_
  refine V.iload (n := 7) dX11_comesOut_261 rfl rfl ?_
  refine V.bipush (x := 42) dX11_comesOut_263 (by decide) rfl ?_
  refine V.icmp_ne (q := 289) dX11_comesOut_265 (by decide) rfl h (fun h => ?_) (fun h => ?_)
  · exact V.sub [1, 2, 3, 4, 5, 6, 7, 8, 9] rfl (lab_X11_comesOut_289 hk_39 h)
  · refine V.lload (n := 8) dX11_comesOut_268 rfl rfl ?_
    refine V.lconst (x := 0) dX11_comesOut_270 (by decide) rfl ?_
    refine V.lif_eq (q := 289) dX11_comesOut_271 rfl dX11_comesOut_272 (by decide) rfl h (fun h => ?_) (fun h => ?_)
    · exact V.sub [1, 2, 3, 4, 5, 6, 7, 8, 9] rfl (lab_X11_comesOut_289 hk_39 h)
    · refine V.lload (n := 10) dX11_comesOut_275 rfl rfl ?_
      refine V.ldc2 (x := (1000000000000000)) dX11_comesOut_277 clX11_375 rfl ?_
      refine V.lload (n := 0) dX11_comesOut_280 rfl rfl ?_
      refine V.ldiv dX11_comesOut_282 h rfl (fun h => ?_)
      refine V.lif_le (q := 289) dX11_comesOut_283 rfl dX11_comesOut_284 (by decide) rfl h (fun h => ?_) (fun h => ?_)
      · exact V.sub [1, 2, 3, 4, 5, 6, 7, 8, 9] rfl (lab_X11_comesOut_289 hk_39 h)
      · refine V.iconst (x := 0) dX11_comesOut_287 (by decide) rfl ?_
        exact V.zret dX11_comesOut_288 rfl h
def J_X11_comesOut_242 (k_39 : Option Nat → Int32 → Int32 → Int32 → Int32 → Int32 → Mem → Option (Int32 × Mem)) (v0 : Option Nat) (v1 : Int32) (v2 : Int32) (v3 : Int32) (v4 : Int32) (v5 : Int32) (v6 : Int32) (v7 : Int64) (v9 : Int64) (s0 : Int64) (M : Mem) : Option (Int32 × Mem) :=
  if (0 : Int64) ≤ v7 then
  (J_X11_comesOut_259 k_39 v0 v1 v2 v3 v4 v5 v6 v7 v9 s0 v7 M)
  else
  (J_X11_comesOut_259 k_39 v0 v1 v2 v3 v4 v5 v6 v7 v9 s0 (-v7) M)
set_option maxRecDepth 20000 in
set_option maxHeartbeats 4000000 in
theorem lab_X11_comesOut_242 {G : Gt} {M0 M9 : Mem} {x9 : Int32} {k_39 : Option Nat → Int32 → Int32 → Int32 → Int32 → Int32 → Mem → Option (Int32 × Mem)} (hk_39 : ∀ (v0 : Option Nat) (v1 : Int32) (v2 : Int32) (v3 : Int32) (v4 : Int32) (v5 : Int32) (Ma : Mem), k_39 v0 v1 v2 v3 v4 v5 Ma = some (x9, M9) → V G mX11_comesOut 1 M0 (some (vI x9)) M9 Ma 39 [(0, vR v0), (1, vI v1), (2, vI v2), (3, vI v3), (4, vI v4), (5, vI v5)] []) {v0 : Option Nat} {v1 : Int32} {v2 : Int32} {v3 : Int32} {v4 : Int32} {v5 : Int32} {v6 : Int32} {v7 : Int64} {v9 : Int64} {s0 : Int64} {M : Mem} (h : J_X11_comesOut_242 k_39 v0 v1 v2 v3 v4 v5 v6 v7 v9 s0 M = some (x9, M9)) : V G mX11_comesOut 1 M0 (some (vI x9)) M9 M 242 [(0, vR v0), (1, vI v1), (2, vI v2), (3, vI v3), (4, vI v4), (5, vI v5), (6, vI v6), (7, vL v7), (9, vL v9)] [vL s0] := by
  unfold J_X11_comesOut_242 at h
  refine V.lstore dX11_comesOut_242 (by decide) rfl rfl ?_
  refine V.lload (n := 8) dX11_comesOut_244 rfl rfl ?_
  refine V.lconst (x := 0) dX11_comesOut_246 (by decide) rfl ?_
  refine V.lif_ge (q := 257) dX11_comesOut_247 rfl dX11_comesOut_248 (by decide) rfl h (fun h => ?_) (fun h => ?_)
  · refine V.lload (n := 8) dX11_comesOut_257 rfl rfl ?_
    exact V.sub [1, 2, 3, 4, 5, 6, 7, 8, 9, 0] rfl (lab_X11_comesOut_259 hk_39 h)
  · refine V.lload (n := 8) dX11_comesOut_251 rfl rfl ?_
    refine V.lneg dX11_comesOut_253 rfl ?_
    refine V.goto (q := 259) dX11_comesOut_254 (by decide) ?_
    exact V.sub [1, 2, 3, 4, 5, 6, 7, 8, 9, 0] rfl (lab_X11_comesOut_259 hk_39 h)
def J_X11_comesOut_39 : Nat → Option Nat → Int32 → Int32 → Int32 → Int32 → Int32 → Mem → Option (Int32 × Mem)
  | 0 => fun _ _ _ _ _ _ _ => none
  | n + 1 => fun v0 v1 v2 v3 v4 v5 M =>
  (fR M 11 50 v0).bind fun x15 =>
  (aI M 20 x15 (v3 + v5)).bind fun x16 =>
  if x16 = (11 : Int32) then
  ((fR M 11 61 v0).bind fun x17 =>
  (fR M 11 62 v0).bind fun x18 =>
  (aL M 21 x18 (v4 - (1 : Int32))).bind fun x19 =>
  (uL M 21 x17 v1 x19).bind fun M20 =>
  (bz (1 : Int32)).bind fun _ => some ((1 : Int32), M20))
  else
  ((fR M 11 50 v0).bind fun x21 =>
  (aI M 20 x21 (v3 + v5)).bind fun x22 =>
  if ¬ x22 = 0 then
  (if ¬ x22 = (6 : Int32) then
  (if ¬ x22 = (8 : Int32) then
  ((fR M 11 62 v0).bind fun x23 =>
  (aL M 21 x23 ((v4 + (-1)) - (1 : Int32))).bind fun x24 =>
  (fR M 11 62 v0).bind fun x25 =>
  (aL M 21 x25 (v4 + (-1))).bind fun x26 =>
  if (0 : Int64) ≤ x26 then
  (J_X11_comesOut_242 (J_X11_comesOut_39 n) v0 v1 v2 v3 (v4 + (-1)) v5 x22 x24 x26 x26 M)
  else
  (J_X11_comesOut_242 (J_X11_comesOut_39 n) v0 v1 v2 v3 (v4 + (-1)) v5 x22 x24 x26 (-x26) M))
  else
  ((fR M 11 62 v0).bind fun x27 =>
  (fR M 11 62 v0).bind fun x28 =>
  (aL M 21 x28 (v4 - (1 : Int32))).bind fun x29 =>
  (uL M 21 x27 (v4 - (1 : Int32)) (-x29)).bind fun M30 =>
  J_X11_comesOut_333 (J_X11_comesOut_39 n) v0 v1 v2 v3 v4 v5 M30))
  else
  ((fR M 11 52 v0).bind fun x31 =>
  (aI M 20 x31 (v3 + v5)).bind fun x32 =>
  if 0 ≤ x32 then
  ((fR M 11 52 v0).bind fun x33 =>
  (aI M 20 x33 (v3 + v5)).bind fun x34 =>
  J_X11_comesOut_124 (J_X11_comesOut_39 n) v0 v1 v2 v3 v4 v5 v0 x34 M)
  else
  (J_X11_comesOut_124 (J_X11_comesOut_39 n) v0 v1 v2 v3 v4 v5 v0 v2 M)))
  else
  ((fR M 11 62 v0).bind fun x35 =>
  (fR M 11 51 v0).bind fun x36 =>
  (aL M 21 x36 (v3 + v5)).bind fun x37 =>
  (uL M 21 x35 v4 x37).bind fun M38 =>
  J_X11_comesOut_333 (J_X11_comesOut_39 n) v0 v1 v2 v3 (v4 + 1) v5 M38))
set_option maxRecDepth 20000 in
set_option maxHeartbeats 4000000 in
theorem lab_X11_comesOut_39 {G : Gt} {M0 M9 : Mem} {x9 : Int32} : ∀ (n : Nat) (v0 : Option Nat) (v1 : Int32) (v2 : Int32) (v3 : Int32) (v4 : Int32) (v5 : Int32) (M : Mem), J_X11_comesOut_39 n v0 v1 v2 v3 v4 v5 M = some (x9, M9) → V G mX11_comesOut 1 M0 (some (vI x9)) M9 M 39 [(0, vR v0), (1, vI v1), (2, vI v2), (3, vI v3), (4, vI v4), (5, vI v5)] [] := by
  intro n
  induction n with
  | zero => intro v0 v1 v2 v3 v4 v5 M h; exact nomatch h
  | succ n ih =>
    intro v0 v1 v2 v3 v4 v5 M h
    unfold J_X11_comesOut_39 at h
    refine V.aload_n (n := 0) dX11_comesOut_39 rfl rfl ?_
    refine V.getR dX11_comesOut_40 lkX11_100 rfl rfl h (fun x15 h => ?_)
    refine V.iload_n (n := 3) dX11_comesOut_43 rfl rfl ?_
    refine V.iload (n := 5) dX11_comesOut_44 rfl rfl ?_
    refine V.iadd dX11_comesOut_46 rfl ?_
    refine V.iald dX11_comesOut_47 rfl h (fun x16 h => ?_)
    refine V.bipush (x := 11) dX11_comesOut_48 (by decide) rfl ?_
    refine V.icmp_eq (q := 356) dX11_comesOut_50 (by decide) rfl h (fun h => ?_) (fun h => ?_)
    · refine V.aload_n (n := 0) dX11_comesOut_356 rfl rfl ?_
      refine V.getR dX11_comesOut_357 lkX11_130 rfl rfl h (fun x17 h => ?_)
      refine V.iload_n (n := 1) dX11_comesOut_360 rfl rfl ?_
      refine V.aload_n (n := 0) dX11_comesOut_361 rfl rfl ?_
      refine V.getR dX11_comesOut_362 lkX11_133 rfl rfl h (fun x18 h => ?_)
      refine V.iload (n := 4) dX11_comesOut_365 rfl rfl ?_
      refine V.iconst (x := 1) dX11_comesOut_367 (by decide) rfl ?_
      refine V.isub dX11_comesOut_368 rfl ?_
      refine V.lald dX11_comesOut_369 rfl h (fun x19 h => ?_)
      refine V.last dX11_comesOut_370 rfl h (fun M20 h => ?_)
      refine V.iconst (x := 1) dX11_comesOut_371 (by decide) rfl ?_
      exact V.zret dX11_comesOut_372 rfl h
    · refine V.aload_n (n := 0) dX11_comesOut_53 rfl rfl ?_
      refine V.getR dX11_comesOut_54 lkX11_100 rfl rfl h (fun x21 h => ?_)
      refine V.iload_n (n := 3) dX11_comesOut_57 rfl rfl ?_
      refine V.iload (n := 5) dX11_comesOut_58 rfl rfl ?_
      refine V.iadd dX11_comesOut_60 rfl ?_
      refine V.iald dX11_comesOut_61 rfl h (fun x22 h => ?_)
      refine V.istore dX11_comesOut_62 (by decide) rfl rfl ?_
      refine V.iload (n := 0) dX11_comesOut_64 rfl rfl ?_
      refine V.if_ne (q := 91) dX11_comesOut_66 (by decide) rfl h (fun h => ?_) (fun h => ?_)
      · refine V.iload (n := 0) dX11_comesOut_91 rfl rfl ?_
        refine V.bipush (x := 6) dX11_comesOut_93 (by decide) rfl ?_
        refine V.icmp_ne (q := 175) dX11_comesOut_95 (by decide) rfl h (fun h => ?_) (fun h => ?_)
        · refine V.iload (n := 0) dX11_comesOut_175 rfl rfl ?_
          refine V.bipush (x := 8) dX11_comesOut_177 (by decide) rfl ?_
          refine V.icmp_ne (q := 204) dX11_comesOut_179 (by decide) rfl h (fun h => ?_) (fun h => ?_)
          · refine V.iinc (n := 5) (x := v4 + (-1)) dX11_comesOut_204 rfl (by rfl) (by decide) rfl rfl ?_
            refine V.aload_n (n := 2) dX11_comesOut_207 rfl rfl ?_
            refine V.getR dX11_comesOut_208 lkX11_133 rfl rfl h (fun x23 h => ?_)
            refine V.iload (n := 0) dX11_comesOut_211 rfl rfl ?_
            refine V.iconst (x := 1) dX11_comesOut_213 (by decide) rfl ?_
            refine V.isub dX11_comesOut_214 rfl ?_
            refine V.lald dX11_comesOut_215 rfl h (fun x24 h => ?_)
            refine V.lstore dX11_comesOut_216 (by decide) rfl rfl ?_
            refine V.aload_n (n := 3) dX11_comesOut_218 rfl rfl ?_
            refine V.getR dX11_comesOut_219 lkX11_133 rfl rfl h (fun x25 h => ?_)
            refine V.iload (n := 1) dX11_comesOut_222 rfl rfl ?_
            refine V.lald dX11_comesOut_224 rfl h (fun x26 h => ?_)
            refine V.lstore dX11_comesOut_225 (by decide) rfl rfl ?_
            refine V.lload (n := 0) dX11_comesOut_227 rfl rfl ?_
            refine V.lconst (x := 0) dX11_comesOut_229 (by decide) rfl ?_
            refine V.lif_ge (q := 240) dX11_comesOut_230 rfl dX11_comesOut_231 (by decide) rfl h (fun h => ?_) (fun h => ?_)
            · refine V.lload (n := 0) dX11_comesOut_240 rfl rfl ?_
              exact V.sub [4, 5, 6, 7, 2, 8, 3, 1, 0] rfl (lab_X11_comesOut_242 ih h)
            · refine V.lload (n := 0) dX11_comesOut_234 rfl rfl ?_
              refine V.lneg dX11_comesOut_236 rfl ?_
              refine V.goto (q := 242) dX11_comesOut_237 (by decide) ?_
              exact V.sub [4, 5, 6, 7, 2, 8, 3, 1, 0] rfl (lab_X11_comesOut_242 ih h)
          · refine V.aload_n (n := 1) dX11_comesOut_182 rfl rfl ?_
            refine V.getR dX11_comesOut_183 lkX11_133 rfl rfl h (fun x27 h => ?_)
            refine V.iload (n := 5) dX11_comesOut_186 rfl rfl ?_
            refine V.iconst (x := 1) dX11_comesOut_188 (by decide) rfl ?_
            refine V.isub dX11_comesOut_189 rfl ?_
            refine V.aload_n (n := 1) dX11_comesOut_190 rfl rfl ?_
            refine V.getR dX11_comesOut_191 lkX11_133 rfl rfl h (fun x28 h => ?_)
            refine V.iload (n := 5) dX11_comesOut_194 rfl rfl ?_
            refine V.iconst (x := 1) dX11_comesOut_196 (by decide) rfl ?_
            refine V.isub dX11_comesOut_197 rfl ?_
            refine V.lald dX11_comesOut_198 rfl h (fun x29 h => ?_)
            refine V.lneg dX11_comesOut_199 rfl ?_
            refine V.last dX11_comesOut_200 rfl h (fun M30 h => ?_)
            refine V.goto (q := 333) dX11_comesOut_201 (by decide) ?_
            exact V.sub [1, 2, 3, 4, 5, 6] rfl (lab_X11_comesOut_333 ih h)
        · refine V.aload_n (n := 1) dX11_comesOut_98 rfl rfl ?_
          refine V.aload_n (n := 1) dX11_comesOut_99 rfl rfl ?_
          refine V.getR dX11_comesOut_100 lkX11_106 rfl rfl h (fun x31 h => ?_)
          refine V.iload_n (n := 4) dX11_comesOut_103 rfl rfl ?_
          refine V.iload (n := 6) dX11_comesOut_104 rfl rfl ?_
          refine V.iadd dX11_comesOut_106 rfl ?_
          refine V.iald dX11_comesOut_107 rfl h (fun x32 h => ?_)
          refine V.if_ge (q := 115) dX11_comesOut_108 (by decide) rfl h (fun h => ?_) (fun h => ?_)
          · refine V.aload_n (n := 1) dX11_comesOut_115 rfl rfl ?_
            refine V.getR dX11_comesOut_116 lkX11_106 rfl rfl h (fun x33 h => ?_)
            refine V.iload_n (n := 4) dX11_comesOut_119 rfl rfl ?_
            refine V.iload (n := 6) dX11_comesOut_120 rfl rfl ?_
            refine V.iadd dX11_comesOut_122 rfl ?_
            refine V.iald dX11_comesOut_123 rfl h (fun x34 h => ?_)
            exact V.sub [1, 2, 3, 4, 5, 6] rfl (lab_X11_comesOut_124 ih h)
          · refine V.iload_n (n := 3) dX11_comesOut_111 rfl rfl ?_
            refine V.goto (q := 124) dX11_comesOut_112 (by decide) ?_
            exact V.sub [1, 2, 3, 4, 5, 6] rfl (lab_X11_comesOut_124 ih h)
      · refine V.aload_n (n := 1) dX11_comesOut_69 rfl rfl ?_
        refine V.getR dX11_comesOut_70 lkX11_133 rfl rfl h (fun x35 h => ?_)
        refine V.iload (n := 5) dX11_comesOut_73 rfl rfl ?_
        refine V.aload_n (n := 1) dX11_comesOut_75 rfl rfl ?_
        refine V.getR dX11_comesOut_76 lkX11_103 rfl rfl h (fun x36 h => ?_)
        refine V.iload_n (n := 4) dX11_comesOut_79 rfl rfl ?_
        refine V.iload (n := 6) dX11_comesOut_80 rfl rfl ?_
        refine V.iadd dX11_comesOut_82 rfl ?_
        refine V.lald dX11_comesOut_83 rfl h (fun x37 h => ?_)
        refine V.last dX11_comesOut_84 rfl h (fun M38 h => ?_)
        refine V.iinc (n := 5) (x := v4 + 1) dX11_comesOut_85 rfl (by rfl) (by decide) rfl rfl ?_
        refine V.goto (q := 333) dX11_comesOut_88 (by decide) ?_
        exact V.sub [2, 3, 4, 5, 0, 6] rfl (lab_X11_comesOut_333 ih h)
def L_X11_comesOut (v0 : Option Nat) (v1 : Int32) (M : Mem) : Option (Int32 × Mem) :=
  if (8 : Int32) = 0 then none else
  (fI M 11 63 v0).bind fun x39 =>
  (fR M 11 41 v0).bind fun x40 =>
  if (8 : Int32) = 0 then none else
  (aI M 20 x40 (((8 : Int32) * ((30 : Int32) + (v1 / (8 : Int32)))) + (v1 - v1 / (8 : Int32) * (8 : Int32)))).bind fun x41 =>
  J_X11_comesOut_39 FU v0 v1 (v1 / (8 : Int32)) ((1200 : Int32) * ((30 : Int32) + (v1 / (8 : Int32)))) x39 x41 M
set_option maxRecDepth 20000 in
set_option maxHeartbeats 4000000 in
theorem lift_X11_comesOut {G : Gt} {M M9 : Mem} {x9 : Int32} {v0 : Option Nat} {v1 : Int32} (h : L_X11_comesOut v0 v1 M = some (x9, M9)) : Mt G mX11_comesOut 1 [vR v0, vI v1] M (some (vI x9)) M9 := by
  unfold L_X11_comesOut at h
  refine Mt.of (by decide +kernel) (Nat.le_of_ble_eq_true rfl) ?_
  have hh : V G mX11_comesOut 1 M (some (vI x9)) M9 M 0 [(0, vR v0), (1, vI v1)] [] := by
    refine V.iload_n (n := 1) dX11_comesOut_0 rfl rfl ?_
    refine V.bipush (x := 8) dX11_comesOut_1 (by decide) rfl ?_
    refine V.idiv dX11_comesOut_3 h rfl (fun h => ?_)
    refine V.istore_n dX11_comesOut_4 rfl (by decide) rfl rfl ?_
    refine V.sipush (x := 1200) dX11_comesOut_5 (by decide) rfl ?_
    refine V.bipush (x := 30) dX11_comesOut_8 (by decide) rfl ?_
    refine V.iload_n (n := 0) dX11_comesOut_10 rfl rfl ?_
    refine V.iadd dX11_comesOut_11 rfl ?_
    refine V.imul dX11_comesOut_12 rfl ?_
    refine V.istore_n dX11_comesOut_13 rfl (by decide) rfl rfl ?_
    refine V.aload_n (n := 2) dX11_comesOut_14 rfl rfl ?_
    refine V.getI dX11_comesOut_15 lkX11_379 rfl rfl h (fun x39 h => ?_)
    refine V.istore dX11_comesOut_18 (by decide) rfl rfl ?_
    refine V.aload_n (n := 3) dX11_comesOut_20 rfl rfl ?_
    refine V.getR dX11_comesOut_21 lkX11_72 rfl rfl h (fun x40 h => ?_)
    refine V.bipush (x := 8) dX11_comesOut_24 (by decide) rfl ?_
    refine V.bipush (x := 30) dX11_comesOut_26 (by decide) rfl ?_
    refine V.iload_n (n := 2) dX11_comesOut_28 rfl rfl ?_
    refine V.iadd dX11_comesOut_29 rfl ?_
    refine V.imul dX11_comesOut_30 rfl ?_
    refine V.iload_n (n := 4) dX11_comesOut_31 rfl rfl ?_
    refine V.bipush (x := 8) dX11_comesOut_32 (by decide) rfl ?_
    refine V.irem dX11_comesOut_34 h rfl (fun h => ?_)
    refine V.iadd dX11_comesOut_35 rfl ?_
    refine V.iald dX11_comesOut_36 rfl h (fun x41 h => ?_)
    refine V.istore dX11_comesOut_37 (by decide) rfl rfl ?_
    exact V.sub [4, 5, 3, 2, 1, 0] rfl (lab_X11_comesOut_39 FU _ _ _ _ _ _ _ h)
  exact hh
def J_X11_worksConstants_134 (k_44 : Option Nat → Int32 → Mem → Option (Unit × Mem)) (k_52 : Option Nat → Int32 → Int32 → Mem → Option (Unit × Mem)) (v0 : Option Nat) (v1 : Int32) (v2 : Int32) (M : Mem) : Option (Unit × Mem) :=
  k_52 v0 v1 (v2 + 1) M
set_option maxRecDepth 20000 in
set_option maxHeartbeats 4000000 in
theorem lab_X11_worksConstants_134 {G : Gt} {M0 M9 : Mem} {x9 : Unit} {k_44 : Option Nat → Int32 → Mem → Option (Unit × Mem)} {k_52 : Option Nat → Int32 → Int32 → Mem → Option (Unit × Mem)} (hk_44 : ∀ (v0 : Option Nat) (v1 : Int32) (Ma : Mem), k_44 v0 v1 Ma = some (x9, M9) → V G mX11_worksConstants 2 M0 none M9 Ma 44 [(0, vR v0), (1, vI v1)] []) (hk_52 : ∀ (v0 : Option Nat) (v1 : Int32) (v2 : Int32) (Ma : Mem), k_52 v0 v1 v2 Ma = some (x9, M9) → V G mX11_worksConstants 2 M0 none M9 Ma 52 [(0, vR v0), (1, vI v1), (2, vI v2)] []) {v0 : Option Nat} {v1 : Int32} {v2 : Int32} {M : Mem} (h : J_X11_worksConstants_134 k_44 k_52 v0 v1 v2 M = some (x9, M9)) : V G mX11_worksConstants 2 M0 none M9 M 134 [(0, vR v0), (1, vI v1), (2, vI v2)] [] := by
  unfold J_X11_worksConstants_134 at h
  refine V.iinc (n := 2) (x := v2 + 1) dX11_worksConstants_134 rfl (by rfl) (by decide) rfl rfl ?_
  refine V.goto (q := 52) dX11_worksConstants_137 (by decide) ?_
  exact V.sub [1, 2, 0] rfl (hk_52 _ _ _ _ h)
def J_X11_worksConstants_133 (k_44 : Option Nat → Int32 → Mem → Option (Unit × Mem)) (k_52 : Option Nat → Int32 → Int32 → Mem → Option (Unit × Mem)) (v0 : Option Nat) (v2 : Int32) (s0 : Int32) (M : Mem) : Option (Unit × Mem) :=
  J_X11_worksConstants_134 k_44 k_52 v0 s0 v2 M
set_option maxRecDepth 20000 in
set_option maxHeartbeats 4000000 in
theorem lab_X11_worksConstants_133 {G : Gt} {M0 M9 : Mem} {x9 : Unit} {k_44 : Option Nat → Int32 → Mem → Option (Unit × Mem)} {k_52 : Option Nat → Int32 → Int32 → Mem → Option (Unit × Mem)} (hk_44 : ∀ (v0 : Option Nat) (v1 : Int32) (Ma : Mem), k_44 v0 v1 Ma = some (x9, M9) → V G mX11_worksConstants 2 M0 none M9 Ma 44 [(0, vR v0), (1, vI v1)] []) (hk_52 : ∀ (v0 : Option Nat) (v1 : Int32) (v2 : Int32) (Ma : Mem), k_52 v0 v1 v2 Ma = some (x9, M9) → V G mX11_worksConstants 2 M0 none M9 Ma 52 [(0, vR v0), (1, vI v1), (2, vI v2)] []) {v0 : Option Nat} {v2 : Int32} {s0 : Int32} {M : Mem} (h : J_X11_worksConstants_133 k_44 k_52 v0 v2 s0 M = some (x9, M9)) : V G mX11_worksConstants 2 M0 none M9 M 133 [(0, vR v0), (2, vI v2)] [vI s0] := by
  unfold J_X11_worksConstants_133 at h
  refine V.istore_n dX11_worksConstants_133 rfl (by decide) rfl rfl ?_
  exact V.sub [1, 0, 2] rfl (lab_X11_worksConstants_134 hk_44 hk_52 h)
def J_X11_worksConstants_128 (k_44 : Option Nat → Int32 → Mem → Option (Unit × Mem)) (k_52 : Option Nat → Int32 → Int32 → Mem → Option (Unit × Mem)) (v0 : Option Nat) (v2 : Int32) (M : Mem) : Option (Unit × Mem) :=
  J_X11_worksConstants_133 k_44 k_52 v0 v2 (1 : Int32) M
set_option maxRecDepth 20000 in
set_option maxHeartbeats 4000000 in
theorem lab_X11_worksConstants_128 {G : Gt} {M0 M9 : Mem} {x9 : Unit} {k_44 : Option Nat → Int32 → Mem → Option (Unit × Mem)} {k_52 : Option Nat → Int32 → Int32 → Mem → Option (Unit × Mem)} (hk_44 : ∀ (v0 : Option Nat) (v1 : Int32) (Ma : Mem), k_44 v0 v1 Ma = some (x9, M9) → V G mX11_worksConstants 2 M0 none M9 Ma 44 [(0, vR v0), (1, vI v1)] []) (hk_52 : ∀ (v0 : Option Nat) (v1 : Int32) (v2 : Int32) (Ma : Mem), k_52 v0 v1 v2 Ma = some (x9, M9) → V G mX11_worksConstants 2 M0 none M9 Ma 52 [(0, vR v0), (1, vI v1), (2, vI v2)] []) {v0 : Option Nat} {v2 : Int32} {M : Mem} (h : J_X11_worksConstants_128 k_44 k_52 v0 v2 M = some (x9, M9)) : V G mX11_worksConstants 2 M0 none M9 M 128 [(0, vR v0), (2, vI v2)] [] := by
  unfold J_X11_worksConstants_128 at h
  refine V.iconst (x := 1) dX11_worksConstants_128 (by decide) rfl ?_
  refine V.goto (q := 133) dX11_worksConstants_129 (by decide) ?_
  exact (lab_X11_worksConstants_133 hk_44 hk_52 h)
def J_X11_worksConstants_52 (k_44 : Option Nat → Int32 → Mem → Option (Unit × Mem)) : Nat → Option Nat → Int32 → Int32 → Mem → Option (Unit × Mem)
  | 0 => fun _ _ _ _ => none
  | n + 1 => fun v0 v1 v2 M =>
  if (240 : Int32) ≤ v2 then
  (k_44 v0 v1 M)
  else
  (if (8 : Int32) = 0 then none else
  (fR M 11 60 v0).bind fun x1 =>
  (aI M 24 x1 v2).bind fun x2 =>
  if ¬ x2 = 0 then
  (J_X11_worksConstants_134 k_44 (J_X11_worksConstants_52 k_44 n) v0 v1 v2 M)
  else
  ((fR M 11 36 v0).bind fun x3 =>
  (aI M 24 x3 ((30 : Int32) + (v2 / (8 : Int32)))).bind fun x4 =>
  if x4 = 0 then
  (J_X11_worksConstants_134 k_44 (J_X11_worksConstants_52 k_44 n) v0 v1 v2 M)
  else
  (if (8 : Int32) = 0 then none else
  (fR M 11 39 v0).bind fun x5 =>
  (aI M 20 x5 ((30 : Int32) + (v2 / (8 : Int32)))).bind fun x6 =>
  if (v2 - v2 / (8 : Int32) * (8 : Int32)) < x6 then
  ((fR M 11 60 v0).bind fun x7 =>
  (ck M 11 v0).bind fun _ => (L_X11_comesOut v0 v2 M).bind fun w8 =>
  (uN w8.2 24 x7 v2 w8.1).bind fun M9 =>
  if ¬ v1 = 0 then
  (J_X11_worksConstants_128 k_44 (J_X11_worksConstants_52 k_44 n) v0 v2 M9)
  else
  ((fR M9 11 60 v0).bind fun x10 =>
  (aI M9 24 x10 v2).bind fun x11 =>
  if x11 = 0 then
  (J_X11_worksConstants_133 k_44 (J_X11_worksConstants_52 k_44 n) v0 v2 (0 : Int32) M9)
  else
  (J_X11_worksConstants_128 k_44 (J_X11_worksConstants_52 k_44 n) v0 v2 M9)))
  else
  (J_X11_worksConstants_134 k_44 (J_X11_worksConstants_52 k_44 n) v0 v1 v2 M))))
set_option maxRecDepth 20000 in
set_option maxHeartbeats 4000000 in
theorem lab_X11_worksConstants_52 {G : Gt} {M0 M9 : Mem} {x9 : Unit} {k_44 : Option Nat → Int32 → Mem → Option (Unit × Mem)} (hk_44 : ∀ (v0 : Option Nat) (v1 : Int32) (Ma : Mem), k_44 v0 v1 Ma = some (x9, M9) → V G mX11_worksConstants 2 M0 none M9 Ma 44 [(0, vR v0), (1, vI v1)] []) : ∀ (n : Nat) (v0 : Option Nat) (v1 : Int32) (v2 : Int32) (M : Mem), J_X11_worksConstants_52 k_44 n v0 v1 v2 M = some (x9, M9) → V G mX11_worksConstants 2 M0 none M9 M 52 [(0, vR v0), (1, vI v1), (2, vI v2)] [] := by
  intro n
  induction n with
  | zero => intro v0 v1 v2 M h; exact nomatch h
  | succ n ih =>
    intro v0 v1 v2 M h
    unfold J_X11_worksConstants_52 at h
    refine V.iload_n (n := 2) dX11_worksConstants_52 rfl rfl ?_
    refine V.sipush (x := 240) dX11_worksConstants_53 (by decide) rfl ?_
    refine V.icmp_ge (q := 140) dX11_worksConstants_56 (by decide) rfl h (fun h => ?_) (fun h => ?_)
    · refine V.goto (q := 44) dX11_worksConstants_140 (by decide) ?_
      exact V.sub [0, 1] rfl (hk_44 _ _ _ h)
    · refine V.iload_n (n := 2) dX11_worksConstants_59 rfl rfl ?_
      refine V.bipush (x := 8) dX11_worksConstants_60 (by decide) rfl ?_
      refine V.idiv dX11_worksConstants_62 h rfl (fun h => ?_)
      refine V.istore_n dX11_worksConstants_63 rfl (by decide) rfl rfl ?_
      refine V.aload_n (n := 1) dX11_worksConstants_64 rfl rfl ?_
      refine V.getR dX11_worksConstants_65 lkX11_127 rfl rfl h (fun x1 h => ?_)
      refine V.iload_n (n := 3) dX11_worksConstants_68 rfl rfl ?_
      refine V.zald dX11_worksConstants_69 rfl h (fun x2 h => ?_)
      refine V.if_ne (q := 134) dX11_worksConstants_70 (by decide) rfl h (fun h => ?_) (fun h => ?_)
      · exact V.sub [1, 2, 3] rfl (lab_X11_worksConstants_134 hk_44 ih h)
      · refine V.aload_n (n := 1) dX11_worksConstants_73 rfl rfl ?_
        refine V.getR dX11_worksConstants_74 lkX11_56 rfl rfl h (fun x3 h => ?_)
        refine V.bipush (x := 30) dX11_worksConstants_77 (by decide) rfl ?_
        refine V.iload_n (n := 0) dX11_worksConstants_79 rfl rfl ?_
        refine V.iadd dX11_worksConstants_80 rfl ?_
        refine V.zald dX11_worksConstants_81 rfl h (fun x4 h => ?_)
        refine V.if_eq (q := 134) dX11_worksConstants_82 (by decide) rfl h (fun h => ?_) (fun h => ?_)
        · exact V.sub [1, 2, 3] rfl (lab_X11_worksConstants_134 hk_44 ih h)
        · refine V.iload_n (n := 3) dX11_worksConstants_85 rfl rfl ?_
          refine V.bipush (x := 8) dX11_worksConstants_86 (by decide) rfl ?_
          refine V.irem dX11_worksConstants_88 h rfl (fun h => ?_)
          refine V.aload_n (n := 1) dX11_worksConstants_89 rfl rfl ?_
          refine V.getR dX11_worksConstants_90 lkX11_66 rfl rfl h (fun x5 h => ?_)
          refine V.bipush (x := 30) dX11_worksConstants_93 (by decide) rfl ?_
          refine V.iload_n (n := 0) dX11_worksConstants_95 rfl rfl ?_
          refine V.iadd dX11_worksConstants_96 rfl ?_
          refine V.iald dX11_worksConstants_97 rfl h (fun x6 h => ?_)
          refine V.icmp_lt (q := 104) dX11_worksConstants_98 (by decide) rfl h (fun h => ?_) (fun h => ?_)
          · refine V.aload_n (n := 1) dX11_worksConstants_104 rfl rfl ?_
            refine V.getR dX11_worksConstants_105 lkX11_127 rfl rfl h (fun x7 h => ?_)
            refine V.iload_n (n := 3) dX11_worksConstants_108 rfl rfl ?_
            refine V.aload_n (n := 1) dX11_worksConstants_109 rfl rfl ?_
            refine V.iload_n (n := 3) dX11_worksConstants_110 rfl rfl ?_
            refine V.callVi (d' := 1) (as := [vI v2]) (st := [vI v2, vR x7]) dX11_worksConstants_111 meX11_comesOut mlX11_389 imX11_comesOut seX11_comesOut clsX11 rfl (by omega) (Nat.le_of_ble_eq_true rfl) rfl rfl h (fun v hv => lift_X11_comesOut hv) (fun w8 h => ?_)
            refine V.zast dX11_worksConstants_114 rfl h (fun M9 h => ?_)
            refine V.iload_n (n := 2) dX11_worksConstants_115 rfl rfl ?_
            refine V.if_ne (q := 128) dX11_worksConstants_116 (by decide) rfl h (fun h => ?_) (fun h => ?_)
            · exact V.sub [1, 3] rfl (lab_X11_worksConstants_128 hk_44 ih h)
            · refine V.aload_n (n := 1) dX11_worksConstants_119 rfl rfl ?_
              refine V.getR dX11_worksConstants_120 lkX11_127 rfl rfl h (fun x10 h => ?_)
              refine V.iload_n (n := 3) dX11_worksConstants_123 rfl rfl ?_
              refine V.zald dX11_worksConstants_124 rfl h (fun x11 h => ?_)
              refine V.if_eq (q := 132) dX11_worksConstants_125 (by decide) rfl h (fun h => ?_) (fun h => ?_)
              · refine V.iconst (x := 0) dX11_worksConstants_132 (by decide) rfl ?_
                exact V.sub [1, 3] rfl (lab_X11_worksConstants_133 hk_44 ih h)
              · exact V.sub [1, 3] rfl (lab_X11_worksConstants_128 hk_44 ih h)
          · refine V.goto (q := 134) dX11_worksConstants_101 (by decide) ?_
            exact V.sub [1, 2, 3] rfl (lab_X11_worksConstants_134 hk_44 ih h)
def J_X11_worksConstants_44 : Nat → Option Nat → Int32 → Mem → Option (Unit × Mem)
  | 0 => fun _ _ _ => none
  | n + 1 => fun v0 v1 M =>
  if v1 = 0 then
  (some ((), M))
  else
  (J_X11_worksConstants_52 (J_X11_worksConstants_44 n) FU v0 (0 : Int32) (0 : Int32) M)
set_option maxRecDepth 20000 in
set_option maxHeartbeats 4000000 in
theorem lab_X11_worksConstants_44 {G : Gt} {M0 M9 : Mem} {x9 : Unit} : ∀ (n : Nat) (v0 : Option Nat) (v1 : Int32) (M : Mem), J_X11_worksConstants_44 n v0 v1 M = some (x9, M9) → V G mX11_worksConstants 2 M0 none M9 M 44 [(0, vR v0), (1, vI v1)] [] := by
  intro n
  induction n with
  | zero => intro v0 v1 M h; exact nomatch h
  | succ n ih =>
    intro v0 v1 M h
    unfold J_X11_worksConstants_44 at h
    refine V.iload_n (n := 1) dX11_worksConstants_44 rfl rfl ?_
    refine V.if_eq (q := 143) dX11_worksConstants_45 (by decide) rfl h (fun h => ?_) (fun h => ?_)
    · exact V.vret dX11_worksConstants_143 rfl h
    · refine V.iconst (x := 0) dX11_worksConstants_48 (by decide) rfl ?_
      refine V.istore_n dX11_worksConstants_49 rfl (by decide) rfl rfl ?_
      refine V.iconst (x := 0) dX11_worksConstants_50 (by decide) rfl ?_
      refine V.istore_n dX11_worksConstants_51 rfl (by decide) rfl rfl ?_
      exact V.sub [2, 1, 0] rfl (lab_X11_worksConstants_52 ih FU _ _ _ _ h)
def J_X11_worksConstants_22 : Nat → Option Nat → Int32 → Mem → Option (Unit × Mem)
  | 0 => fun _ _ _ => none
  | n + 1 => fun v0 v1 M =>
  if (240 : Int32) ≤ v1 then
  (J_X11_worksConstants_44 FU v0 (1 : Int32) M)
  else
  ((fR M 11 60 v0).bind fun x12 =>
  (uN M 24 x12 v1 (0 : Int32)).bind fun M13 =>
  J_X11_worksConstants_22 n v0 (v1 + 1) M13)
set_option maxRecDepth 20000 in
set_option maxHeartbeats 4000000 in
theorem lab_X11_worksConstants_22 {G : Gt} {M0 M9 : Mem} {x9 : Unit} : ∀ (n : Nat) (v0 : Option Nat) (v1 : Int32) (M : Mem), J_X11_worksConstants_22 n v0 v1 M = some (x9, M9) → V G mX11_worksConstants 2 M0 none M9 M 22 [(0, vR v0), (1, vI v1)] [] := by
  intro n
  induction n with
  | zero => intro v0 v1 M h; exact nomatch h
  | succ n ih =>
    intro v0 v1 M h
    unfold J_X11_worksConstants_22 at h
    refine V.iload_n (n := 1) dX11_worksConstants_22 rfl rfl ?_
    refine V.sipush (x := 240) dX11_worksConstants_23 (by decide) rfl ?_
    refine V.icmp_ge (q := 42) dX11_worksConstants_26 (by decide) rfl h (fun h => ?_) (fun h => ?_)
    · refine V.iconst (x := 1) dX11_worksConstants_42 (by decide) rfl ?_
      refine V.istore_n dX11_worksConstants_43 rfl (by decide) rfl rfl ?_
      exact V.sub [1, 0] rfl (lab_X11_worksConstants_44 FU _ _ _ h)
    · refine V.aload_n (n := 0) dX11_worksConstants_29 rfl rfl ?_
      refine V.getR dX11_worksConstants_30 lkX11_127 rfl rfl h (fun x12 h => ?_)
      refine V.iload_n (n := 1) dX11_worksConstants_33 rfl rfl ?_
      refine V.iconst (x := 0) dX11_worksConstants_34 (by decide) rfl ?_
      refine V.zast dX11_worksConstants_35 rfl h (fun M13 h => ?_)
      refine V.iinc (n := 1) (x := v1 + 1) dX11_worksConstants_36 rfl (by rfl) (by decide) rfl rfl ?_
      refine V.goto (q := 22) dX11_worksConstants_39 (by decide) ?_
      exact V.sub [1, 0] rfl (ih _ _ _ h)
def L_X11_worksConstants (v0 : Option Nat) (M : Mem) : Option (Unit × Mem) :=
  (fI M 11 64 v0).bind fun x14 =>
  (fI M 11 59 v0).bind fun x15 =>
  if ¬ x14 = x15 then
  ((fI M 11 59 v0).bind fun x16 =>
  (pI M 11 64 v0 x16).bind fun M17 =>
  J_X11_worksConstants_22 FU v0 (0 : Int32) M17)
  else
  (some ((), M))
set_option maxRecDepth 20000 in
set_option maxHeartbeats 4000000 in
theorem lift_X11_worksConstants {G : Gt} {M M9 : Mem} {x9 : Unit} {v0 : Option Nat} (h : L_X11_worksConstants v0 M = some (x9, M9)) : Mt G mX11_worksConstants 2 [vR v0] M none M9 := by
  unfold L_X11_worksConstants at h
  refine Mt.of (by decide +kernel) (Nat.le_of_ble_eq_true rfl) ?_
  have hh : V G mX11_worksConstants 2 M none M9 M 0 [(0, vR v0)] [] := by
    refine V.aload_n (n := 0) dX11_worksConstants_0 rfl rfl ?_
    refine V.getI dX11_worksConstants_1 lkX11_136 rfl rfl h (fun x14 h => ?_)
    refine V.aload_n (n := 0) dX11_worksConstants_4 rfl rfl ?_
    refine V.getI dX11_worksConstants_5 lkX11_369 rfl rfl h (fun x15 h => ?_)
    refine V.icmp_ne (q := 12) dX11_worksConstants_8 (by decide) rfl h (fun h => ?_) (fun h => ?_)
    · refine V.aload_n (n := 0) dX11_worksConstants_12 rfl rfl ?_
      refine V.aload_n (n := 0) dX11_worksConstants_13 rfl rfl ?_
      refine V.getI dX11_worksConstants_14 lkX11_369 rfl rfl h (fun x16 h => ?_)
      refine V.putI dX11_worksConstants_17 lkX11_136 (Or.inl rfl) rfl rfl h (fun M17 h => ?_)
      refine V.iconst (x := 0) dX11_worksConstants_20 (by decide) rfl ?_
      refine V.istore_n dX11_worksConstants_21 rfl (by decide) rfl rfl ?_
      exact V.sub [1, 0] rfl (lab_X11_worksConstants_22 FU _ _ _ h)
    · exact V.vret dX11_worksConstants_11 rfl h
  exact hh
def L_X11_constant (v0 : Option Nat) (v1 : Int32) (v2 : Int32) (M : Mem) : Option (Int64 × Mem) :=
  (L_X11_isYear v1 M).bind fun w1 =>
  if w1.1 = 0 then
  (some ((-2000000000000000 : Int64), w1.2))
  else
  ((fR w1.2 11 36 v0).bind fun x2 =>
  (aI w1.2 24 x2 (((30 : Int32) + v1) - (1700 : Int32))).bind fun x3 =>
  if x3 = 0 then
  (some ((-2000000000000000 : Int64), w1.2))
  else
  ((fR w1.2 11 39 v0).bind fun x4 =>
  (aI w1.2 20 x4 (((30 : Int32) + v1) - (1700 : Int32))).bind fun x5 =>
  (L_X11_isIn v2 x5 w1.2).bind fun w6 =>
  if ¬ w6.1 = 0 then
  ((ck w6.2 11 v0).bind fun _ => (L_X11_worksConstants v0 w6.2).bind fun w7 =>
  (fR w7.2 11 60 v0).bind fun x8 =>
  (aI w7.2 24 x8 (((8 : Int32) * (v1 - (1700 : Int32))) + v2)).bind fun x9 =>
  if x9 = 0 then
  (some ((-2000000000000000 : Int64), w7.2))
  else
  ((fR w7.2 11 61 v0).bind fun x10 =>
  (aL w7.2 21 x10 (((8 : Int32) * (v1 - (1700 : Int32))) + v2)).bind fun x11 =>
  some (x11, w7.2)))
  else
  (some ((-2000000000000000 : Int64), w6.2))))
set_option maxRecDepth 20000 in
set_option maxHeartbeats 4000000 in
theorem lift_X11_constant {G : Gt} {M M9 : Mem} {x9 : Int64} {v0 : Option Nat} {v1 : Int32} {v2 : Int32} (h : L_X11_constant v0 v1 v2 M = some (x9, M9)) : Mt G mX11_constant 3 [vR v0, vI v1, vI v2] M (some (vL x9)) M9 := by
  unfold L_X11_constant at h
  refine Mt.of (by decide +kernel) (Nat.le_of_ble_eq_true rfl) ?_
  have hh : V G mX11_constant 3 M (some (vL x9)) M9 M 0 [(0, vR v0), (1, vI v1), (2, vI v2)] [] := by
    refine V.iload_n (n := 1) dX11_constant_0 rfl rfl ?_
    refine V.callSi (d' := 0) (as := [vI v1]) (st := []) dX11_constant_1 meX11_isYear mlX11_360 smX11_isYear rfl (by omega) (Nat.le_of_ble_eq_true rfl) rfl rfl h (fun v hv => lift_X11_isYear hv) (fun w1 h => ?_)
    refine V.if_eq (q := 43) dX11_constant_4 (by decide) rfl h (fun h => ?_) (fun h => ?_)
    · refine V.ldc2 (x := (-2000000000000000)) dX11_constant_43 clX11_396 rfl ?_
      exact V.lret dX11_constant_46 rfl h
    · refine V.aload_n (n := 0) dX11_constant_7 rfl rfl ?_
      refine V.getR dX11_constant_8 lkX11_56 rfl rfl h (fun x2 h => ?_)
      refine V.bipush (x := 30) dX11_constant_11 (by decide) rfl ?_
      refine V.iload_n (n := 1) dX11_constant_13 rfl rfl ?_
      refine V.iadd dX11_constant_14 rfl ?_
      refine V.sipush (x := 1700) dX11_constant_15 (by decide) rfl ?_
      refine V.isub dX11_constant_18 rfl ?_
      refine V.zald dX11_constant_19 rfl h (fun x3 h => ?_)
      refine V.if_eq (q := 43) dX11_constant_20 (by decide) rfl h (fun h => ?_) (fun h => ?_)
      · refine V.ldc2 (x := (-2000000000000000)) dX11_constant_43 clX11_396 rfl ?_
        exact V.lret dX11_constant_46 rfl h
      · refine V.iload_n (n := 2) dX11_constant_23 rfl rfl ?_
        refine V.aload_n (n := 0) dX11_constant_24 rfl rfl ?_
        refine V.getR dX11_constant_25 lkX11_66 rfl rfl h (fun x4 h => ?_)
        refine V.bipush (x := 30) dX11_constant_28 (by decide) rfl ?_
        refine V.iload_n (n := 1) dX11_constant_30 rfl rfl ?_
        refine V.iadd dX11_constant_31 rfl ?_
        refine V.sipush (x := 1700) dX11_constant_32 (by decide) rfl ?_
        refine V.isub dX11_constant_35 rfl ?_
        refine V.iald dX11_constant_36 rfl h (fun x5 h => ?_)
        refine V.callSi (d' := 0) (as := [vI v2, vI x5]) (st := []) dX11_constant_37 meX11_isIn mlX11_392 smX11_isIn rfl (by omega) (Nat.le_of_ble_eq_true rfl) rfl rfl h (fun v hv => lift_X11_isIn hv) (fun w6 h => ?_)
        refine V.if_ne (q := 47) dX11_constant_40 (by decide) rfl h (fun h => ?_) (fun h => ?_)
        · refine V.aload_n (n := 0) dX11_constant_47 rfl rfl ?_
          refine V.callVv (d' := 2) (as := []) (st := []) dX11_constant_48 meX11_worksConstants mlX11_398 imX11_worksConstants seX11_worksConstants clsX11 rfl (by omega) (Nat.le_of_ble_eq_true rfl) rfl rfl h (fun v hv => lift_X11_worksConstants hv) (fun w7 h => ?_)
          refine V.bipush (x := 8) dX11_constant_51 (by decide) rfl ?_
          refine V.iload_n (n := 1) dX11_constant_53 rfl rfl ?_
          refine V.sipush (x := 1700) dX11_constant_54 (by decide) rfl ?_
          refine V.isub dX11_constant_57 rfl ?_
          refine V.imul dX11_constant_58 rfl ?_
          refine V.iload_n (n := 2) dX11_constant_59 rfl rfl ?_
          refine V.iadd dX11_constant_60 rfl ?_
          refine V.istore_n dX11_constant_61 rfl (by decide) rfl rfl ?_
          refine V.aload_n (n := 1) dX11_constant_62 rfl rfl ?_
          refine V.getR dX11_constant_63 lkX11_127 rfl rfl h (fun x8 h => ?_)
          refine V.iload_n (n := 0) dX11_constant_66 rfl rfl ?_
          refine V.zald dX11_constant_67 rfl h (fun x9 h => ?_)
          refine V.if_eq (q := 80) dX11_constant_68 (by decide) rfl h (fun h => ?_) (fun h => ?_)
          · refine V.ldc2 (x := (-2000000000000000)) dX11_constant_80 clX11_396 rfl ?_
            exact V.lret dX11_constant_83 rfl h
          · refine V.aload_n (n := 1) dX11_constant_71 rfl rfl ?_
            refine V.getR dX11_constant_72 lkX11_130 rfl rfl h (fun x10 h => ?_)
            refine V.iload_n (n := 0) dX11_constant_75 rfl rfl ?_
            refine V.lald dX11_constant_76 rfl h (fun x11 h => ?_)
            refine V.goto (q := 83) dX11_constant_77 (by decide) ?_
            exact V.lret dX11_constant_83 rfl h
        · refine V.ldc2 (x := (-2000000000000000)) dX11_constant_43 clX11_396 rfl ?_
          exact V.lret dX11_constant_46 rfl h
  exact hh
def L_X11_entry (v0 : Option Nat) (v1 : Int32) (v2 : Int32) (v3 : Int32) (M : Mem) : Option (Int64 × Mem) :=
  (L_X11_isYear v1 M).bind fun w1 =>
  if w1.1 = 0 then
  (some ((-2000000000000000 : Int64), w1.2))
  else
  ((fR w1.2 11 36 v0).bind fun x2 =>
  (aI w1.2 24 x2 (((30 : Int32) + v1) - (1700 : Int32))).bind fun x3 =>
  if ¬ x3 = 0 then
  ((fR w1.2 11 42 v0).bind fun x4 =>
  (aI w1.2 20 x4 (((30 : Int32) + v1) - (1700 : Int32))).bind fun x5 =>
  (L_X11_isIn v2 x5 w1.2).bind fun w6 =>
  if w6.1 = 0 then
  (some ((-2000000000000000 : Int64), w6.2))
  else
  ((fR w6.2 11 44 v0).bind fun x7 =>
  (aI w6.2 20 x7 (((6 : Int32) * (((30 : Int32) + v1) - (1700 : Int32))) + v2)).bind fun x8 =>
  (L_X11_isIn v3 x8 w6.2).bind fun w9 =>
  if ¬ w9.1 = 0 then
  ((fR w9.2 11 58 v0).bind fun x10 =>
  (aL w9.2 21 x10 ((((72 : Int32) * (v1 - (1700 : Int32))) + ((12 : Int32) * v2)) + v3)).bind fun x11 =>
  some (x11, w9.2))
  else
  (some ((-2000000000000000 : Int64), w9.2))))
  else
  (some ((-2000000000000000 : Int64), w1.2)))
set_option maxRecDepth 20000 in
set_option maxHeartbeats 4000000 in
theorem lift_X11_entry {G : Gt} {M M9 : Mem} {x9 : Int64} {v0 : Option Nat} {v1 : Int32} {v2 : Int32} {v3 : Int32} (h : L_X11_entry v0 v1 v2 v3 M = some (x9, M9)) : Mt G mX11_entry 1 [vR v0, vI v1, vI v2, vI v3] M (some (vL x9)) M9 := by
  unfold L_X11_entry at h
  refine Mt.of (by decide +kernel) (Nat.le_of_ble_eq_true rfl) ?_
  have hh : V G mX11_entry 1 M (some (vL x9)) M9 M 0 [(0, vR v0), (1, vI v1), (2, vI v2), (3, vI v3)] [] := by
    refine V.iload_n (n := 1) dX11_entry_0 rfl rfl ?_
    refine V.callSi (d' := 0) (as := [vI v1]) (st := []) dX11_entry_1 meX11_isYear mlX11_360 smX11_isYear rfl (by omega) (Nat.le_of_ble_eq_true rfl) rfl rfl h (fun v hv => lift_X11_isYear hv) (fun w1 h => ?_)
    refine V.if_eq (q := 23) dX11_entry_4 (by decide) rfl h (fun h => ?_) (fun h => ?_)
    · refine V.ldc2 (x := (-2000000000000000)) dX11_entry_23 clX11_396 rfl ?_
      exact V.lret dX11_entry_26 rfl h
    · refine V.aload_n (n := 0) dX11_entry_7 rfl rfl ?_
      refine V.getR dX11_entry_8 lkX11_56 rfl rfl h (fun x2 h => ?_)
      refine V.bipush (x := 30) dX11_entry_11 (by decide) rfl ?_
      refine V.iload_n (n := 1) dX11_entry_13 rfl rfl ?_
      refine V.iadd dX11_entry_14 rfl ?_
      refine V.sipush (x := 1700) dX11_entry_15 (by decide) rfl ?_
      refine V.isub dX11_entry_18 rfl ?_
      refine V.zald dX11_entry_19 rfl h (fun x3 h => ?_)
      refine V.if_ne (q := 27) dX11_entry_20 (by decide) rfl h (fun h => ?_) (fun h => ?_)
      · refine V.bipush (x := 30) dX11_entry_27 (by decide) rfl ?_
        refine V.iload_n (n := 1) dX11_entry_29 rfl rfl ?_
        refine V.iadd dX11_entry_30 rfl ?_
        refine V.sipush (x := 1700) dX11_entry_31 (by decide) rfl ?_
        refine V.isub dX11_entry_34 rfl ?_
        refine V.istore dX11_entry_35 (by decide) rfl rfl ?_
        refine V.iload_n (n := 3) dX11_entry_37 rfl rfl ?_
        refine V.aload_n (n := 1) dX11_entry_38 rfl rfl ?_
        refine V.getR dX11_entry_39 lkX11_75 rfl rfl h (fun x4 h => ?_)
        refine V.iload (n := 0) dX11_entry_42 rfl rfl ?_
        refine V.iald dX11_entry_44 rfl h (fun x5 h => ?_)
        refine V.callSi (d' := 0) (as := [vI v2, vI x5]) (st := []) dX11_entry_45 meX11_isIn mlX11_392 smX11_isIn rfl (by omega) (Nat.le_of_ble_eq_true rfl) rfl rfl h (fun v hv => lift_X11_isIn hv) (fun w6 h => ?_)
        refine V.if_eq (q := 70) dX11_entry_48 (by decide) rfl h (fun h => ?_) (fun h => ?_)
        · refine V.ldc2 (x := (-2000000000000000)) dX11_entry_70 clX11_396 rfl ?_
          exact V.lret dX11_entry_73 rfl h
        · refine V.iload_n (n := 4) dX11_entry_51 rfl rfl ?_
          refine V.aload_n (n := 1) dX11_entry_52 rfl rfl ?_
          refine V.getR dX11_entry_53 lkX11_81 rfl rfl h (fun x7 h => ?_)
          refine V.bipush (x := 6) dX11_entry_56 (by decide) rfl ?_
          refine V.iload (n := 0) dX11_entry_58 rfl rfl ?_
          refine V.imul dX11_entry_60 rfl ?_
          refine V.iload_n (n := 3) dX11_entry_61 rfl rfl ?_
          refine V.iadd dX11_entry_62 rfl ?_
          refine V.iald dX11_entry_63 rfl h (fun x8 h => ?_)
          refine V.callSi (d' := 0) (as := [vI v3, vI x8]) (st := []) dX11_entry_64 meX11_isIn mlX11_392 smX11_isIn rfl (by omega) (Nat.le_of_ble_eq_true rfl) rfl rfl h (fun v hv => lift_X11_isIn hv) (fun w9 h => ?_)
          refine V.if_ne (q := 74) dX11_entry_67 (by decide) rfl h (fun h => ?_) (fun h => ?_)
          · refine V.aload_n (n := 1) dX11_entry_74 rfl rfl ?_
            refine V.getR dX11_entry_75 lkX11_124 rfl rfl h (fun x10 h => ?_)
            refine V.bipush (x := 72) dX11_entry_78 (by decide) rfl ?_
            refine V.iload_n (n := 2) dX11_entry_80 rfl rfl ?_
            refine V.sipush (x := 1700) dX11_entry_81 (by decide) rfl ?_
            refine V.isub dX11_entry_84 rfl ?_
            refine V.imul dX11_entry_85 rfl ?_
            refine V.bipush (x := 12) dX11_entry_86 (by decide) rfl ?_
            refine V.iload_n (n := 3) dX11_entry_88 rfl rfl ?_
            refine V.imul dX11_entry_89 rfl ?_
            refine V.iadd dX11_entry_90 rfl ?_
            refine V.iload_n (n := 4) dX11_entry_91 rfl rfl ?_
            refine V.iadd dX11_entry_92 rfl ?_
            refine V.lald dX11_entry_93 rfl h (fun x11 h => ?_)
            exact V.lret dX11_entry_94 rfl h
          · refine V.ldc2 (x := (-2000000000000000)) dX11_entry_70 clX11_396 rfl ?_
            exact V.lret dX11_entry_73 rfl h
      · refine V.ldc2 (x := (-2000000000000000)) dX11_entry_23 clX11_396 rfl ?_
        exact V.lret dX11_entry_26 rfl h
  exact hh
def L_X11_told (v0 : Option Nat) (v1 : Int32) (v2 : Int32) (M : Mem) : Option (Int64 × Mem) :=
  if v1 = 1 then
  (some (v2.toInt64, M))
  else
  if v1 = 2 then
  ((fI M 11 67 v0).bind fun x1 =>
  some (x1.toInt64, M))
  else
  if v1 = 3 then
  ((fI M 11 68 v0).bind fun x2 =>
  some (x2.toInt64, M))
  else
  if v1 = 4 then
  ((fI M 11 69 v0).bind fun x3 =>
  some (x3.toInt64, M))
  else
  ((fI M 11 70 v0).bind fun x4 =>
  some (x4.toInt64, M))
set_option maxRecDepth 20000 in
set_option maxHeartbeats 4000000 in
theorem lift_X11_told {G : Gt} {M M9 : Mem} {x9 : Int64} {v0 : Option Nat} {v1 : Int32} {v2 : Int32} (h : L_X11_told v0 v1 v2 M = some (x9, M9)) : Mt G mX11_told 0 [vR v0, vI v1, vI v2] M (some (vL x9)) M9 := by
  unfold L_X11_told at h
  refine Mt.of (by decide +kernel) (Nat.le_of_ble_eq_true rfl) ?_
  have hh : V G mX11_told 0 M (some (vL x9)) M9 M 0 [(0, vR v0), (1, vI v1), (2, vI v2)] [] := by
    refine V.iload_n (n := 1) dX11_told_0 rfl rfl ?_
    refine V.sw h (fun hx h => ?_) (fun n1 h => ?_)
    · refine V.swt hx ?_
      refine V.tableIn (q := 32) (x := 1) (off := 31) dX11_told_1 (by decide) (by decide) (by decide) (by decide) ?_
      refine V.iload_n (n := 2) dX11_told_32 rfl rfl ?_
      refine V.i2l dX11_told_33 rfl ?_
      exact V.lret dX11_told_34 rfl h
    refine V.sw h (fun hx h => ?_) (fun n2 h => ?_)
    · refine V.swt hx ?_
      refine V.tableIn (q := 35) (x := 2) (off := 34) dX11_told_1 (by decide) (by decide) (by decide) (by decide) ?_
      refine V.aload_n (n := 0) dX11_told_35 rfl rfl ?_
      refine V.getI dX11_told_36 lkX11_425 rfl rfl h (fun x1 h => ?_)
      refine V.i2l dX11_told_39 rfl ?_
      exact V.lret dX11_told_40 rfl h
    refine V.sw h (fun hx h => ?_) (fun n3 h => ?_)
    · refine V.swt hx ?_
      refine V.tableIn (q := 41) (x := 3) (off := 40) dX11_told_1 (by decide) (by decide) (by decide) (by decide) ?_
      refine V.aload_n (n := 0) dX11_told_41 rfl rfl ?_
      refine V.getI dX11_told_42 lkX11_428 rfl rfl h (fun x2 h => ?_)
      refine V.i2l dX11_told_45 rfl ?_
      exact V.lret dX11_told_46 rfl h
    refine V.sw h (fun hx h => ?_) (fun n4 h => ?_)
    · refine V.swt hx ?_
      refine V.tableIn (q := 47) (x := 4) (off := 46) dX11_told_1 (by decide) (by decide) (by decide) (by decide) ?_
      refine V.aload_n (n := 0) dX11_told_47 rfl rfl ?_
      refine V.getI dX11_told_48 lkX11_431 rfl rfl h (fun x3 h => ?_)
      refine V.i2l dX11_told_51 rfl ?_
      exact V.lret dX11_told_52 rfl h
    have e1 := sw_ne n1
    have e2 := sw_ne n2
    have e3 := sw_ne n3
    have e4 := sw_ne n4
    have t1 : (1 : Int32).toInt = 1 := by decide
    have t2 : (2 : Int32).toInt = 2 := by decide
    have t3 : (3 : Int32).toInt = 3 := by decide
    have t4 : (4 : Int32).toInt = 4 := by decide
    refine V.tableOut (q := 53) dX11_told_1 (by omega) (by decide) ?_
    refine V.aload_n (n := 0) dX11_told_53 rfl rfl ?_
    refine V.getI dX11_told_54 lkX11_434 rfl rfl h (fun x4 h => ?_)
    refine V.i2l dX11_told_57 rfl ?_
    exact V.lret dX11_told_58 rfl h
  exact hh
def J_X11_tableOf_41 (k_6 : Option Nat → Int64 → Int32 → Int32 → Mem → Option (Int32 × Mem)) : Nat → Option Nat → Int64 → Int32 → Int32 → Int32 → Int32 → Mem → Option (Int32 × Mem)
  | 0 => fun _ _ _ _ _ _ _ => none
  | n + 1 => fun v0 v2 v4 v5 v6 v7 M =>
  (fR M 11 42 v0).bind fun x1 =>
  (aI M 20 x1 v6).bind fun x2 =>
  if x2 ≤ v7 then
  ((fR M 11 37 v0).bind fun x3 =>
  (aI M 20 x3 v6).bind fun x4 =>
  k_6 v0 v2 x4 (v5 + 1) M)
  else
  ((fR M 11 43 v0).bind fun x5 =>
  (aL M 21 x5 (((6 : Int32) * v6) + v7)).bind fun x6 =>
  if ¬ x6 = v2 then
  (J_X11_tableOf_41 k_6 n v0 v2 v4 v5 v6 (v7 + 1) M)
  else
  (some (((6 : Int32) * v4) + v7, M)))
set_option maxRecDepth 20000 in
set_option maxHeartbeats 4000000 in
theorem lab_X11_tableOf_41 {G : Gt} {M0 M9 : Mem} {x9 : Int32} {k_6 : Option Nat → Int64 → Int32 → Int32 → Mem → Option (Int32 × Mem)} (hk_6 : ∀ (v0 : Option Nat) (v2 : Int64) (v4 : Int32) (v5 : Int32) (Ma : Mem), k_6 v0 v2 v4 v5 Ma = some (x9, M9) → V G mX11_tableOf 0 M0 (some (vI x9)) M9 Ma 6 [(0, vR v0), (2, vL v2), (4, vI v4), (5, vI v5)] []) : ∀ (n : Nat) (v0 : Option Nat) (v2 : Int64) (v4 : Int32) (v5 : Int32) (v6 : Int32) (v7 : Int32) (M : Mem), J_X11_tableOf_41 k_6 n v0 v2 v4 v5 v6 v7 M = some (x9, M9) → V G mX11_tableOf 0 M0 (some (vI x9)) M9 M 41 [(0, vR v0), (2, vL v2), (4, vI v4), (5, vI v5), (6, vI v6), (7, vI v7)] [] := by
  intro n
  induction n with
  | zero => intro v0 v2 v4 v5 v6 v7 M h; exact nomatch h
  | succ n ih =>
    intro v0 v2 v4 v5 v6 v7 M h
    unfold J_X11_tableOf_41 at h
    refine V.iload (n := 5) dX11_tableOf_41 rfl rfl ?_
    refine V.aload_n (n := 0) dX11_tableOf_43 rfl rfl ?_
    refine V.getR dX11_tableOf_44 lkX11_75 rfl rfl h (fun x1 h => ?_)
    refine V.iload (n := 4) dX11_tableOf_47 rfl rfl ?_
    refine V.iald dX11_tableOf_49 rfl h (fun x2 h => ?_)
    refine V.icmp_ge (q := 86) dX11_tableOf_50 (by decide) rfl h (fun h => ?_) (fun h => ?_)
    · refine V.aload_n (n := 0) dX11_tableOf_86 rfl rfl ?_
      refine V.getR dX11_tableOf_87 lkX11_60 rfl rfl h (fun x3 h => ?_)
      refine V.iload (n := 4) dX11_tableOf_90 rfl rfl ?_
      refine V.iald dX11_tableOf_92 rfl h (fun x4 h => ?_)
      refine V.istore dX11_tableOf_93 (by decide) rfl rfl ?_
      refine V.iinc (n := 3) (x := v5 + 1) dX11_tableOf_95 rfl (by rfl) (by decide) rfl rfl ?_
      refine V.goto (q := 6) dX11_tableOf_98 (by decide) ?_
      exact V.sub [2, 3, 1, 0] rfl (hk_6 _ _ _ _ _ h)
    · refine V.aload_n (n := 0) dX11_tableOf_53 rfl rfl ?_
      refine V.getR dX11_tableOf_54 lkX11_78 rfl rfl h (fun x5 h => ?_)
      refine V.bipush (x := 6) dX11_tableOf_57 (by decide) rfl ?_
      refine V.iload (n := 4) dX11_tableOf_59 rfl rfl ?_
      refine V.imul dX11_tableOf_61 rfl ?_
      refine V.iload (n := 5) dX11_tableOf_62 rfl rfl ?_
      refine V.iadd dX11_tableOf_64 rfl ?_
      refine V.lald dX11_tableOf_65 rfl h (fun x6 h => ?_)
      refine V.lload_n (n := 1) dX11_tableOf_66 rfl rfl ?_
      refine V.lif_ne (q := 80) dX11_tableOf_67 rfl dX11_tableOf_68 (by decide) rfl h (fun h => ?_) (fun h => ?_)
      · refine V.iinc (n := 5) (x := v7 + 1) dX11_tableOf_80 rfl (by rfl) (by decide) rfl rfl ?_
        refine V.goto (q := 41) dX11_tableOf_83 (by decide) ?_
        exact V.sub [1, 2, 3, 4, 5, 0] rfl (ih _ _ _ _ _ _ _ h)
      · refine V.bipush (x := 6) dX11_tableOf_71 (by decide) rfl ?_
        refine V.iload (n := 2) dX11_tableOf_73 rfl rfl ?_
        refine V.imul dX11_tableOf_75 rfl ?_
        refine V.iload (n := 5) dX11_tableOf_76 rfl rfl ?_
        refine V.iadd dX11_tableOf_78 rfl ?_
        exact V.iret dX11_tableOf_79 rfl h
def J_X11_tableOf_6 : Nat → Option Nat → Int64 → Int32 → Int32 → Mem → Option (Int32 × Mem)
  | 0 => fun _ _ _ _ _ => none
  | n + 1 => fun v0 v2 v4 v5 M =>
  if (30 : Int32) < v5 then
  (some ((-1 : Int32), M))
  else
  (if v4 < 0 then
  (some ((-1 : Int32), M))
  else
  ((fR M 11 36 v0).bind fun x7 =>
  (aI M 24 x7 ((30 : Int32) + v4)).bind fun x8 =>
  if x8 = 0 then
  (some ((-1 : Int32), M))
  else
  (J_X11_tableOf_41 (J_X11_tableOf_6 n) FU v0 v2 v4 v5 ((30 : Int32) + v4) (0 : Int32) M)))
set_option maxRecDepth 20000 in
set_option maxHeartbeats 4000000 in
theorem lab_X11_tableOf_6 {G : Gt} {M0 M9 : Mem} {x9 : Int32} : ∀ (n : Nat) (v0 : Option Nat) (v2 : Int64) (v4 : Int32) (v5 : Int32) (M : Mem), J_X11_tableOf_6 n v0 v2 v4 v5 M = some (x9, M9) → V G mX11_tableOf 0 M0 (some (vI x9)) M9 M 6 [(0, vR v0), (2, vL v2), (4, vI v4), (5, vI v5)] [] := by
  intro n
  induction n with
  | zero => intro v0 v2 v4 v5 M h; exact nomatch h
  | succ n ih =>
    intro v0 v2 v4 v5 M h
    unfold J_X11_tableOf_6 at h
    refine V.iload (n := 3) dX11_tableOf_6 rfl rfl ?_
    refine V.bipush (x := 30) dX11_tableOf_8 (by decide) rfl ?_
    refine V.icmp_gt (q := 101) dX11_tableOf_10 (by decide) rfl h (fun h => ?_) (fun h => ?_)
    · refine V.iconst (x := (-1)) dX11_tableOf_101 (by decide) rfl ?_
      exact V.iret dX11_tableOf_102 rfl h
    · refine V.iload (n := 2) dX11_tableOf_13 rfl rfl ?_
      refine V.if_lt (q := 101) dX11_tableOf_15 (by decide) rfl h (fun h => ?_) (fun h => ?_)
      · refine V.iconst (x := (-1)) dX11_tableOf_101 (by decide) rfl ?_
        exact V.iret dX11_tableOf_102 rfl h
      · refine V.aload_n (n := 0) dX11_tableOf_18 rfl rfl ?_
        refine V.getR dX11_tableOf_19 lkX11_56 rfl rfl h (fun x7 h => ?_)
        refine V.bipush (x := 30) dX11_tableOf_22 (by decide) rfl ?_
        refine V.iload (n := 2) dX11_tableOf_24 rfl rfl ?_
        refine V.iadd dX11_tableOf_26 rfl ?_
        refine V.zald dX11_tableOf_27 rfl h (fun x8 h => ?_)
        refine V.if_eq (q := 101) dX11_tableOf_28 (by decide) rfl h (fun h => ?_) (fun h => ?_)
        · refine V.iconst (x := (-1)) dX11_tableOf_101 (by decide) rfl ?_
          exact V.iret dX11_tableOf_102 rfl h
        · refine V.bipush (x := 30) dX11_tableOf_31 (by decide) rfl ?_
          refine V.iload (n := 2) dX11_tableOf_33 rfl rfl ?_
          refine V.iadd dX11_tableOf_35 rfl ?_
          refine V.istore dX11_tableOf_36 (by decide) rfl rfl ?_
          refine V.iconst (x := 0) dX11_tableOf_38 (by decide) rfl ?_
          refine V.istore dX11_tableOf_39 (by decide) rfl rfl ?_
          exact V.sub [2, 3, 4, 5, 1, 0] rfl (lab_X11_tableOf_41 ih FU _ _ _ _ _ _ _ h)
def L_X11_tableOf (v0 : Option Nat) (v1 : Int32) (v2 : Int64) (M : Mem) : Option (Int32 × Mem) :=
  J_X11_tableOf_6 FU v0 v2 v1 (0 : Int32) M
set_option maxRecDepth 20000 in
set_option maxHeartbeats 4000000 in
theorem lift_X11_tableOf {G : Gt} {M M9 : Mem} {x9 : Int32} {v0 : Option Nat} {v1 : Int32} {v2 : Int64} (h : L_X11_tableOf v0 v1 v2 M = some (x9, M9)) : Mt G mX11_tableOf 0 [vR v0, vI v1, vL v2] M (some (vI x9)) M9 := by
  unfold L_X11_tableOf at h
  refine Mt.of (by decide +kernel) (Nat.le_of_ble_eq_true rfl) ?_
  have hh : V G mX11_tableOf 0 M (some (vI x9)) M9 M 0 [(0, vR v0), (1, vI v1), (2, vL v2)] [] := by
    refine V.iload_n (n := 1) dX11_tableOf_0 rfl rfl ?_
    refine V.istore dX11_tableOf_1 (by decide) rfl rfl ?_
    refine V.iconst (x := 0) dX11_tableOf_3 (by decide) rfl ?_
    refine V.istore dX11_tableOf_4 (by decide) rfl rfl ?_
    exact V.sub [2, 4, 1, 0] rfl (lab_X11_tableOf_6 FU _ _ _ _ _ h)
  exact hh
def J_X11_looks_146 (rF : Option Nat → Int32 → Mem → Option (Int32 × Mem)) (v0 : Option Nat) (v5 : Int64) (v8 : Int32) (v9 : Int32) (M : Mem) : Option (Int32 × Mem) :=
  (fR M 11 58 v0).bind fun x1 =>
  if (6 : Int32) = 0 then none else
  (aL M 21 x1 ((((72 : Int32) * v9) + ((12 : Int32) * (v8 - v8 / (6 : Int32) * (6 : Int32)))) + v5.toInt32)).bind fun x2 =>
  (pL M 11 71 v0 x2).bind fun M3 =>
  some ((0 : Int32), M3)
set_option maxRecDepth 20000 in
set_option maxHeartbeats 4000000 in
theorem lab_X11_looks_146 {G : Gt} {M0 M9 : Mem} {x9 : Int32} {dr : Nat} {rF : Option Nat → Int32 → Mem → Option (Int32 × Mem)} (hrF : ∀ (a0 : Option Nat) (a1 : Int32) (Ma : Mem) (v : Int32 × Mem), rF a0 a1 Ma = some v → Mt G mX11_needs dr [vR a0, vI a1] Ma (some (vI v.1)) v.2) {v0 : Option Nat} {v5 : Int64} {v8 : Int32} {v9 : Int32} {M : Mem} (h : J_X11_looks_146 rF v0 v5 v8 v9 M = some (x9, M9)) : V G mX11_looks (dr + 1) M0 (some (vI x9)) M9 M 146 [(0, vR v0), (5, vL v5), (8, vI v8), (9, vI v9)] [] := by
  unfold J_X11_looks_146 at h
  refine V.aload_n (n := 0) dX11_looks_146 rfl rfl ?_
  refine V.aload_n (n := 0) dX11_looks_147 rfl rfl ?_
  refine V.getR dX11_looks_148 lkX11_124 rfl rfl h (fun x1 h => ?_)
  refine V.bipush (x := 72) dX11_looks_151 (by decide) rfl ?_
  refine V.iload (n := 3) dX11_looks_153 rfl rfl ?_
  refine V.imul dX11_looks_155 rfl ?_
  refine V.bipush (x := 12) dX11_looks_156 (by decide) rfl ?_
  refine V.iload (n := 2) dX11_looks_158 rfl rfl ?_
  refine V.bipush (x := 6) dX11_looks_160 (by decide) rfl ?_
  refine V.irem dX11_looks_162 h rfl (fun h => ?_)
  refine V.imul dX11_looks_163 rfl ?_
  refine V.iadd dX11_looks_164 rfl ?_
  refine V.lload (n := 1) dX11_looks_165 rfl rfl ?_
  refine V.l2i dX11_looks_167 rfl ?_
  refine V.iadd dX11_looks_168 rfl ?_
  refine V.lald dX11_looks_169 rfl h (fun x2 h => ?_)
  refine V.putL dX11_looks_170 lkX11_417 (Or.inl rfl) rfl rfl h (fun M3 h => ?_)
  refine V.iconst (x := 0) dX11_looks_173 (by decide) rfl ?_
  exact V.iret dX11_looks_174 rfl h
def J_X11_looks_71 (rF : Option Nat → Int32 → Mem → Option (Int32 × Mem)) (v0 : Option Nat) (v1 : Int32) (v5 : Int64) (v8 : Int32) (v9 : Int32) (s0 : Int32) (M : Mem) : Option (Int32 × Mem) :=
  if s0 = 0 then
  (if v5 < (0 : Int64) then
  (some ((805 : Int32), M))
  else
  ((fR M 11 44 v0).bind fun x4 =>
  if (6 : Int32) = 0 then none else
  (aI M 20 x4 (((6 : Int32) * ((30 : Int32) + v9)) + (v8 - v8 / (6 : Int32) * (6 : Int32)))).bind fun x5 =>
  if v5 < x5.toInt64 then
  ((fR M 11 54 v0).bind fun x6 =>
  (aI M 20 x6 v9).bind fun x7 =>
  if ¬ x7 = (4 : Int32) then
  (J_X11_looks_146 rF v0 v5 v8 v9 M)
  else
  (if v9 = v1 then
  (J_X11_looks_146 rF v0 v5 v8 v9 M)
  else
  ((fR M 11 57 v0).bind fun x8 =>
  (aI M 20 x8 v9).bind fun x9 =>
  (uI M 20 x8 v9 (x9 + (1 : Int32))).bind fun M10 =>
  J_X11_looks_146 rF v0 v5 v8 v9 M10)))
  else
  (some ((805 : Int32), M))))
  else
  (some (s0, M))
set_option maxRecDepth 20000 in
set_option maxHeartbeats 4000000 in
theorem lab_X11_looks_71 {G : Gt} {M0 M9 : Mem} {x9 : Int32} {dr : Nat} {rF : Option Nat → Int32 → Mem → Option (Int32 × Mem)} (hrF : ∀ (a0 : Option Nat) (a1 : Int32) (Ma : Mem) (v : Int32 × Mem), rF a0 a1 Ma = some v → Mt G mX11_needs dr [vR a0, vI a1] Ma (some (vI v.1)) v.2) {v0 : Option Nat} {v1 : Int32} {v5 : Int64} {v8 : Int32} {v9 : Int32} {s0 : Int32} {M : Mem} (h : J_X11_looks_71 rF v0 v1 v5 v8 v9 s0 M = some (x9, M9)) : V G mX11_looks (dr + 1) M0 (some (vI x9)) M9 M 71 [(0, vR v0), (1, vI v1), (5, vL v5), (8, vI v8), (9, vI v9)] [vI s0] := by
  unfold J_X11_looks_71 at h
  refine V.istore dX11_looks_71 (by decide) rfl rfl ?_
  refine V.iload (n := 0) dX11_looks_73 rfl rfl ?_
  refine V.if_eq (q := 81) dX11_looks_75 (by decide) rfl h (fun h => ?_) (fun h => ?_)
  · refine V.lload (n := 3) dX11_looks_81 rfl rfl ?_
    refine V.lconst (x := 0) dX11_looks_83 (by decide) rfl ?_
    refine V.lif_lt (q := 114) dX11_looks_84 rfl dX11_looks_85 (by decide) rfl h (fun h => ?_) (fun h => ?_)
    · refine V.sipush (x := 805) dX11_looks_114 (by decide) rfl ?_
      exact V.iret dX11_looks_117 rfl h
    · refine V.lload (n := 3) dX11_looks_88 rfl rfl ?_
      refine V.aload_n (n := 1) dX11_looks_90 rfl rfl ?_
      refine V.getR dX11_looks_91 lkX11_81 rfl rfl h (fun x4 h => ?_)
      refine V.bipush (x := 6) dX11_looks_94 (by decide) rfl ?_
      refine V.bipush (x := 30) dX11_looks_96 (by decide) rfl ?_
      refine V.iload (n := 5) dX11_looks_98 rfl rfl ?_
      refine V.iadd dX11_looks_100 rfl ?_
      refine V.imul dX11_looks_101 rfl ?_
      refine V.iload (n := 4) dX11_looks_102 rfl rfl ?_
      refine V.bipush (x := 6) dX11_looks_104 (by decide) rfl ?_
      refine V.irem dX11_looks_106 h rfl (fun h => ?_)
      refine V.iadd dX11_looks_107 rfl ?_
      refine V.iald dX11_looks_108 rfl h (fun x5 h => ?_)
      refine V.i2l dX11_looks_109 rfl ?_
      refine V.lif_lt (q := 118) dX11_looks_110 rfl dX11_looks_111 (by decide) rfl h (fun h => ?_) (fun h => ?_)
      · refine V.aload_n (n := 1) dX11_looks_118 rfl rfl ?_
        refine V.getR dX11_looks_119 lkX11_112 rfl rfl h (fun x6 h => ?_)
        refine V.iload (n := 5) dX11_looks_122 rfl rfl ?_
        refine V.iald dX11_looks_124 rfl h (fun x7 h => ?_)
        refine V.iconst (x := 4) dX11_looks_125 (by decide) rfl ?_
        refine V.icmp_ne (q := 146) dX11_looks_126 (by decide) rfl h (fun h => ?_) (fun h => ?_)
        · exact V.sub [1, 3, 4, 5] rfl (lab_X11_looks_146 hrF h)
        · refine V.iload (n := 5) dX11_looks_129 rfl rfl ?_
          refine V.iload_n (n := 2) dX11_looks_131 rfl rfl ?_
          refine V.icmp_eq (q := 146) dX11_looks_132 (by decide) rfl h (fun h => ?_) (fun h => ?_)
          · exact V.sub [1, 3, 4, 5] rfl (lab_X11_looks_146 hrF h)
          · refine V.aload_n (n := 1) dX11_looks_135 rfl rfl ?_
            refine V.getR dX11_looks_136 lkX11_121 rfl rfl h (fun x8 h => ?_)
            refine V.iload (n := 5) dX11_looks_139 rfl rfl ?_
            refine V.dup2 dX11_looks_141 rfl rfl rfl ?_
            refine V.iald dX11_looks_142 rfl h (fun x9 h => ?_)
            refine V.iconst (x := 1) dX11_looks_143 (by decide) rfl ?_
            refine V.iadd dX11_looks_144 rfl ?_
            refine V.iast dX11_looks_145 rfl h (fun M10 h => ?_)
            exact V.sub [1, 3, 4, 5] rfl (lab_X11_looks_146 hrF h)
      · refine V.sipush (x := 805) dX11_looks_114 (by decide) rfl ?_
        exact V.iret dX11_looks_117 rfl h
  · refine V.iload (n := 0) dX11_looks_78 rfl rfl ?_
    exact V.iret dX11_looks_80 rfl h
def J_X11_looks_33 (rF : Option Nat → Int32 → Mem → Option (Int32 × Mem)) (v0 : Option Nat) (v1 : Int32) (v3 : Int64) (v5 : Int64) (s0 : Option Nat) (s1 : Int32) (M : Mem) : Option (Int32 × Mem) :=
  (ck M 11 s0).bind fun _ => (L_X11_tableOf s0 s1 v3 M).bind fun w11 =>
  if 0 ≤ w11.1 then
  (if (6 : Int32) = 0 then none else
  if (w11.1 / (6 : Int32)) = v1 then
  (J_X11_looks_71 rF v0 v1 v5 w11.1 (w11.1 / (6 : Int32)) (0 : Int32) w11.2)
  else
  ((ck w11.2 11 v0).bind fun _ => (rF v0 (w11.1 / (6 : Int32)) w11.2).bind fun w12 =>
  J_X11_looks_71 rF v0 v1 v5 w11.1 (w11.1 / (6 : Int32)) w12.1 w12.2))
  else
  (some ((802 : Int32), w11.2))
set_option maxRecDepth 20000 in
set_option maxHeartbeats 4000000 in
theorem lab_X11_looks_33 {G : Gt} {M0 M9 : Mem} {x9 : Int32} {dr : Nat} {rF : Option Nat → Int32 → Mem → Option (Int32 × Mem)} (hrF : ∀ (a0 : Option Nat) (a1 : Int32) (Ma : Mem) (v : Int32 × Mem), rF a0 a1 Ma = some v → Mt G mX11_needs dr [vR a0, vI a1] Ma (some (vI v.1)) v.2) {v0 : Option Nat} {v1 : Int32} {v3 : Int64} {v5 : Int64} {s0 : Option Nat} {s1 : Int32} {M : Mem} (h : J_X11_looks_33 rF v0 v1 v3 v5 s0 s1 M = some (x9, M9)) : V G mX11_looks (dr + 1) M0 (some (vI x9)) M9 M 33 [(0, vR v0), (1, vI v1), (3, vL v3), (5, vL v5)] [vI s1, vR s0] := by
  unfold J_X11_looks_33 at h
  refine V.lload_n (n := 2) dX11_looks_33 rfl rfl ?_
  refine V.callVi (d' := 0) (as := [vI s1, vL v3]) (st := []) dX11_looks_34 meX11_tableOf mlX11_420 imX11_tableOf seX11_tableOf clsX11 rfl (by omega) (Nat.le_of_ble_eq_true rfl) rfl rfl h (fun v hv => lift_X11_tableOf hv) (fun w11 h => ?_)
  refine V.istore dX11_looks_37 (by decide) rfl rfl ?_
  refine V.iload (n := 0) dX11_looks_39 rfl rfl ?_
  refine V.if_ge (q := 48) dX11_looks_41 (by decide) rfl h (fun h => ?_) (fun h => ?_)
  · refine V.iload (n := 0) dX11_looks_48 rfl rfl ?_
    refine V.bipush (x := 6) dX11_looks_50 (by decide) rfl ?_
    refine V.idiv dX11_looks_52 h rfl (fun h => ?_)
    refine V.istore dX11_looks_53 (by decide) rfl rfl ?_
    refine V.iload (n := 0) dX11_looks_55 rfl rfl ?_
    refine V.iload_n (n := 3) dX11_looks_57 rfl rfl ?_
    refine V.icmp_eq (q := 70) dX11_looks_58 (by decide) rfl h (fun h => ?_) (fun h => ?_)
    · refine V.iconst (x := 0) dX11_looks_70 (by decide) rfl ?_
      exact V.sub [2, 3, 5, 1, 0] rfl (lab_X11_looks_71 hrF h)
    · refine V.aload_n (n := 2) dX11_looks_61 rfl rfl ?_
      refine V.iload (n := 0) dX11_looks_62 rfl rfl ?_
      refine V.callVi (d' := dr) (as := [vI (w11.1 / (6 : Int32))]) (st := []) dX11_looks_64 meX11_needs mlX11_404 imX11_needs seX11_needs clsX11 rfl (by omega) (Nat.le_of_ble_eq_true rfl) rfl rfl h (fun v hv => hrF _ _ _ v hv) (fun w12 h => ?_)
      refine V.goto (q := 71) dX11_looks_67 (by decide) ?_
      exact V.sub [2, 3, 5, 1, 0] rfl (lab_X11_looks_71 hrF h)
  · refine V.sipush (x := 802) dX11_looks_44 (by decide) rfl ?_
    exact V.iret dX11_looks_47 rfl h
def J_X11_looks_13 (rF : Option Nat → Int32 → Mem → Option (Int32 × Mem)) (v0 : Option Nat) (v1 : Int32) (v2 : Int32) (v3 : Int64) (v5 : Int64) (s0 : Int32) (M : Mem) : Option (Int32 × Mem) :=
  if s0 = 0 then
  (if v2 < 0 then
  (J_X11_looks_33 rF v0 v1 v3 v5 v0 v1 M)
  else
  (J_X11_looks_33 rF v0 v1 v3 v5 v0 v2 M))
  else
  (some (s0, M))
set_option maxRecDepth 20000 in
set_option maxHeartbeats 4000000 in
theorem lab_X11_looks_13 {G : Gt} {M0 M9 : Mem} {x9 : Int32} {dr : Nat} {rF : Option Nat → Int32 → Mem → Option (Int32 × Mem)} (hrF : ∀ (a0 : Option Nat) (a1 : Int32) (Ma : Mem) (v : Int32 × Mem), rF a0 a1 Ma = some v → Mt G mX11_needs dr [vR a0, vI a1] Ma (some (vI v.1)) v.2) {v0 : Option Nat} {v1 : Int32} {v2 : Int32} {v3 : Int64} {v5 : Int64} {s0 : Int32} {M : Mem} (h : J_X11_looks_13 rF v0 v1 v2 v3 v5 s0 M = some (x9, M9)) : V G mX11_looks (dr + 1) M0 (some (vI x9)) M9 M 13 [(0, vR v0), (1, vI v1), (2, vI v2), (3, vL v3), (5, vL v5)] [vI s0] := by
  unfold J_X11_looks_13 at h
  refine V.istore dX11_looks_13 (by decide) rfl rfl ?_
  refine V.iload (n := 0) dX11_looks_15 rfl rfl ?_
  refine V.if_eq (q := 23) dX11_looks_17 (by decide) rfl h (fun h => ?_) (fun h => ?_)
  · refine V.aload_n (n := 1) dX11_looks_23 rfl rfl ?_
    refine V.iload_n (n := 3) dX11_looks_24 rfl rfl ?_
    refine V.if_lt (q := 32) dX11_looks_25 (by decide) rfl h (fun h => ?_) (fun h => ?_)
    · refine V.iload_n (n := 2) dX11_looks_32 rfl rfl ?_
      exact V.sub [1, 2, 4, 5] rfl (lab_X11_looks_33 hrF h)
    · refine V.iload_n (n := 3) dX11_looks_28 rfl rfl ?_
      refine V.goto (q := 33) dX11_looks_29 (by decide) ?_
      exact V.sub [1, 2, 4, 5] rfl (lab_X11_looks_33 hrF h)
  · refine V.iload (n := 0) dX11_looks_20 rfl rfl ?_
    exact V.iret dX11_looks_22 rfl h
def L_X11_looks (rF : Option Nat → Int32 → Mem → Option (Int32 × Mem)) (v0 : Option Nat) (v1 : Int32) (v2 : Int32) (v3 : Int64) (v5 : Int64) (M : Mem) : Option (Int32 × Mem) :=
  if v2 < 0 then
  (J_X11_looks_13 rF v0 v1 v2 v3 v5 (0 : Int32) M)
  else
  ((ck M 11 v0).bind fun _ => (rF v0 v2 M).bind fun w13 =>
  J_X11_looks_13 rF v0 v1 v2 v3 v5 w13.1 w13.2)
set_option maxRecDepth 20000 in
set_option maxHeartbeats 4000000 in
theorem lift_X11_looks {G : Gt} {M M9 : Mem} {x9 : Int32} {v0 : Option Nat} {v1 : Int32} {v2 : Int32} {v3 : Int64} {v5 : Int64} {dr : Nat} {rF : Option Nat → Int32 → Mem → Option (Int32 × Mem)} (hrF : ∀ (a0 : Option Nat) (a1 : Int32) (Ma : Mem) (v : Int32 × Mem), rF a0 a1 Ma = some v → Mt G mX11_needs dr [vR a0, vI a1] Ma (some (vI v.1)) v.2) (h : L_X11_looks rF v0 v1 v2 v3 v5 M = some (x9, M9)) : Mt G mX11_looks (dr + 1) [vR v0, vI v1, vI v2, vL v3, vL v5] M (some (vI x9)) M9 := by
  unfold L_X11_looks at h
  refine Mt.of (by decide +kernel) (Nat.le_of_ble_eq_true rfl) ?_
  have hh : V G mX11_looks (dr + 1) M (some (vI x9)) M9 M 0 [(0, vR v0), (1, vI v1), (2, vI v2), (3, vL v3), (5, vL v5)] [] := by
    refine V.iload_n (n := 2) dX11_looks_0 rfl rfl ?_
    refine V.if_lt (q := 12) dX11_looks_1 (by decide) rfl h (fun h => ?_) (fun h => ?_)
    · refine V.iconst (x := 0) dX11_looks_12 (by decide) rfl ?_
      exact (lab_X11_looks_13 hrF h)
    · refine V.aload_n (n := 0) dX11_looks_4 rfl rfl ?_
      refine V.iload_n (n := 2) dX11_looks_5 rfl rfl ?_
      refine V.callVi (d' := dr) (as := [vI v2]) (st := []) dX11_looks_6 meX11_needs mlX11_404 imX11_needs seX11_needs clsX11 rfl (by omega) (Nat.le_of_ble_eq_true rfl) rfl rfl h (fun v hv => hrF _ _ _ v hv) (fun w13 h => ?_)
      refine V.goto (q := 13) dX11_looks_9 (by decide) ?_
      exact (lab_X11_looks_13 hrF h)
  exact hh
def J_X11_acted_185 (v1 : Int64) (v3 : Int64) (M : Mem) : Option (Int64 × Mem) :=
  if v1 ≤ v3 then
  (some ((0 : Int64), M))
  else
  (some ((1 : Int64), M))
set_option maxRecDepth 20000 in
set_option maxHeartbeats 4000000 in
theorem lab_X11_acted_185 {G : Gt} {M0 M9 : Mem} {x9 : Int64} {v1 : Int64} {v3 : Int64} {M : Mem} (h : J_X11_acted_185 v1 v3 M = some (x9, M9)) : V G mX11_acted 0 M0 (some (vL x9)) M9 M 185 [(1, vL v1), (3, vL v3)] [] := by
  unfold J_X11_acted_185 at h
  refine V.lload_n (n := 0) dX11_acted_185 rfl rfl ?_
  refine V.lload_n (n := 1) dX11_acted_186 rfl rfl ?_
  refine V.lif_le (q := 195) dX11_acted_187 rfl dX11_acted_188 (by decide) rfl h (fun h => ?_) (fun h => ?_)
  · refine V.lconst (x := 0) dX11_acted_195 (by decide) rfl ?_
    exact V.lret dX11_acted_196 rfl h
  · refine V.lconst (x := 1) dX11_acted_191 (by decide) rfl ?_
    refine V.goto (q := 196) dX11_acted_192 (by decide) ?_
    exact V.lret dX11_acted_196 rfl h
def L_X11_acted (v0 : Int32) (v1 : Int64) (v3 : Int64) (M : Mem) : Option (Int64 × Mem) :=
  if v0 = 37 then
  (if ¬ v3 = (-1 : Int64) then
  (if v3 = 0 then none else
  some (v1 - v1 / v3 * v3, M))
  else
  (some ((0 : Int64), M)))
  else
  if v0 = 42 then
  (some (v1 * v3, M))
  else
  if v0 = 43 then
  (some (v1 + v3, M))
  else
  if v0 = 45 then
  (some (v1 - v3, M))
  else
  if v0 = 47 then
  (if ¬ v3 = (-1 : Int64) then
  (if v3 = 0 then none else
  some (v1 / v3, M))
  else
  (some (-v1, M)))
  else
  if v0 = 60 then
  (if v3 ≤ v1 then
  (some ((0 : Int64), M))
  else
  (some ((1 : Int64), M)))
  else
  if v0 = 61 then
  (if ¬ v1 = v3 then
  (some ((0 : Int64), M))
  else
  (some ((1 : Int64), M)))
  else
  (J_X11_acted_185 v1 v3 M)
set_option maxRecDepth 20000 in
set_option maxHeartbeats 4000000 in
theorem lift_X11_acted {G : Gt} {M M9 : Mem} {x9 : Int64} {v0 : Int32} {v1 : Int64} {v3 : Int64} (h : L_X11_acted v0 v1 v3 M = some (x9, M9)) : Mt G mX11_acted 0 [vI v0, vL v1, vL v3] M (some (vL x9)) M9 := by
  unfold L_X11_acted at h
  refine Mt.of (by decide +kernel) (Nat.le_of_ble_eq_true rfl) ?_
  have hh : V G mX11_acted 0 M (some (vL x9)) M9 M 0 [(0, vI v0), (1, vL v1), (3, vL v3)] [] := by
    refine V.iload_n (n := 0) dX11_acted_0 rfl rfl ?_
    refine V.sw h (fun hx h => ?_) (fun n37 h => ?_)
    · refine V.swt hx ?_
      refine V.tableIn (q := 145) (x := 37) (off := 144) dX11_acted_1 (by decide) (by decide) (by decide) (by decide) ?_
      refine V.lload_n (n := 2) dX11_acted_145 rfl rfl ?_
      refine V.ldc2 (x := (-1)) dX11_acted_146 clX11_423 rfl ?_
      refine V.lif_ne (q := 157) dX11_acted_149 rfl dX11_acted_150 (by decide) rfl h (fun h => ?_) (fun h => ?_)
      · refine V.lload_n (n := 1) dX11_acted_157 rfl rfl ?_
        refine V.lload_n (n := 2) dX11_acted_158 rfl rfl ?_
        refine V.lrem dX11_acted_159 h rfl (fun h => ?_)
        exact V.lret dX11_acted_160 rfl h
      · refine V.lconst (x := 0) dX11_acted_153 (by decide) rfl ?_
        refine V.goto (q := 160) dX11_acted_154 (by decide) ?_
        exact V.lret dX11_acted_160 rfl h
    refine V.sw h (fun hx h => ?_) (fun n42 h => ?_)
    · refine V.swt hx ?_
      refine V.tableIn (q := 124) (x := 42) (off := 123) dX11_acted_1 (by decide) (by decide) (by decide) (by decide) ?_
      refine V.lload_n (n := 1) dX11_acted_124 rfl rfl ?_
      refine V.lload_n (n := 2) dX11_acted_125 rfl rfl ?_
      refine V.lmul dX11_acted_126 rfl ?_
      exact V.lret dX11_acted_127 rfl h
    refine V.sw h (fun hx h => ?_) (fun n43 h => ?_)
    · refine V.swt hx ?_
      refine V.tableIn (q := 116) (x := 43) (off := 115) dX11_acted_1 (by decide) (by decide) (by decide) (by decide) ?_
      refine V.lload_n (n := 1) dX11_acted_116 rfl rfl ?_
      refine V.lload_n (n := 2) dX11_acted_117 rfl rfl ?_
      refine V.ladd dX11_acted_118 rfl ?_
      exact V.lret dX11_acted_119 rfl h
    refine V.sw h (fun hx h => ?_) (fun n45 h => ?_)
    · refine V.swt hx ?_
      refine V.tableIn (q := 120) (x := 45) (off := 119) dX11_acted_1 (by decide) (by decide) (by decide) (by decide) ?_
      refine V.lload_n (n := 1) dX11_acted_120 rfl rfl ?_
      refine V.lload_n (n := 2) dX11_acted_121 rfl rfl ?_
      refine V.lsub dX11_acted_122 rfl ?_
      exact V.lret dX11_acted_123 rfl h
    refine V.sw h (fun hx h => ?_) (fun n47 h => ?_)
    · refine V.swt hx ?_
      refine V.tableIn (q := 128) (x := 47) (off := 127) dX11_acted_1 (by decide) (by decide) (by decide) (by decide) ?_
      refine V.lload_n (n := 2) dX11_acted_128 rfl rfl ?_
      refine V.ldc2 (x := (-1)) dX11_acted_129 clX11_423 rfl ?_
      refine V.lif_ne (q := 141) dX11_acted_132 rfl dX11_acted_133 (by decide) rfl h (fun h => ?_) (fun h => ?_)
      · refine V.lload_n (n := 1) dX11_acted_141 rfl rfl ?_
        refine V.lload_n (n := 2) dX11_acted_142 rfl rfl ?_
        refine V.ldiv dX11_acted_143 h rfl (fun h => ?_)
        exact V.lret dX11_acted_144 rfl h
      · refine V.lload_n (n := 1) dX11_acted_136 rfl rfl ?_
        refine V.lneg dX11_acted_137 rfl ?_
        refine V.goto (q := 144) dX11_acted_138 (by decide) ?_
        exact V.lret dX11_acted_144 rfl h
    refine V.sw h (fun hx h => ?_) (fun n60 h => ?_)
    · refine V.swt hx ?_
      refine V.tableIn (q := 173) (x := 60) (off := 172) dX11_acted_1 (by decide) (by decide) (by decide) (by decide) ?_
      refine V.lload_n (n := 1) dX11_acted_173 rfl rfl ?_
      refine V.lload_n (n := 2) dX11_acted_174 rfl rfl ?_
      refine V.lif_ge (q := 183) dX11_acted_175 rfl dX11_acted_176 (by decide) rfl h (fun h => ?_) (fun h => ?_)
      · refine V.lconst (x := 0) dX11_acted_183 (by decide) rfl ?_
        exact V.lret dX11_acted_184 rfl h
      · refine V.lconst (x := 1) dX11_acted_179 (by decide) rfl ?_
        refine V.goto (q := 184) dX11_acted_180 (by decide) ?_
        exact V.lret dX11_acted_184 rfl h
    refine V.sw h (fun hx h => ?_) (fun n61 h => ?_)
    · refine V.swt hx ?_
      refine V.tableIn (q := 161) (x := 61) (off := 160) dX11_acted_1 (by decide) (by decide) (by decide) (by decide) ?_
      refine V.lload_n (n := 1) dX11_acted_161 rfl rfl ?_
      refine V.lload_n (n := 2) dX11_acted_162 rfl rfl ?_
      refine V.lif_ne (q := 171) dX11_acted_163 rfl dX11_acted_164 (by decide) rfl h (fun h => ?_) (fun h => ?_)
      · refine V.lconst (x := 0) dX11_acted_171 (by decide) rfl ?_
        exact V.lret dX11_acted_172 rfl h
      · refine V.lconst (x := 1) dX11_acted_167 (by decide) rfl ?_
        refine V.goto (q := 172) dX11_acted_168 (by decide) ?_
        exact V.lret dX11_acted_172 rfl h
    refine V.cs (c := 38) (fun hx => ?_) (fun n38 => ?_)
    · refine V.swt hx ?_
      refine V.tableIn (q := 185) (x := 38) (off := 184) dX11_acted_1 (by decide) (by decide) (by decide) (by decide) ?_
      exact V.sub [1, 2] rfl (lab_X11_acted_185 h)
    refine V.cs (c := 39) (fun hx => ?_) (fun n39 => ?_)
    · refine V.swt hx ?_
      refine V.tableIn (q := 185) (x := 39) (off := 184) dX11_acted_1 (by decide) (by decide) (by decide) (by decide) ?_
      exact V.sub [1, 2] rfl (lab_X11_acted_185 h)
    refine V.cs (c := 40) (fun hx => ?_) (fun n40 => ?_)
    · refine V.swt hx ?_
      refine V.tableIn (q := 185) (x := 40) (off := 184) dX11_acted_1 (by decide) (by decide) (by decide) (by decide) ?_
      exact V.sub [1, 2] rfl (lab_X11_acted_185 h)
    refine V.cs (c := 41) (fun hx => ?_) (fun n41 => ?_)
    · refine V.swt hx ?_
      refine V.tableIn (q := 185) (x := 41) (off := 184) dX11_acted_1 (by decide) (by decide) (by decide) (by decide) ?_
      exact V.sub [1, 2] rfl (lab_X11_acted_185 h)
    refine V.cs (c := 44) (fun hx => ?_) (fun n44 => ?_)
    · refine V.swt hx ?_
      refine V.tableIn (q := 185) (x := 44) (off := 184) dX11_acted_1 (by decide) (by decide) (by decide) (by decide) ?_
      exact V.sub [1, 2] rfl (lab_X11_acted_185 h)
    refine V.cs (c := 46) (fun hx => ?_) (fun n46 => ?_)
    · refine V.swt hx ?_
      refine V.tableIn (q := 185) (x := 46) (off := 184) dX11_acted_1 (by decide) (by decide) (by decide) (by decide) ?_
      exact V.sub [1, 2] rfl (lab_X11_acted_185 h)
    refine V.cs (c := 48) (fun hx => ?_) (fun n48 => ?_)
    · refine V.swt hx ?_
      refine V.tableIn (q := 185) (x := 48) (off := 184) dX11_acted_1 (by decide) (by decide) (by decide) (by decide) ?_
      exact V.sub [1, 2] rfl (lab_X11_acted_185 h)
    refine V.cs (c := 49) (fun hx => ?_) (fun n49 => ?_)
    · refine V.swt hx ?_
      refine V.tableIn (q := 185) (x := 49) (off := 184) dX11_acted_1 (by decide) (by decide) (by decide) (by decide) ?_
      exact V.sub [1, 2] rfl (lab_X11_acted_185 h)
    refine V.cs (c := 50) (fun hx => ?_) (fun n50 => ?_)
    · refine V.swt hx ?_
      refine V.tableIn (q := 185) (x := 50) (off := 184) dX11_acted_1 (by decide) (by decide) (by decide) (by decide) ?_
      exact V.sub [1, 2] rfl (lab_X11_acted_185 h)
    refine V.cs (c := 51) (fun hx => ?_) (fun n51 => ?_)
    · refine V.swt hx ?_
      refine V.tableIn (q := 185) (x := 51) (off := 184) dX11_acted_1 (by decide) (by decide) (by decide) (by decide) ?_
      exact V.sub [1, 2] rfl (lab_X11_acted_185 h)
    refine V.cs (c := 52) (fun hx => ?_) (fun n52 => ?_)
    · refine V.swt hx ?_
      refine V.tableIn (q := 185) (x := 52) (off := 184) dX11_acted_1 (by decide) (by decide) (by decide) (by decide) ?_
      exact V.sub [1, 2] rfl (lab_X11_acted_185 h)
    refine V.cs (c := 53) (fun hx => ?_) (fun n53 => ?_)
    · refine V.swt hx ?_
      refine V.tableIn (q := 185) (x := 53) (off := 184) dX11_acted_1 (by decide) (by decide) (by decide) (by decide) ?_
      exact V.sub [1, 2] rfl (lab_X11_acted_185 h)
    refine V.cs (c := 54) (fun hx => ?_) (fun n54 => ?_)
    · refine V.swt hx ?_
      refine V.tableIn (q := 185) (x := 54) (off := 184) dX11_acted_1 (by decide) (by decide) (by decide) (by decide) ?_
      exact V.sub [1, 2] rfl (lab_X11_acted_185 h)
    refine V.cs (c := 55) (fun hx => ?_) (fun n55 => ?_)
    · refine V.swt hx ?_
      refine V.tableIn (q := 185) (x := 55) (off := 184) dX11_acted_1 (by decide) (by decide) (by decide) (by decide) ?_
      exact V.sub [1, 2] rfl (lab_X11_acted_185 h)
    refine V.cs (c := 56) (fun hx => ?_) (fun n56 => ?_)
    · refine V.swt hx ?_
      refine V.tableIn (q := 185) (x := 56) (off := 184) dX11_acted_1 (by decide) (by decide) (by decide) (by decide) ?_
      exact V.sub [1, 2] rfl (lab_X11_acted_185 h)
    refine V.cs (c := 57) (fun hx => ?_) (fun n57 => ?_)
    · refine V.swt hx ?_
      refine V.tableIn (q := 185) (x := 57) (off := 184) dX11_acted_1 (by decide) (by decide) (by decide) (by decide) ?_
      exact V.sub [1, 2] rfl (lab_X11_acted_185 h)
    refine V.cs (c := 58) (fun hx => ?_) (fun n58 => ?_)
    · refine V.swt hx ?_
      refine V.tableIn (q := 185) (x := 58) (off := 184) dX11_acted_1 (by decide) (by decide) (by decide) (by decide) ?_
      exact V.sub [1, 2] rfl (lab_X11_acted_185 h)
    refine V.cs (c := 59) (fun hx => ?_) (fun n59 => ?_)
    · refine V.swt hx ?_
      refine V.tableIn (q := 185) (x := 59) (off := 184) dX11_acted_1 (by decide) (by decide) (by decide) (by decide) ?_
      exact V.sub [1, 2] rfl (lab_X11_acted_185 h)
    have e37 := sw_ne n37
    have e38 := sw_ne n38
    have e39 := sw_ne n39
    have e40 := sw_ne n40
    have e41 := sw_ne n41
    have e42 := sw_ne n42
    have e43 := sw_ne n43
    have e44 := sw_ne n44
    have e45 := sw_ne n45
    have e46 := sw_ne n46
    have e47 := sw_ne n47
    have e48 := sw_ne n48
    have e49 := sw_ne n49
    have e50 := sw_ne n50
    have e51 := sw_ne n51
    have e52 := sw_ne n52
    have e53 := sw_ne n53
    have e54 := sw_ne n54
    have e55 := sw_ne n55
    have e56 := sw_ne n56
    have e57 := sw_ne n57
    have e58 := sw_ne n58
    have e59 := sw_ne n59
    have e60 := sw_ne n60
    have e61 := sw_ne n61
    have t37 : (37 : Int32).toInt = 37 := by decide
    have t38 : (38 : Int32).toInt = 38 := by decide
    have t39 : (39 : Int32).toInt = 39 := by decide
    have t40 : (40 : Int32).toInt = 40 := by decide
    have t41 : (41 : Int32).toInt = 41 := by decide
    have t42 : (42 : Int32).toInt = 42 := by decide
    have t43 : (43 : Int32).toInt = 43 := by decide
    have t44 : (44 : Int32).toInt = 44 := by decide
    have t45 : (45 : Int32).toInt = 45 := by decide
    have t46 : (46 : Int32).toInt = 46 := by decide
    have t47 : (47 : Int32).toInt = 47 := by decide
    have t48 : (48 : Int32).toInt = 48 := by decide
    have t49 : (49 : Int32).toInt = 49 := by decide
    have t50 : (50 : Int32).toInt = 50 := by decide
    have t51 : (51 : Int32).toInt = 51 := by decide
    have t52 : (52 : Int32).toInt = 52 := by decide
    have t53 : (53 : Int32).toInt = 53 := by decide
    have t54 : (54 : Int32).toInt = 54 := by decide
    have t55 : (55 : Int32).toInt = 55 := by decide
    have t56 : (56 : Int32).toInt = 56 := by decide
    have t57 : (57 : Int32).toInt = 57 := by decide
    have t58 : (58 : Int32).toInt = 58 := by decide
    have t59 : (59 : Int32).toInt = 59 := by decide
    have t60 : (60 : Int32).toInt = 60 := by decide
    have t61 : (61 : Int32).toInt = 61 := by decide
    refine V.tableOut (q := 185) dX11_acted_1 (by omega) (by decide) ?_
    exact V.sub [1, 2] rfl (lab_X11_acted_185 h)
  exact hh
