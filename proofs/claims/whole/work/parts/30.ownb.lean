def J_X3_calculate_138 (s0 : Option Nat) (s1 : Int64) (M : Mem) : Option (Int32 × Mem) :=
  (ck M 3 s0).bind fun _ => (L_X3_push s0 s1 M).bind fun w1 =>
  some (w1.1, w1.2)
set_option maxRecDepth 20000 in
set_option maxHeartbeats 4000000 in
theorem lab_X3_calculate_138 {G : Gt} {M0 M9 : Mem} {x9 : Int32} {s0 : Option Nat} {s1 : Int64} {M : Mem} (h : J_X3_calculate_138 s0 s1 M = some (x9, M9)) : V G mX3_calculate 1 M0 (some (vI x9)) M9 M 138 [] [vL s1, vR s0] := by
  unfold J_X3_calculate_138 at h
  refine V.callVi (d' := 0) (as := [vL s1]) (st := []) dX3_calculate_138 meX3_push mlX3_162 imX3_push seX3_push clsX3 rfl (by omega) (Nat.le_of_ble_eq_true rfl) rfl rfl h (fun v hv => lift_X3_push hv) (fun w1 h => ?_)
  exact V.iret dX3_calculate_141 rfl h
def J_X3_calculate_155 (s0 : Option Nat) (s1 : Int64) (M : Mem) : Option (Int32 × Mem) :=
  (ck M 3 s0).bind fun _ => (L_X3_push s0 s1 M).bind fun w2 =>
  some (w2.1, w2.2)
set_option maxRecDepth 20000 in
set_option maxHeartbeats 4000000 in
theorem lab_X3_calculate_155 {G : Gt} {M0 M9 : Mem} {x9 : Int32} {s0 : Option Nat} {s1 : Int64} {M : Mem} (h : J_X3_calculate_155 s0 s1 M = some (x9, M9)) : V G mX3_calculate 1 M0 (some (vI x9)) M9 M 155 [] [vL s1, vR s0] := by
  unfold J_X3_calculate_155 at h
  refine V.callVi (d' := 0) (as := [vL s1]) (st := []) dX3_calculate_155 meX3_push mlX3_162 imX3_push seX3_push clsX3 rfl (by omega) (Nat.le_of_ble_eq_true rfl) rfl rfl h (fun v hv => lift_X3_push hv) (fun w2 h => ?_)
  exact V.iret dX3_calculate_158 rfl h
def J_X3_calculate_172 (s0 : Option Nat) (s1 : Int64) (M : Mem) : Option (Int32 × Mem) :=
  (ck M 3 s0).bind fun _ => (L_X3_push s0 s1 M).bind fun w3 =>
  some (w3.1, w3.2)
set_option maxRecDepth 20000 in
set_option maxHeartbeats 4000000 in
theorem lab_X3_calculate_172 {G : Gt} {M0 M9 : Mem} {x9 : Int32} {s0 : Option Nat} {s1 : Int64} {M : Mem} (h : J_X3_calculate_172 s0 s1 M = some (x9, M9)) : V G mX3_calculate 1 M0 (some (vI x9)) M9 M 172 [] [vL s1, vR s0] := by
  unfold J_X3_calculate_172 at h
  refine V.callVi (d' := 0) (as := [vL s1]) (st := []) dX3_calculate_172 meX3_push mlX3_162 imX3_push seX3_push clsX3 rfl (by omega) (Nat.le_of_ble_eq_true rfl) rfl rfl h (fun v hv => lift_X3_push hv) (fun w3 h => ?_)
  exact V.iret dX3_calculate_175 rfl h
def L_X3_calculate (v0 : Option Nat) (v1 : Int32) (M : Mem) : Option (Int32 × Mem) :=
  (ck M 3 v0).bind fun _ => (L_X3_pop v0 M).bind fun w4 =>
  (ck w4.2 3 v0).bind fun _ => (L_X3_pop v0 w4.2).bind fun w5 =>
  if v1 = 6 then
  ((ck w5.2 3 v0).bind fun _ => (L_X3_push v0 (w5.1 + w4.1) w5.2).bind fun w6 =>
  some (w6.1, w6.2))
  else
  if v1 = 7 then
  ((ck w5.2 3 v0).bind fun _ => (L_X3_push v0 (w5.1 - w4.1) w5.2).bind fun w7 =>
  some (w7.1, w7.2))
  else
  if v1 = 8 then
  ((ck w5.2 3 v0).bind fun _ => (L_X3_push v0 (w5.1 * w4.1) w5.2).bind fun w8 =>
  some (w8.1, w8.2))
  else
  if v1 = 9 then
  (if ¬ w4.1 = (0 : Int64) then
  (if w4.1 = 0 then none else
  (ck w5.2 3 v0).bind fun _ => (L_X3_push v0 (w5.1 / w4.1) w5.2).bind fun w9 =>
  some (w9.1, w9.2))
  else
  (some ((801 : Int32), w5.2)))
  else
  if v1 = 10 then
  (if ¬ w4.1 = (0 : Int64) then
  (if w4.1 = 0 then none else
  (ck w5.2 3 v0).bind fun _ => (L_X3_push v0 (w5.1 - w5.1 / w4.1 * w4.1) w5.2).bind fun w10 =>
  some (w10.1, w10.2))
  else
  (some ((801 : Int32), w5.2)))
  else
  if v1 = 11 then
  (if ¬ w5.1 = w4.1 then
  (J_X3_calculate_138 v0 (0 : Int64) w5.2)
  else
  (J_X3_calculate_138 v0 (1 : Int64) w5.2))
  else
  if v1 = 12 then
  (if w4.1 ≤ w5.1 then
  (J_X3_calculate_155 v0 (0 : Int64) w5.2)
  else
  (J_X3_calculate_155 v0 (1 : Int64) w5.2))
  else
  (if w5.1 ≤ w4.1 then
  (J_X3_calculate_172 v0 (0 : Int64) w5.2)
  else
  (J_X3_calculate_172 v0 (1 : Int64) w5.2))
set_option maxRecDepth 20000 in
set_option maxHeartbeats 4000000 in
theorem lift_X3_calculate {G : Gt} {M M9 : Mem} {x9 : Int32} {v0 : Option Nat} {v1 : Int32} (h : L_X3_calculate v0 v1 M = some (x9, M9)) : Mt G mX3_calculate 1 [vR v0, vI v1] M (some (vI x9)) M9 := by
  unfold L_X3_calculate at h
  refine Mt.of (by decide +kernel) (Nat.le_of_ble_eq_true rfl) ?_
  have hh : V G mX3_calculate 1 M (some (vI x9)) M9 M 0 [(0, vR v0), (1, vI v1)] [] := by
    refine V.aload_n (n := 0) dX3_calculate_0 rfl rfl ?_
    refine V.callVl (d' := 0) (as := []) (st := []) dX3_calculate_1 meX3_pop mlX3_173 imX3_pop seX3_pop clsX3 rfl (by omega) (Nat.le_of_ble_eq_true rfl) rfl rfl h (fun v hv => lift_X3_pop hv) (fun w4 h => ?_)
    refine V.lstore_n dX3_calculate_4 rfl (by decide) rfl rfl ?_
    refine V.aload_n (n := 1) dX3_calculate_5 rfl rfl ?_
    refine V.callVl (d' := 0) (as := []) (st := []) dX3_calculate_6 meX3_pop mlX3_173 imX3_pop seX3_pop clsX3 rfl (by omega) (Nat.le_of_ble_eq_true rfl) rfl rfl h (fun v hv => lift_X3_pop hv) (fun w5 h => ?_)
    refine V.lstore dX3_calculate_9 (by decide) rfl rfl ?_
    refine V.iload_n (n := 3) dX3_calculate_11 rfl rfl ?_
    refine V.sw h (fun hx h => ?_) (fun n6 h => ?_)
    · refine V.swt hx ?_
      refine V.tableIn (q := 56) (x := 6) (off := 44) dX3_calculate_12 (by decide) (by decide) (by decide) (by decide) ?_
      refine V.aload_n (n := 2) dX3_calculate_56 rfl rfl ?_
      refine V.lload (n := 0) dX3_calculate_57 rfl rfl ?_
      refine V.lload_n (n := 1) dX3_calculate_59 rfl rfl ?_
      refine V.ladd dX3_calculate_60 rfl ?_
      refine V.callVi (d' := 0) (as := [vL (w5.1 + w4.1)]) (st := []) dX3_calculate_61 meX3_push mlX3_162 imX3_push seX3_push clsX3 rfl (by omega) (Nat.le_of_ble_eq_true rfl) rfl rfl h (fun v hv => lift_X3_push hv) (fun w6 h => ?_)
      exact V.iret dX3_calculate_64 rfl h
    refine V.sw h (fun hx h => ?_) (fun n7 h => ?_)
    · refine V.swt hx ?_
      refine V.tableIn (q := 65) (x := 7) (off := 53) dX3_calculate_12 (by decide) (by decide) (by decide) (by decide) ?_
      refine V.aload_n (n := 2) dX3_calculate_65 rfl rfl ?_
      refine V.lload (n := 0) dX3_calculate_66 rfl rfl ?_
      refine V.lload_n (n := 1) dX3_calculate_68 rfl rfl ?_
      refine V.lsub dX3_calculate_69 rfl ?_
      refine V.callVi (d' := 0) (as := [vL (w5.1 - w4.1)]) (st := []) dX3_calculate_70 meX3_push mlX3_162 imX3_push seX3_push clsX3 rfl (by omega) (Nat.le_of_ble_eq_true rfl) rfl rfl h (fun v hv => lift_X3_push hv) (fun w7 h => ?_)
      exact V.iret dX3_calculate_73 rfl h
    refine V.sw h (fun hx h => ?_) (fun n8 h => ?_)
    · refine V.swt hx ?_
      refine V.tableIn (q := 74) (x := 8) (off := 62) dX3_calculate_12 (by decide) (by decide) (by decide) (by decide) ?_
      refine V.aload_n (n := 2) dX3_calculate_74 rfl rfl ?_
      refine V.lload (n := 0) dX3_calculate_75 rfl rfl ?_
      refine V.lload_n (n := 1) dX3_calculate_77 rfl rfl ?_
      refine V.lmul dX3_calculate_78 rfl ?_
      refine V.callVi (d' := 0) (as := [vL (w5.1 * w4.1)]) (st := []) dX3_calculate_79 meX3_push mlX3_162 imX3_push seX3_push clsX3 rfl (by omega) (Nat.le_of_ble_eq_true rfl) rfl rfl h (fun v hv => lift_X3_push hv) (fun w8 h => ?_)
      exact V.iret dX3_calculate_82 rfl h
    refine V.sw h (fun hx h => ?_) (fun n9 h => ?_)
    · refine V.swt hx ?_
      refine V.tableIn (q := 83) (x := 9) (off := 71) dX3_calculate_12 (by decide) (by decide) (by decide) (by decide) ?_
      refine V.lload_n (n := 1) dX3_calculate_83 rfl rfl ?_
      refine V.lconst (x := 0) dX3_calculate_84 (by decide) rfl ?_
      refine V.lif_ne (q := 95) dX3_calculate_85 rfl dX3_calculate_86 (by decide) rfl h (fun h => ?_) (fun h => ?_)
      · refine V.aload_n (n := 2) dX3_calculate_95 rfl rfl ?_
        refine V.lload (n := 0) dX3_calculate_96 rfl rfl ?_
        refine V.lload_n (n := 1) dX3_calculate_98 rfl rfl ?_
        refine V.ldiv dX3_calculate_99 h rfl (fun h => ?_)
        refine V.callVi (d' := 0) (as := [vL (w5.1 / w4.1)]) (st := []) dX3_calculate_100 meX3_push mlX3_162 imX3_push seX3_push clsX3 rfl (by omega) (Nat.le_of_ble_eq_true rfl) rfl rfl h (fun v hv => lift_X3_push hv) (fun w9 h => ?_)
        exact V.iret dX3_calculate_103 rfl h
      · refine V.sipush (x := 801) dX3_calculate_89 (by decide) rfl ?_
        refine V.goto (q := 103) dX3_calculate_92 (by decide) ?_
        exact V.iret dX3_calculate_103 rfl h
    refine V.sw h (fun hx h => ?_) (fun n10 h => ?_)
    · refine V.swt hx ?_
      refine V.tableIn (q := 104) (x := 10) (off := 92) dX3_calculate_12 (by decide) (by decide) (by decide) (by decide) ?_
      refine V.lload_n (n := 1) dX3_calculate_104 rfl rfl ?_
      refine V.lconst (x := 0) dX3_calculate_105 (by decide) rfl ?_
      refine V.lif_ne (q := 116) dX3_calculate_106 rfl dX3_calculate_107 (by decide) rfl h (fun h => ?_) (fun h => ?_)
      · refine V.aload_n (n := 2) dX3_calculate_116 rfl rfl ?_
        refine V.lload (n := 0) dX3_calculate_117 rfl rfl ?_
        refine V.lload_n (n := 1) dX3_calculate_119 rfl rfl ?_
        refine V.lrem dX3_calculate_120 h rfl (fun h => ?_)
        refine V.callVi (d' := 0) (as := [vL (w5.1 - w5.1 / w4.1 * w4.1)]) (st := []) dX3_calculate_121 meX3_push mlX3_162 imX3_push seX3_push clsX3 rfl (by omega) (Nat.le_of_ble_eq_true rfl) rfl rfl h (fun v hv => lift_X3_push hv) (fun w10 h => ?_)
        exact V.iret dX3_calculate_124 rfl h
      · refine V.sipush (x := 801) dX3_calculate_110 (by decide) rfl ?_
        refine V.goto (q := 124) dX3_calculate_113 (by decide) ?_
        exact V.iret dX3_calculate_124 rfl h
    refine V.sw h (fun hx h => ?_) (fun n11 h => ?_)
    · refine V.swt hx ?_
      refine V.tableIn (q := 125) (x := 11) (off := 113) dX3_calculate_12 (by decide) (by decide) (by decide) (by decide) ?_
      refine V.aload_n (n := 2) dX3_calculate_125 rfl rfl ?_
      refine V.lload (n := 0) dX3_calculate_126 rfl rfl ?_
      refine V.lload_n (n := 1) dX3_calculate_128 rfl rfl ?_
      refine V.lif_ne (q := 137) dX3_calculate_129 rfl dX3_calculate_130 (by decide) rfl h (fun h => ?_) (fun h => ?_)
      · refine V.lconst (x := 0) dX3_calculate_137 (by decide) rfl ?_
        exact V.sub [] rfl (lab_X3_calculate_138 h)
      · refine V.lconst (x := 1) dX3_calculate_133 (by decide) rfl ?_
        refine V.goto (q := 138) dX3_calculate_134 (by decide) ?_
        exact V.sub [] rfl (lab_X3_calculate_138 h)
    refine V.sw h (fun hx h => ?_) (fun n12 h => ?_)
    · refine V.swt hx ?_
      refine V.tableIn (q := 142) (x := 12) (off := 130) dX3_calculate_12 (by decide) (by decide) (by decide) (by decide) ?_
      refine V.aload_n (n := 2) dX3_calculate_142 rfl rfl ?_
      refine V.lload (n := 0) dX3_calculate_143 rfl rfl ?_
      refine V.lload_n (n := 1) dX3_calculate_145 rfl rfl ?_
      refine V.lif_ge (q := 154) dX3_calculate_146 rfl dX3_calculate_147 (by decide) rfl h (fun h => ?_) (fun h => ?_)
      · refine V.lconst (x := 0) dX3_calculate_154 (by decide) rfl ?_
        exact V.sub [] rfl (lab_X3_calculate_155 h)
      · refine V.lconst (x := 1) dX3_calculate_150 (by decide) rfl ?_
        refine V.goto (q := 155) dX3_calculate_151 (by decide) ?_
        exact V.sub [] rfl (lab_X3_calculate_155 h)
    have e6 := sw_ne n6
    have e7 := sw_ne n7
    have e8 := sw_ne n8
    have e9 := sw_ne n9
    have e10 := sw_ne n10
    have e11 := sw_ne n11
    have e12 := sw_ne n12
    have t6 : (6 : Int32).toInt = 6 := by decide
    have t7 : (7 : Int32).toInt = 7 := by decide
    have t8 : (8 : Int32).toInt = 8 := by decide
    have t9 : (9 : Int32).toInt = 9 := by decide
    have t10 : (10 : Int32).toInt = 10 := by decide
    have t11 : (11 : Int32).toInt = 11 := by decide
    have t12 : (12 : Int32).toInt = 12 := by decide
    refine V.tableOut (q := 159) dX3_calculate_12 (by omega) (by decide) ?_
    refine V.aload_n (n := 2) dX3_calculate_159 rfl rfl ?_
    refine V.lload (n := 0) dX3_calculate_160 rfl rfl ?_
    refine V.lload_n (n := 1) dX3_calculate_162 rfl rfl ?_
    refine V.lif_le (q := 171) dX3_calculate_163 rfl dX3_calculate_164 (by decide) rfl h (fun h => ?_) (fun h => ?_)
    · refine V.lconst (x := 0) dX3_calculate_171 (by decide) rfl ?_
      exact V.sub [] rfl (lab_X3_calculate_172 h)
    · refine V.lconst (x := 1) dX3_calculate_167 (by decide) rfl ?_
      refine V.goto (q := 172) dX3_calculate_168 (by decide) ?_
      exact V.sub [] rfl (lab_X3_calculate_172 h)
  exact hh
def J_X3_advance_22 (v0 : Option Nat) (v1 : Option Nat) (M : Mem) : Option (Int32 × Mem) :=
  (ck M 3 v0).bind fun _ => (L_X3_finish v0 v1 M).bind fun w1 =>
  some (w1.1, w1.2)
set_option maxRecDepth 20000 in
set_option maxHeartbeats 4000000 in
theorem lab_X3_advance_22 {G : Gt} {M0 M9 : Mem} {x9 : Int32} {v0 : Option Nat} {v1 : Option Nat} {M : Mem} (h : J_X3_advance_22 v0 v1 M = some (x9, M9)) : V G mX3_advance 3 M0 (some (vI x9)) M9 M 22 [(0, vR v0), (1, vR v1)] [] := by
  unfold J_X3_advance_22 at h
  refine V.aload_n (n := 0) dX3_advance_22 rfl rfl ?_
  refine V.aload_n (n := 1) dX3_advance_23 rfl rfl ?_
  refine V.callVi (d' := 0) (as := [vR v1]) (st := []) dX3_advance_24 meX3_finish mlX3_156 imX3_finish seX3_finish clsX3 rfl (by omega) (Nat.le_of_ble_eq_true rfl) rfl rfl h (fun v hv => lift_X3_finish hv) (fun w1 h => ?_)
  exact V.iret dX3_advance_27 rfl h
def J_X3_advance_201 (s0 : Option Nat) (s1 : Int64) (M : Mem) : Option (Int32 × Mem) :=
  (ck M 3 s0).bind fun _ => (L_X3_push s0 s1 M).bind fun w2 =>
  some (w2.1, w2.2)
set_option maxRecDepth 20000 in
set_option maxHeartbeats 4000000 in
theorem lab_X3_advance_201 {G : Gt} {M0 M9 : Mem} {x9 : Int32} {s0 : Option Nat} {s1 : Int64} {M : Mem} (h : J_X3_advance_201 s0 s1 M = some (x9, M9)) : V G mX3_advance 3 M0 (some (vI x9)) M9 M 201 [] [vL s1, vR s0] := by
  unfold J_X3_advance_201 at h
  refine V.callVi (d' := 0) (as := [vL s1]) (st := []) dX3_advance_201 meX3_push mlX3_162 imX3_push seX3_push clsX3 rfl (by omega) (Nat.le_of_ble_eq_true rfl) rfl rfl h (fun v hv => lift_X3_push hv) (fun w2 h => ?_)
  exact V.iret dX3_advance_204 rfl h
def J_X3_advance_200 (s0 : Option Nat) (M : Mem) : Option (Int32 × Mem) :=
  J_X3_advance_201 s0 (0 : Int64) M
set_option maxRecDepth 20000 in
set_option maxHeartbeats 4000000 in
theorem lab_X3_advance_200 {G : Gt} {M0 M9 : Mem} {x9 : Int32} {s0 : Option Nat} {M : Mem} (h : J_X3_advance_200 s0 M = some (x9, M9)) : V G mX3_advance 3 M0 (some (vI x9)) M9 M 200 [] [vR s0] := by
  unfold J_X3_advance_200 at h
  refine V.lconst (x := 0) dX3_advance_200 (by decide) rfl ?_
  exact (lab_X3_advance_201 h)
def J_X3_advance_257 (s0 : Option Nat) (s1 : Int32) (M : Mem) : Option (Int32 × Mem) :=
  (pI M 2 2 s0 s1).bind fun M3 =>
  some ((-1 : Int32), M3)
set_option maxRecDepth 20000 in
set_option maxHeartbeats 4000000 in
theorem lab_X3_advance_257 {G : Gt} {M0 M9 : Mem} {x9 : Int32} {s0 : Option Nat} {s1 : Int32} {M : Mem} (h : J_X3_advance_257 s0 s1 M = some (x9, M9)) : V G mX3_advance 3 M0 (some (vI x9)) M9 M 257 [] [vI s1, vR s0] := by
  unfold J_X3_advance_257 at h
  refine V.putI dX3_advance_257 lkX3_123 (Or.inl rfl) rfl rfl h (fun M3 h => ?_)
  refine V.iconst (x := (-1)) dX3_advance_260 (by decide) rfl ?_
  exact V.iret dX3_advance_261 rfl h
def J_X3_advance_326 (v0 : Option Nat) (v2 : Int32) (M : Mem) : Option (Int32 × Mem) :=
  (ck M 3 v0).bind fun _ => (L_X3_calculate v0 v2 M).bind fun w4 =>
  some (w4.1, w4.2)
set_option maxRecDepth 20000 in
set_option maxHeartbeats 4000000 in
theorem lab_X3_advance_326 {G : Gt} {M0 M9 : Mem} {x9 : Int32} {v0 : Option Nat} {v2 : Int32} {M : Mem} (h : J_X3_advance_326 v0 v2 M = some (x9, M9)) : V G mX3_advance 3 M0 (some (vI x9)) M9 M 326 [(0, vR v0), (2, vI v2)] [] := by
  unfold J_X3_advance_326 at h
  refine V.aload_n (n := 0) dX3_advance_326 rfl rfl ?_
  refine V.iload_n (n := 1) dX3_advance_327 rfl rfl ?_
  refine V.callVi (d' := 1) (as := [vI v2]) (st := []) dX3_advance_328 meX3_calculate mlX3_181 imX3_calculate seX3_calculate clsX3 rfl (by omega) (Nat.le_of_ble_eq_true rfl) rfl rfl h (fun v hv => lift_X3_calculate hv) (fun w4 h => ?_)
  exact V.iret dX3_advance_331 rfl h
def L_X3_advance (v0 : Option Nat) (v1 : Option Nat) (M : Mem) : Option (Int32 × Mem) :=
  (fI M 2 2 v1).bind fun x5 =>
  if x5 < 0 then
  (J_X3_advance_22 v0 v1 M)
  else
  ((fI M 2 2 v1).bind fun x6 =>
  (fR M 2 1 v1).bind fun x7 =>
  (fR M 6 4 x7).bind fun x8 =>
  (aN M x8).bind fun x9 =>
  if x6 < x9 then
  ((fR M 2 1 v1).bind fun x10 =>
  (fR M 6 4 x10).bind fun x11 =>
  (fI M 2 2 v1).bind fun x12 =>
  (aI M 20 x11 x12).bind fun x13 =>
  (fR M 2 1 v1).bind fun x14 =>
  (fR M 6 5 x14).bind fun x15 =>
  (fI M 2 2 v1).bind fun x16 =>
  (aL M 21 x15 x16).bind fun x17 =>
  if x13 = 0 then
  ((ck M 3 v0).bind fun _ => (L_X3_push v0 x17 M).bind fun w18 =>
  some (w18.1, w18.2))
  else
  if x13 = 1 then
  ((fI M 2 4 v1).bind fun x19 =>
  (ck M 3 v0).bind fun _ => (L_X3_push v0 x19.toInt64 M).bind fun w20 =>
  some (w20.1, w20.2))
  else
  if x13 = 2 then
  (if x17 < (0 : Int64) then
  (J_X3_advance_200 v0 M)
  else
  ((fR M 3 5 v0).bind fun x21 =>
  (aN M x21).bind fun x22 =>
  if x22.toInt64 ≤ x17 then
  (J_X3_advance_200 v0 M)
  else
  ((fR M 3 5 v0).bind fun x23 =>
  (aL M 21 x23 x17.toInt32).bind fun x24 =>
  J_X3_advance_201 v0 x24 M)))
  else
  if x13 = 3 then
  ((ck M 3 v0).bind fun _ => (L_X3_readConst v0 x17 M).bind fun w25 =>
  some (w25.1, w25.2))
  else
  if x13 = 4 then
  ((ck M 3 v0).bind fun _ => (L_X3_readEntry v0 v1 x17 M).bind fun w26 =>
  some (w26.1, w26.2))
  else
  if x13 = 5 then
  ((ck M 3 v0).bind fun _ => (L_X3_pop v0 M).bind fun w27 =>
  (ck w27.2 3 v0).bind fun _ => (L_X3_push v0 (-w27.1) w27.2).bind fun w28 =>
  some (w28.1, w28.2))
  else
  if x13 = 14 then
  ((pI M 2 2 v1 x17.toInt32).bind fun M29 =>
  some ((-1 : Int32), M29))
  else
  if x13 = 15 then
  ((ck M 3 v0).bind fun _ => (L_X3_pop v0 M).bind fun w30 =>
  if ¬ w30.1 = (0 : Int64) then
  ((fI w30.2 2 2 v1).bind fun x31 =>
  J_X3_advance_257 v1 (x31 + (1 : Int32)) w30.2)
  else
  (J_X3_advance_257 v1 x17.toInt32 w30.2))
  else
  if x13 = 16 then
  ((ck M 3 v0).bind fun _ => (L_X3_demand v0 x17.toInt32 M).bind fun w32 =>
  some (w32.1, w32.2))
  else
  if x13 = 17 then
  ((pI M 2 4 v1 (0 : Int32)).bind fun M33 =>
  some ((0 : Int32), M33))
  else
  if x13 = 18 then
  ((ck M 3 v0).bind fun _ => (L_X3_storeEntry v0 v1 x17.toInt32 M).bind fun w34 =>
  some (w34.1, w34.2))
  else
  if x13 = 19 then
  ((ck M 3 v0).bind fun _ => (L_X3_pop v0 M).bind fun w35 =>
  if ¬ w35.1 = (0 : Int64) then
  (some ((0 : Int32), w35.2))
  else
  (some (x17.toInt32, w35.2)))
  else
  if x13 = 20 then
  ((ck M 3 v0).bind fun _ => (L_X3_pop v0 M).bind fun w36 =>
  (pL w36.2 3 6 v0 w36.1).bind fun M37 =>
  (fI M37 3 2 v0).bind fun x38 =>
  (pI M37 3 2 v0 (x38 - (1 : Int32))).bind fun M39 =>
  some ((-1 : Int32), M39))
  else
  if x13 = 21 then
  ((ck M 3 v0).bind fun _ => (L_X3_finish v0 v1 M).bind fun w40 =>
  some (w40.1, w40.2))
  else
  (J_X3_advance_326 v0 x13 M))
  else
  (J_X3_advance_22 v0 v1 M))
set_option maxRecDepth 20000 in
set_option maxHeartbeats 4000000 in
theorem lift_X3_advance {G : Gt} {M M9 : Mem} {x9 : Int32} {v0 : Option Nat} {v1 : Option Nat} (h : L_X3_advance v0 v1 M = some (x9, M9)) : Mt G mX3_advance 3 [vR v0, vR v1] M (some (vI x9)) M9 := by
  unfold L_X3_advance at h
  refine Mt.of (by decide +kernel) (Nat.le_of_ble_eq_true rfl) ?_
  have hh : V G mX3_advance 3 M (some (vI x9)) M9 M 0 [(0, vR v0), (1, vR v1)] [] := by
    refine V.aload_n (n := 1) dX3_advance_0 rfl rfl ?_
    refine V.getI dX3_advance_1 lkX3_123 rfl rfl h (fun x5 h => ?_)
    refine V.if_lt (q := 22) dX3_advance_4 (by decide) rfl h (fun h => ?_) (fun h => ?_)
    · exact (lab_X3_advance_22 h)
    · refine V.aload_n (n := 1) dX3_advance_7 rfl rfl ?_
      refine V.getI dX3_advance_8 lkX3_123 rfl rfl h (fun x6 h => ?_)
      refine V.aload_n (n := 1) dX3_advance_11 rfl rfl ?_
      refine V.getR dX3_advance_12 lkX3_122 rfl rfl h (fun x7 h => ?_)
      refine V.getR dX3_advance_15 lkX3_153 rfl rfl h (fun x8 h => ?_)
      refine V.alen dX3_advance_18 rfl h (fun x9 h => ?_)
      refine V.icmp_lt (q := 28) dX3_advance_19 (by decide) rfl h (fun h => ?_) (fun h => ?_)
      · refine V.aload_n (n := 1) dX3_advance_28 rfl rfl ?_
        refine V.getR dX3_advance_29 lkX3_122 rfl rfl h (fun x10 h => ?_)
        refine V.getR dX3_advance_32 lkX3_153 rfl rfl h (fun x11 h => ?_)
        refine V.aload_n (n := 1) dX3_advance_35 rfl rfl ?_
        refine V.getI dX3_advance_36 lkX3_123 rfl rfl h (fun x12 h => ?_)
        refine V.iald dX3_advance_39 rfl h (fun x13 h => ?_)
        refine V.istore_n dX3_advance_40 rfl (by decide) rfl rfl ?_
        refine V.aload_n (n := 2) dX3_advance_41 rfl rfl ?_
        refine V.getR dX3_advance_42 lkX3_122 rfl rfl h (fun x14 h => ?_)
        refine V.getR dX3_advance_45 lkX3_159 rfl rfl h (fun x15 h => ?_)
        refine V.aload_n (n := 2) dX3_advance_48 rfl rfl ?_
        refine V.getI dX3_advance_49 lkX3_123 rfl rfl h (fun x16 h => ?_)
        refine V.lald dX3_advance_52 rfl h (fun x17 h => ?_)
        refine V.lstore_n dX3_advance_53 rfl (by decide) rfl rfl ?_
        refine V.iload_n (n := 1) dX3_advance_54 rfl rfl ?_
        refine V.sw h (fun hx h => ?_) (fun n0 h => ?_)
        · refine V.swt hx ?_
          refine V.tableIn (q := 156) (x := 0) (off := 101) dX3_advance_55 (by decide) (by decide) (by decide) (by decide) ?_
          refine V.aload_n (n := 2) dX3_advance_156 rfl rfl ?_
          refine V.lload_n (n := 0) dX3_advance_157 rfl rfl ?_
          refine V.callVi (d' := 0) (as := [vL x17]) (st := []) dX3_advance_158 meX3_push mlX3_162 imX3_push seX3_push clsX3 rfl (by omega) (Nat.le_of_ble_eq_true rfl) rfl rfl h (fun v hv => lift_X3_push hv) (fun w18 h => ?_)
          exact V.iret dX3_advance_161 rfl h
        refine V.sw h (fun hx h => ?_) (fun n1 h => ?_)
        · refine V.swt hx ?_
          refine V.tableIn (q := 162) (x := 1) (off := 107) dX3_advance_55 (by decide) (by decide) (by decide) (by decide) ?_
          refine V.aload_n (n := 2) dX3_advance_162 rfl rfl ?_
          refine V.aload_n (n := 3) dX3_advance_163 rfl rfl ?_
          refine V.getI dX3_advance_164 lkX3_129 rfl rfl h (fun x19 h => ?_)
          refine V.i2l dX3_advance_167 rfl ?_
          refine V.callVi (d' := 0) (as := [vL x19.toInt64]) (st := []) dX3_advance_168 meX3_push mlX3_162 imX3_push seX3_push clsX3 rfl (by omega) (Nat.le_of_ble_eq_true rfl) rfl rfl h (fun v hv => lift_X3_push hv) (fun w20 h => ?_)
          exact V.iret dX3_advance_171 rfl h
        refine V.sw h (fun hx h => ?_) (fun n2 h => ?_)
        · refine V.swt hx ?_
          refine V.tableIn (q := 172) (x := 2) (off := 117) dX3_advance_55 (by decide) (by decide) (by decide) (by decide) ?_
          refine V.aload_n (n := 2) dX3_advance_172 rfl rfl ?_
          refine V.lload_n (n := 0) dX3_advance_173 rfl rfl ?_
          refine V.lconst (x := 0) dX3_advance_174 (by decide) rfl ?_
          refine V.lif_lt (q := 200) dX3_advance_175 rfl dX3_advance_176 (by decide) rfl h (fun h => ?_) (fun h => ?_)
          · exact V.sub [] rfl (lab_X3_advance_200 h)
          · refine V.lload_n (n := 0) dX3_advance_179 rfl rfl ?_
            refine V.aload_n (n := 2) dX3_advance_180 rfl rfl ?_
            refine V.getR dX3_advance_181 lkX3_26 rfl rfl h (fun x21 h => ?_)
            refine V.alen dX3_advance_184 rfl h (fun x22 h => ?_)
            refine V.i2l dX3_advance_185 rfl ?_
            refine V.lif_ge (q := 200) dX3_advance_186 rfl dX3_advance_187 (by decide) rfl h (fun h => ?_) (fun h => ?_)
            · exact V.sub [] rfl (lab_X3_advance_200 h)
            · refine V.aload_n (n := 2) dX3_advance_190 rfl rfl ?_
              refine V.getR dX3_advance_191 lkX3_26 rfl rfl h (fun x23 h => ?_)
              refine V.lload_n (n := 0) dX3_advance_194 rfl rfl ?_
              refine V.l2i dX3_advance_195 rfl ?_
              refine V.lald dX3_advance_196 rfl h (fun x24 h => ?_)
              refine V.goto (q := 201) dX3_advance_197 (by decide) ?_
              exact V.sub [] rfl (lab_X3_advance_201 h)
        refine V.sw h (fun hx h => ?_) (fun n3 h => ?_)
        · refine V.swt hx ?_
          refine V.tableIn (q := 205) (x := 3) (off := 150) dX3_advance_55 (by decide) (by decide) (by decide) (by decide) ?_
          refine V.aload_n (n := 2) dX3_advance_205 rfl rfl ?_
          refine V.lload_n (n := 0) dX3_advance_206 rfl rfl ?_
          refine V.callVi (d' := 2) (as := [vL x17]) (st := []) dX3_advance_207 meX3_readConst mlX3_166 imX3_readConst seX3_readConst clsX3 rfl (by omega) (Nat.le_of_ble_eq_true rfl) rfl rfl h (fun v hv => lift_X3_readConst hv) (fun w25 h => ?_)
          exact V.iret dX3_advance_210 rfl h
        refine V.sw h (fun hx h => ?_) (fun n4 h => ?_)
        · refine V.swt hx ?_
          refine V.tableIn (q := 211) (x := 4) (off := 156) dX3_advance_55 (by decide) (by decide) (by decide) (by decide) ?_
          refine V.aload_n (n := 2) dX3_advance_211 rfl rfl ?_
          refine V.aload_n (n := 3) dX3_advance_212 rfl rfl ?_
          refine V.lload_n (n := 0) dX3_advance_213 rfl rfl ?_
          refine V.callVi (d' := 2) (as := [vR v1, vL x17]) (st := []) dX3_advance_214 meX3_readEntry mlX3_169 imX3_readEntry seX3_readEntry clsX3 rfl (by omega) (Nat.le_of_ble_eq_true rfl) rfl rfl h (fun v hv => lift_X3_readEntry hv) (fun w26 h => ?_)
          exact V.iret dX3_advance_217 rfl h
        refine V.sw h (fun hx h => ?_) (fun n5 h => ?_)
        · refine V.swt hx ?_
          refine V.tableIn (q := 218) (x := 5) (off := 163) dX3_advance_55 (by decide) (by decide) (by decide) (by decide) ?_
          refine V.aload_n (n := 2) dX3_advance_218 rfl rfl ?_
          refine V.aload_n (n := 2) dX3_advance_219 rfl rfl ?_
          refine V.callVl (d' := 0) (as := []) (st := [vR v0]) dX3_advance_220 meX3_pop mlX3_173 imX3_pop seX3_pop clsX3 rfl (by omega) (Nat.le_of_ble_eq_true rfl) rfl rfl h (fun v hv => lift_X3_pop hv) (fun w27 h => ?_)
          refine V.lneg dX3_advance_223 rfl ?_
          refine V.callVi (d' := 0) (as := [vL (-w27.1)]) (st := []) dX3_advance_224 meX3_push mlX3_162 imX3_push seX3_push clsX3 rfl (by omega) (Nat.le_of_ble_eq_true rfl) rfl rfl h (fun v hv => lift_X3_push hv) (fun w28 h => ?_)
          exact V.iret dX3_advance_227 rfl h
        refine V.sw h (fun hx h => ?_) (fun n14 h => ?_)
        · refine V.swt hx ?_
          refine V.tableIn (q := 228) (x := 14) (off := 173) dX3_advance_55 (by decide) (by decide) (by decide) (by decide) ?_
          refine V.aload_n (n := 3) dX3_advance_228 rfl rfl ?_
          refine V.lload_n (n := 0) dX3_advance_229 rfl rfl ?_
          refine V.l2i dX3_advance_230 rfl ?_
          refine V.putI dX3_advance_231 lkX3_123 (Or.inl rfl) rfl rfl h (fun M29 h => ?_)
          refine V.iconst (x := (-1)) dX3_advance_234 (by decide) rfl ?_
          exact V.iret dX3_advance_235 rfl h
        refine V.sw h (fun hx h => ?_) (fun n15 h => ?_)
        · refine V.swt hx ?_
          refine V.tableIn (q := 236) (x := 15) (off := 181) dX3_advance_55 (by decide) (by decide) (by decide) (by decide) ?_
          refine V.aload_n (n := 3) dX3_advance_236 rfl rfl ?_
          refine V.aload_n (n := 2) dX3_advance_237 rfl rfl ?_
          refine V.callVl (d' := 0) (as := []) (st := [vR v1]) dX3_advance_238 meX3_pop mlX3_173 imX3_pop seX3_pop clsX3 rfl (by omega) (Nat.le_of_ble_eq_true rfl) rfl rfl h (fun v hv => lift_X3_pop hv) (fun w30 h => ?_)
          refine V.lconst (x := 0) dX3_advance_241 (by decide) rfl ?_
          refine V.lif_ne (q := 251) dX3_advance_242 rfl dX3_advance_243 (by decide) rfl h (fun h => ?_) (fun h => ?_)
          · refine V.aload_n (n := 3) dX3_advance_251 rfl rfl ?_
            refine V.getI dX3_advance_252 lkX3_123 rfl rfl h (fun x31 h => ?_)
            refine V.iconst (x := 1) dX3_advance_255 (by decide) rfl ?_
            refine V.iadd dX3_advance_256 rfl ?_
            exact V.sub [] rfl (lab_X3_advance_257 h)
          · refine V.lload_n (n := 0) dX3_advance_246 rfl rfl ?_
            refine V.l2i dX3_advance_247 rfl ?_
            refine V.goto (q := 257) dX3_advance_248 (by decide) ?_
            exact V.sub [] rfl (lab_X3_advance_257 h)
        refine V.sw h (fun hx h => ?_) (fun n16 h => ?_)
        · refine V.swt hx ?_
          refine V.tableIn (q := 262) (x := 16) (off := 207) dX3_advance_55 (by decide) (by decide) (by decide) (by decide) ?_
          refine V.aload_n (n := 2) dX3_advance_262 rfl rfl ?_
          refine V.lload_n (n := 0) dX3_advance_263 rfl rfl ?_
          refine V.l2i dX3_advance_264 rfl ?_
          refine V.callVi (d' := 1) (as := [vI x17.toInt32]) (st := []) dX3_advance_265 meX3_demand mlX3_43 imX3_demand seX3_demand clsX3 rfl (by omega) (Nat.le_of_ble_eq_true rfl) rfl rfl h (fun v hv => lift_X3_demand hv) (fun w32 h => ?_)
          exact V.iret dX3_advance_268 rfl h
        refine V.sw h (fun hx h => ?_) (fun n17 h => ?_)
        · refine V.swt hx ?_
          refine V.tableIn (q := 269) (x := 17) (off := 214) dX3_advance_55 (by decide) (by decide) (by decide) (by decide) ?_
          refine V.aload_n (n := 3) dX3_advance_269 rfl rfl ?_
          refine V.iconst (x := 0) dX3_advance_270 (by decide) rfl ?_
          refine V.putI dX3_advance_271 lkX3_129 (Or.inl rfl) rfl rfl h (fun M33 h => ?_)
          refine V.iconst (x := 0) dX3_advance_274 (by decide) rfl ?_
          exact V.iret dX3_advance_275 rfl h
        refine V.sw h (fun hx h => ?_) (fun n18 h => ?_)
        · refine V.swt hx ?_
          refine V.tableIn (q := 276) (x := 18) (off := 221) dX3_advance_55 (by decide) (by decide) (by decide) (by decide) ?_
          refine V.aload_n (n := 2) dX3_advance_276 rfl rfl ?_
          refine V.aload_n (n := 3) dX3_advance_277 rfl rfl ?_
          refine V.lload_n (n := 0) dX3_advance_278 rfl rfl ?_
          refine V.l2i dX3_advance_279 rfl ?_
          refine V.callVi (d' := 1) (as := [vR v1, vI x17.toInt32]) (st := []) dX3_advance_280 meX3_storeEntry mlX3_177 imX3_storeEntry seX3_storeEntry clsX3 rfl (by omega) (Nat.le_of_ble_eq_true rfl) rfl rfl h (fun v hv => lift_X3_storeEntry hv) (fun w34 h => ?_)
          exact V.iret dX3_advance_283 rfl h
        refine V.sw h (fun hx h => ?_) (fun n19 h => ?_)
        · refine V.swt hx ?_
          refine V.tableIn (q := 284) (x := 19) (off := 229) dX3_advance_55 (by decide) (by decide) (by decide) (by decide) ?_
          refine V.aload_n (n := 2) dX3_advance_284 rfl rfl ?_
          refine V.callVl (d' := 0) (as := []) (st := []) dX3_advance_285 meX3_pop mlX3_173 imX3_pop seX3_pop clsX3 rfl (by omega) (Nat.le_of_ble_eq_true rfl) rfl rfl h (fun v hv => lift_X3_pop hv) (fun w35 h => ?_)
          refine V.lconst (x := 0) dX3_advance_288 (by decide) rfl ?_
          refine V.lif_ne (q := 298) dX3_advance_289 rfl dX3_advance_290 (by decide) rfl h (fun h => ?_) (fun h => ?_)
          · refine V.iconst (x := 0) dX3_advance_298 (by decide) rfl ?_
            exact V.iret dX3_advance_299 rfl h
          · refine V.lload_n (n := 0) dX3_advance_293 rfl rfl ?_
            refine V.l2i dX3_advance_294 rfl ?_
            refine V.goto (q := 299) dX3_advance_295 (by decide) ?_
            exact V.iret dX3_advance_299 rfl h
        refine V.sw h (fun hx h => ?_) (fun n20 h => ?_)
        · refine V.swt hx ?_
          refine V.tableIn (q := 300) (x := 20) (off := 245) dX3_advance_55 (by decide) (by decide) (by decide) (by decide) ?_
          refine V.aload_n (n := 2) dX3_advance_300 rfl rfl ?_
          refine V.aload_n (n := 2) dX3_advance_301 rfl rfl ?_
          refine V.callVl (d' := 0) (as := []) (st := [vR v0]) dX3_advance_302 meX3_pop mlX3_173 imX3_pop seX3_pop clsX3 rfl (by omega) (Nat.le_of_ble_eq_true rfl) rfl rfl h (fun v hv => lift_X3_pop hv) (fun w36 h => ?_)
          refine V.putL dX3_advance_305 lkX3_75 (Or.inl rfl) rfl rfl h (fun M37 h => ?_)
          refine V.aload_n (n := 2) dX3_advance_308 rfl rfl ?_
          refine V.dup dX3_advance_309 rfl rfl ?_
          refine V.getI dX3_advance_310 lkX3_37 rfl rfl h (fun x38 h => ?_)
          refine V.iconst (x := 1) dX3_advance_313 (by decide) rfl ?_
          refine V.isub dX3_advance_314 rfl ?_
          refine V.putI dX3_advance_315 lkX3_37 (Or.inl rfl) rfl rfl h (fun M39 h => ?_)
          refine V.iconst (x := (-1)) dX3_advance_318 (by decide) rfl ?_
          exact V.iret dX3_advance_319 rfl h
        refine V.sw h (fun hx h => ?_) (fun n21 h => ?_)
        · refine V.swt hx ?_
          refine V.tableIn (q := 320) (x := 21) (off := 265) dX3_advance_55 (by decide) (by decide) (by decide) (by decide) ?_
          refine V.aload_n (n := 2) dX3_advance_320 rfl rfl ?_
          refine V.aload_n (n := 3) dX3_advance_321 rfl rfl ?_
          refine V.callVi (d' := 0) (as := [vR v1]) (st := []) dX3_advance_322 meX3_finish mlX3_156 imX3_finish seX3_finish clsX3 rfl (by omega) (Nat.le_of_ble_eq_true rfl) rfl rfl h (fun v hv => lift_X3_finish hv) (fun w40 h => ?_)
          exact V.iret dX3_advance_325 rfl h
        refine V.cs (c := 6) (fun hx => ?_) (fun n6 => ?_)
        · refine V.swt hx ?_
          refine V.tableIn (q := 326) (x := 6) (off := 271) dX3_advance_55 (by decide) (by decide) (by decide) (by decide) ?_
          exact V.sub [2, 1] rfl (lab_X3_advance_326 h)
        refine V.cs (c := 7) (fun hx => ?_) (fun n7 => ?_)
        · refine V.swt hx ?_
          refine V.tableIn (q := 326) (x := 7) (off := 271) dX3_advance_55 (by decide) (by decide) (by decide) (by decide) ?_
          exact V.sub [2, 1] rfl (lab_X3_advance_326 h)
        refine V.cs (c := 8) (fun hx => ?_) (fun n8 => ?_)
        · refine V.swt hx ?_
          refine V.tableIn (q := 326) (x := 8) (off := 271) dX3_advance_55 (by decide) (by decide) (by decide) (by decide) ?_
          exact V.sub [2, 1] rfl (lab_X3_advance_326 h)
        refine V.cs (c := 9) (fun hx => ?_) (fun n9 => ?_)
        · refine V.swt hx ?_
          refine V.tableIn (q := 326) (x := 9) (off := 271) dX3_advance_55 (by decide) (by decide) (by decide) (by decide) ?_
          exact V.sub [2, 1] rfl (lab_X3_advance_326 h)
        refine V.cs (c := 10) (fun hx => ?_) (fun n10 => ?_)
        · refine V.swt hx ?_
          refine V.tableIn (q := 326) (x := 10) (off := 271) dX3_advance_55 (by decide) (by decide) (by decide) (by decide) ?_
          exact V.sub [2, 1] rfl (lab_X3_advance_326 h)
        refine V.cs (c := 11) (fun hx => ?_) (fun n11 => ?_)
        · refine V.swt hx ?_
          refine V.tableIn (q := 326) (x := 11) (off := 271) dX3_advance_55 (by decide) (by decide) (by decide) (by decide) ?_
          exact V.sub [2, 1] rfl (lab_X3_advance_326 h)
        refine V.cs (c := 12) (fun hx => ?_) (fun n12 => ?_)
        · refine V.swt hx ?_
          refine V.tableIn (q := 326) (x := 12) (off := 271) dX3_advance_55 (by decide) (by decide) (by decide) (by decide) ?_
          exact V.sub [2, 1] rfl (lab_X3_advance_326 h)
        refine V.cs (c := 13) (fun hx => ?_) (fun n13 => ?_)
        · refine V.swt hx ?_
          refine V.tableIn (q := 326) (x := 13) (off := 271) dX3_advance_55 (by decide) (by decide) (by decide) (by decide) ?_
          exact V.sub [2, 1] rfl (lab_X3_advance_326 h)
        have e0 := sw_ne n0
        have e1 := sw_ne n1
        have e2 := sw_ne n2
        have e3 := sw_ne n3
        have e4 := sw_ne n4
        have e5 := sw_ne n5
        have e6 := sw_ne n6
        have e7 := sw_ne n7
        have e8 := sw_ne n8
        have e9 := sw_ne n9
        have e10 := sw_ne n10
        have e11 := sw_ne n11
        have e12 := sw_ne n12
        have e13 := sw_ne n13
        have e14 := sw_ne n14
        have e15 := sw_ne n15
        have e16 := sw_ne n16
        have e17 := sw_ne n17
        have e18 := sw_ne n18
        have e19 := sw_ne n19
        have e20 := sw_ne n20
        have e21 := sw_ne n21
        have t0 : (0 : Int32).toInt = 0 := by decide
        have t1 : (1 : Int32).toInt = 1 := by decide
        have t2 : (2 : Int32).toInt = 2 := by decide
        have t3 : (3 : Int32).toInt = 3 := by decide
        have t4 : (4 : Int32).toInt = 4 := by decide
        have t5 : (5 : Int32).toInt = 5 := by decide
        have t6 : (6 : Int32).toInt = 6 := by decide
        have t7 : (7 : Int32).toInt = 7 := by decide
        have t8 : (8 : Int32).toInt = 8 := by decide
        have t9 : (9 : Int32).toInt = 9 := by decide
        have t10 : (10 : Int32).toInt = 10 := by decide
        have t11 : (11 : Int32).toInt = 11 := by decide
        have t12 : (12 : Int32).toInt = 12 := by decide
        have t13 : (13 : Int32).toInt = 13 := by decide
        have t14 : (14 : Int32).toInt = 14 := by decide
        have t15 : (15 : Int32).toInt = 15 := by decide
        have t16 : (16 : Int32).toInt = 16 := by decide
        have t17 : (17 : Int32).toInt = 17 := by decide
        have t18 : (18 : Int32).toInt = 18 := by decide
        have t19 : (19 : Int32).toInt = 19 := by decide
        have t20 : (20 : Int32).toInt = 20 := by decide
        have t21 : (21 : Int32).toInt = 21 := by decide
        refine V.tableOut (q := 326) dX3_advance_55 (by omega) (by decide) ?_
        exact V.sub [2, 1] rfl (lab_X3_advance_326 h)
      · exact (lab_X3_advance_22 h)
  exact hh
def J_X6_catchAt_39 (k_8 : Option Nat → Int32 → Int32 → Mem → Option (Int32 × Mem)) (v0 : Option Nat) (v1 : Int32) (v2 : Int32) (M : Mem) : Option (Int32 × Mem) :=
  k_8 v0 v1 (v2 + (-1)) M
set_option maxRecDepth 20000 in
set_option maxHeartbeats 4000000 in
theorem lab_X6_catchAt_39 {G : Gt} {M0 M9 : Mem} {x9 : Int32} {k_8 : Option Nat → Int32 → Int32 → Mem → Option (Int32 × Mem)} (hk_8 : ∀ (v0 : Option Nat) (v1 : Int32) (v2 : Int32) (Ma : Mem), k_8 v0 v1 v2 Ma = some (x9, M9) → V G mX6_catchAt 0 M0 (some (vI x9)) M9 Ma 8 [(0, vR v0), (1, vI v1), (2, vI v2)] []) {v0 : Option Nat} {v1 : Int32} {v2 : Int32} {M : Mem} (h : J_X6_catchAt_39 k_8 v0 v1 v2 M = some (x9, M9)) : V G mX6_catchAt 0 M0 (some (vI x9)) M9 M 39 [(0, vR v0), (1, vI v1), (2, vI v2)] [] := by
  unfold J_X6_catchAt_39 at h
  refine V.iinc (n := 2) (x := v2 + (-1)) dX6_catchAt_39 rfl (by rfl) (by decide) rfl rfl ?_
  refine V.goto (q := 8) dX6_catchAt_42 (by decide) ?_
  exact V.sub [1, 2, 0] rfl (hk_8 _ _ _ _ h)
def J_X6_catchAt_8 : Nat → Option Nat → Int32 → Int32 → Mem → Option (Int32 × Mem)
  | 0 => fun _ _ _ _ => none
  | n + 1 => fun v0 v1 v2 M =>
  if v2 < 0 then
  (some ((-1 : Int32), M))
  else
  ((fR M 6 10 v0).bind fun x1 =>
  (aI M 20 x1 v2).bind fun x2 =>
  if v1 < x2 then
  (J_X6_catchAt_39 (J_X6_catchAt_8 n) v0 v1 v2 M)
  else
  ((fR M 6 11 v0).bind fun x3 =>
  (aI M 20 x3 v2).bind fun x4 =>
  if x4 ≤ v1 then
  (J_X6_catchAt_39 (J_X6_catchAt_8 n) v0 v1 v2 M)
  else
  ((fR M 6 12 v0).bind fun x5 =>
  (aI M 20 x5 v2).bind fun x6 =>
  some (x6, M))))
set_option maxRecDepth 20000 in
set_option maxHeartbeats 4000000 in
theorem lab_X6_catchAt_8 {G : Gt} {M0 M9 : Mem} {x9 : Int32} : ∀ (n : Nat) (v0 : Option Nat) (v1 : Int32) (v2 : Int32) (M : Mem), J_X6_catchAt_8 n v0 v1 v2 M = some (x9, M9) → V G mX6_catchAt 0 M0 (some (vI x9)) M9 M 8 [(0, vR v0), (1, vI v1), (2, vI v2)] [] := by
  intro n
  induction n with
  | zero => intro v0 v1 v2 M h; exact nomatch h
  | succ n ih =>
    intro v0 v1 v2 M h
    unfold J_X6_catchAt_8 at h
    refine V.iload_n (n := 2) dX6_catchAt_8 rfl rfl ?_
    refine V.if_lt (q := 45) dX6_catchAt_9 (by decide) rfl h (fun h => ?_) (fun h => ?_)
    · refine V.iconst (x := (-1)) dX6_catchAt_45 (by decide) rfl ?_
      exact V.iret dX6_catchAt_46 rfl h
    · refine V.aload_n (n := 0) dX6_catchAt_12 rfl rfl ?_
      refine V.getR dX6_catchAt_13 lkX6_80 rfl rfl h (fun x1 h => ?_)
      refine V.iload_n (n := 2) dX6_catchAt_16 rfl rfl ?_
      refine V.iald dX6_catchAt_17 rfl h (fun x2 h => ?_)
      refine V.iload_n (n := 1) dX6_catchAt_18 rfl rfl ?_
      refine V.icmp_gt (q := 39) dX6_catchAt_19 (by decide) rfl h (fun h => ?_) (fun h => ?_)
      · exact (lab_X6_catchAt_39 ih h)
      · refine V.iload_n (n := 1) dX6_catchAt_22 rfl rfl ?_
        refine V.aload_n (n := 0) dX6_catchAt_23 rfl rfl ?_
        refine V.getR dX6_catchAt_24 lkX6_84 rfl rfl h (fun x3 h => ?_)
        refine V.iload_n (n := 2) dX6_catchAt_27 rfl rfl ?_
        refine V.iald dX6_catchAt_28 rfl h (fun x4 h => ?_)
        refine V.icmp_ge (q := 39) dX6_catchAt_29 (by decide) rfl h (fun h => ?_) (fun h => ?_)
        · exact (lab_X6_catchAt_39 ih h)
        · refine V.aload_n (n := 0) dX6_catchAt_32 rfl rfl ?_
          refine V.getR dX6_catchAt_33 lkX6_88 rfl rfl h (fun x5 h => ?_)
          refine V.iload_n (n := 2) dX6_catchAt_36 rfl rfl ?_
          refine V.iald dX6_catchAt_37 rfl h (fun x6 h => ?_)
          exact V.iret dX6_catchAt_38 rfl h
def L_X6_catchAt (v0 : Option Nat) (v1 : Int32) (M : Mem) : Option (Int32 × Mem) :=
  (fR M 6 10 v0).bind fun x7 =>
  (aN M x7).bind fun x8 =>
  J_X6_catchAt_8 FU v0 v1 (x8 - (1 : Int32)) M
set_option maxRecDepth 20000 in
set_option maxHeartbeats 4000000 in
theorem lift_X6_catchAt {G : Gt} {M M9 : Mem} {x9 : Int32} {v0 : Option Nat} {v1 : Int32} (h : L_X6_catchAt v0 v1 M = some (x9, M9)) : Mt G mX6_catchAt 0 [vR v0, vI v1] M (some (vI x9)) M9 := by
  unfold L_X6_catchAt at h
  refine Mt.of (by decide +kernel) (Nat.le_of_ble_eq_true rfl) ?_
  have hh : V G mX6_catchAt 0 M (some (vI x9)) M9 M 0 [(0, vR v0), (1, vI v1)] [] := by
    refine V.aload_n (n := 0) dX6_catchAt_0 rfl rfl ?_
    refine V.getR dX6_catchAt_1 lkX6_80 rfl rfl h (fun x7 h => ?_)
    refine V.alen dX6_catchAt_4 rfl h (fun x8 h => ?_)
    refine V.iconst (x := 1) dX6_catchAt_5 (by decide) rfl ?_
    refine V.isub dX6_catchAt_6 rfl ?_
    refine V.istore_n dX6_catchAt_7 rfl (by decide) rfl rfl ?_
    exact V.sub [1, 2, 0] rfl (lab_X6_catchAt_8 FU _ _ _ _ h)
  exact hh
def J_X3_unwind_112 (k_2 : Option Nat → Int32 → Int32 → Mem → Option (Int32 × Mem)) (v0 : Option Nat) (v1 : Int32) (v2 : Int32) (M : Mem) : Option (Int32 × Mem) :=
  (fI M 3 2 v0).bind fun x1 =>
  (pI M 3 2 v0 (x1 - (1 : Int32))).bind fun M2 =>
  k_2 v0 v1 (v2 + 1) M2
set_option maxRecDepth 20000 in
set_option maxHeartbeats 4000000 in
theorem lab_X3_unwind_112 {G : Gt} {M0 M9 : Mem} {x9 : Int32} {k_2 : Option Nat → Int32 → Int32 → Mem → Option (Int32 × Mem)} (hk_2 : ∀ (v0 : Option Nat) (v1 : Int32) (v2 : Int32) (Ma : Mem), k_2 v0 v1 v2 Ma = some (x9, M9) → V G mX3_unwind 1 M0 (some (vI x9)) M9 Ma 2 [(0, vR v0), (1, vI v1), (2, vI v2)] []) {v0 : Option Nat} {v1 : Int32} {v2 : Int32} {M : Mem} (h : J_X3_unwind_112 k_2 v0 v1 v2 M = some (x9, M9)) : V G mX3_unwind 1 M0 (some (vI x9)) M9 M 112 [(0, vR v0), (1, vI v1), (2, vI v2)] [] := by
  unfold J_X3_unwind_112 at h
  refine V.aload_n (n := 0) dX3_unwind_112 rfl rfl ?_
  refine V.dup dX3_unwind_113 rfl rfl ?_
  refine V.getI dX3_unwind_114 lkX3_37 rfl rfl h (fun x1 h => ?_)
  refine V.iconst (x := 1) dX3_unwind_117 (by decide) rfl ?_
  refine V.isub dX3_unwind_118 rfl ?_
  refine V.putI dX3_unwind_119 lkX3_37 (Or.inl rfl) rfl rfl h (fun M2 h => ?_)
  refine V.iinc (n := 2) (x := v2 + 1) dX3_unwind_122 rfl (by rfl) (by decide) rfl rfl ?_
  refine V.goto (q := 2) dX3_unwind_125 (by decide) ?_
  exact V.sub [1, 2, 0] rfl (hk_2 _ _ _ _ h)
def J_X3_unwind_57 (k_2 : Option Nat → Int32 → Int32 → Mem → Option (Int32 × Mem)) (v0 : Option Nat) (v1 : Int32) (v2 : Int32) (v3 : Option Nat) (s0 : Int32) (M : Mem) : Option (Int32 × Mem) :=
  if s0 = (-1 : Int32) then
  ((fI M 2 5 v3).bind fun x3 =>
  if x3 = 0 then
  (J_X3_unwind_112 k_2 v0 v1 v2 M)
  else
  ((fR M 3 0 v0).bind fun x4 =>
  (fR M 1 1 x4).bind fun x5 =>
  (fI M 2 0 v3).bind fun x6 =>
  (aR M 26 x5 x6).bind fun x7 =>
  (pI M 8 1 x7 (3 : Int32)).bind fun M8 =>
  (fR M8 3 0 v0).bind fun x9 =>
  (fR M8 1 1 x9).bind fun x10 =>
  (fI M8 2 0 v3).bind fun x11 =>
  (aR M8 26 x10 x11).bind fun x12 =>
  (pI M8 8 3 x12 v1).bind fun M13 =>
  J_X3_unwind_112 k_2 v0 v1 v2 M13))
  else
  ((pI M 2 2 v3 s0).bind fun M14 =>
  some ((0 : Int32), M14))
set_option maxRecDepth 20000 in
set_option maxHeartbeats 4000000 in
theorem lab_X3_unwind_57 {G : Gt} {M0 M9 : Mem} {x9 : Int32} {k_2 : Option Nat → Int32 → Int32 → Mem → Option (Int32 × Mem)} (hk_2 : ∀ (v0 : Option Nat) (v1 : Int32) (v2 : Int32) (Ma : Mem), k_2 v0 v1 v2 Ma = some (x9, M9) → V G mX3_unwind 1 M0 (some (vI x9)) M9 Ma 2 [(0, vR v0), (1, vI v1), (2, vI v2)] []) {v0 : Option Nat} {v1 : Int32} {v2 : Int32} {v3 : Option Nat} {s0 : Int32} {M : Mem} (h : J_X3_unwind_57 k_2 v0 v1 v2 v3 s0 M = some (x9, M9)) : V G mX3_unwind 1 M0 (some (vI x9)) M9 M 57 [(0, vR v0), (1, vI v1), (2, vI v2), (3, vR v3)] [vI s0] := by
  unfold J_X3_unwind_57 at h
  refine V.istore dX3_unwind_57 (by decide) rfl rfl ?_
  refine V.iload (n := 0) dX3_unwind_59 rfl rfl ?_
  refine V.iconst (x := (-1)) dX3_unwind_61 (by decide) rfl ?_
  refine V.icmp_eq (q := 73) dX3_unwind_62 (by decide) rfl h (fun h => ?_) (fun h => ?_)
  · refine V.aload_n (n := 4) dX3_unwind_73 rfl rfl ?_
    refine V.getI dX3_unwind_74 lkX3_132 rfl rfl h (fun x3 h => ?_)
    refine V.if_eq (q := 112) dX3_unwind_77 (by decide) rfl h (fun h => ?_) (fun h => ?_)
    · exact V.sub [1, 2, 3] rfl (lab_X3_unwind_112 hk_2 h)
    · refine V.aload_n (n := 1) dX3_unwind_80 rfl rfl ?_
      refine V.getR dX3_unwind_81 lkX3_9 rfl rfl h (fun x4 h => ?_)
      refine V.getR dX3_unwind_84 lkX3_100 rfl rfl h (fun x5 h => ?_)
      refine V.aload_n (n := 4) dX3_unwind_87 rfl rfl ?_
      refine V.getI dX3_unwind_88 lkX3_119 rfl rfl h (fun x6 h => ?_)
      refine V.aald (k := 26) dX3_unwind_91 (by decide) (by decide) rfl h (fun x7 h => ?_)
      refine V.iconst (x := 3) dX3_unwind_92 (by decide) rfl ?_
      refine V.putI dX3_unwind_93 lkX3_136 (Or.inl rfl) rfl rfl h (fun M8 h => ?_)
      refine V.aload_n (n := 1) dX3_unwind_96 rfl rfl ?_
      refine V.getR dX3_unwind_97 lkX3_9 rfl rfl h (fun x9 h => ?_)
      refine V.getR dX3_unwind_100 lkX3_100 rfl rfl h (fun x10 h => ?_)
      refine V.aload_n (n := 4) dX3_unwind_103 rfl rfl ?_
      refine V.getI dX3_unwind_104 lkX3_119 rfl rfl h (fun x11 h => ?_)
      refine V.aald (k := 26) dX3_unwind_107 (by decide) (by decide) rfl h (fun x12 h => ?_)
      refine V.iload_n (n := 2) dX3_unwind_108 rfl rfl ?_
      refine V.putI dX3_unwind_109 lkX3_150 (Or.inl rfl) rfl rfl h (fun M13 h => ?_)
      exact V.sub [1, 2, 3] rfl (lab_X3_unwind_112 hk_2 h)
  · refine V.aload_n (n := 4) dX3_unwind_65 rfl rfl ?_
    refine V.iload (n := 0) dX3_unwind_66 rfl rfl ?_
    refine V.putI dX3_unwind_68 lkX3_123 (Or.inl rfl) rfl rfl h (fun M14 h => ?_)
    refine V.iconst (x := 0) dX3_unwind_71 (by decide) rfl ?_
    exact V.iret dX3_unwind_72 rfl h
def J_X3_unwind_2 : Nat → Option Nat → Int32 → Int32 → Mem → Option (Int32 × Mem)
  | 0 => fun _ _ _ _ => none
  | n + 1 => fun v0 v1 v2 M =>
  if (31 : Int32) ≤ v2 then
  (some (v1, M))
  else
  ((fI M 3 2 v0).bind fun x15 =>
  if x15 ≤ 0 then
  (some (v1, M))
  else
  ((fR M 3 1 v0).bind fun x16 =>
  (fI M 3 2 v0).bind fun x17 =>
  (aR M 27 x16 (x17 - (1 : Int32))).bind fun x18 =>
  (fI M 2 3 x18).bind fun x19 =>
  (pI M 3 4 v0 x19).bind fun M20 =>
  (fI M20 2 5 x18).bind fun x21 =>
  if x21 = 0 then
  (J_X3_unwind_57 (J_X3_unwind_2 n) v0 v1 v2 x18 (-1 : Int32) M20)
  else
  ((fR M20 2 1 x18).bind fun x22 =>
  (fI M20 2 2 x18).bind fun x23 =>
  (ck M20 6 x22).bind fun _ => (L_X6_catchAt x22 x23 M20).bind fun w24 =>
  J_X3_unwind_57 (J_X3_unwind_2 n) v0 v1 v2 x18 w24.1 w24.2)))
set_option maxRecDepth 20000 in
set_option maxHeartbeats 4000000 in
theorem lab_X3_unwind_2 {G : Gt} {M0 M9 : Mem} {x9 : Int32} : ∀ (n : Nat) (v0 : Option Nat) (v1 : Int32) (v2 : Int32) (M : Mem), J_X3_unwind_2 n v0 v1 v2 M = some (x9, M9) → V G mX3_unwind 1 M0 (some (vI x9)) M9 M 2 [(0, vR v0), (1, vI v1), (2, vI v2)] [] := by
  intro n
  induction n with
  | zero => intro v0 v1 v2 M h; exact nomatch h
  | succ n ih =>
    intro v0 v1 v2 M h
    unfold J_X3_unwind_2 at h
    refine V.iload_n (n := 2) dX3_unwind_2 rfl rfl ?_
    refine V.bipush (x := 31) dX3_unwind_3 (by decide) rfl ?_
    refine V.icmp_ge (q := 128) dX3_unwind_5 (by decide) rfl h (fun h => ?_) (fun h => ?_)
    · refine V.iload_n (n := 1) dX3_unwind_128 rfl rfl ?_
      exact V.iret dX3_unwind_129 rfl h
    · refine V.aload_n (n := 0) dX3_unwind_8 rfl rfl ?_
      refine V.getI dX3_unwind_9 lkX3_37 rfl rfl h (fun x15 h => ?_)
      refine V.if_le (q := 128) dX3_unwind_12 (by decide) rfl h (fun h => ?_) (fun h => ?_)
      · refine V.iload_n (n := 1) dX3_unwind_128 rfl rfl ?_
        exact V.iret dX3_unwind_129 rfl h
      · refine V.aload_n (n := 0) dX3_unwind_15 rfl rfl ?_
        refine V.getR dX3_unwind_16 lkX3_17 rfl rfl h (fun x16 h => ?_)
        refine V.aload_n (n := 0) dX3_unwind_19 rfl rfl ?_
        refine V.getI dX3_unwind_20 lkX3_37 rfl rfl h (fun x17 h => ?_)
        refine V.iconst (x := 1) dX3_unwind_23 (by decide) rfl ?_
        refine V.isub dX3_unwind_24 rfl ?_
        refine V.aald (k := 27) dX3_unwind_25 (by decide) (by decide) rfl h (fun x18 h => ?_)
        refine V.astore_n dX3_unwind_26 rfl (by decide) rfl rfl ?_
        refine V.aload_n (n := 1) dX3_unwind_27 rfl rfl ?_
        refine V.aload_n (n := 0) dX3_unwind_28 rfl rfl ?_
        refine V.getI dX3_unwind_29 lkX3_126 rfl rfl h (fun x19 h => ?_)
        refine V.putI dX3_unwind_32 lkX3_40 (Or.inl rfl) rfl rfl h (fun M20 h => ?_)
        refine V.aload_n (n := 0) dX3_unwind_35 rfl rfl ?_
        refine V.getI dX3_unwind_36 lkX3_132 rfl rfl h (fun x21 h => ?_)
        refine V.if_eq (q := 56) dX3_unwind_39 (by decide) rfl h (fun h => ?_) (fun h => ?_)
        · refine V.iconst (x := (-1)) dX3_unwind_56 (by decide) rfl ?_
          exact V.sub [1, 2, 3, 0] rfl (lab_X3_unwind_57 ih h)
        · refine V.aload_n (n := 0) dX3_unwind_42 rfl rfl ?_
          refine V.getR dX3_unwind_43 lkX3_122 rfl rfl h (fun x22 h => ?_)
          refine V.aload_n (n := 0) dX3_unwind_46 rfl rfl ?_
          refine V.getI dX3_unwind_47 lkX3_123 rfl rfl h (fun x23 h => ?_)
          refine V.callVi (d' := 0) (as := [vI x23]) (st := []) dX3_unwind_50 meX6_catchAt mlX3_147 imX6_catchAt seX6_catchAt clsX6 rfl (by omega) (Nat.le_of_ble_eq_true rfl) rfl rfl h (fun v hv => lift_X6_catchAt hv) (fun w24 h => ?_)
          refine V.goto (q := 57) dX3_unwind_53 (by decide) ?_
          exact V.sub [1, 2, 3, 0] rfl (lab_X3_unwind_57 ih h)
def L_X3_unwind (v0 : Option Nat) (v1 : Int32) (M : Mem) : Option (Int32 × Mem) :=
  J_X3_unwind_2 FU v0 v1 (0 : Int32) M
set_option maxRecDepth 20000 in
set_option maxHeartbeats 4000000 in
theorem lift_X3_unwind {G : Gt} {M M9 : Mem} {x9 : Int32} {v0 : Option Nat} {v1 : Int32} (h : L_X3_unwind v0 v1 M = some (x9, M9)) : Mt G mX3_unwind 1 [vR v0, vI v1] M (some (vI x9)) M9 := by
  unfold L_X3_unwind at h
  refine Mt.of (by decide +kernel) (Nat.le_of_ble_eq_true rfl) ?_
  have hh : V G mX3_unwind 1 M (some (vI x9)) M9 M 0 [(0, vR v0), (1, vI v1)] [] := by
    refine V.iconst (x := 0) dX3_unwind_0 (by decide) rfl ?_
    refine V.istore_n dX3_unwind_1 rfl (by decide) rfl rfl ?_
    exact V.sub [1, 2, 0] rfl (lab_X3_unwind_2 FU _ _ _ _ h)
  exact hh
def J_X3_run_67 (k_4 : Option Nat → Int32 → Int32 → Mem → Option (Int32 × Mem)) (v0 : Option Nat) (v1 : Int32) (v2 : Int32) (M : Mem) : Option (Int32 × Mem) :=
  k_4 v0 v1 (v2 + 1) M
set_option maxRecDepth 20000 in
set_option maxHeartbeats 4000000 in
theorem lab_X3_run_67 {G : Gt} {M0 M9 : Mem} {x9 : Int32} {k_4 : Option Nat → Int32 → Int32 → Mem → Option (Int32 × Mem)} (hk_4 : ∀ (v0 : Option Nat) (v1 : Int32) (v2 : Int32) (Ma : Mem), k_4 v0 v1 v2 Ma = some (x9, M9) → V G mX3_run 4 M0 (some (vI x9)) M9 Ma 4 [(0, vR v0), (1, vI v1), (2, vI v2)] []) {v0 : Option Nat} {v1 : Int32} {v2 : Int32} {M : Mem} (h : J_X3_run_67 k_4 v0 v1 v2 M = some (x9, M9)) : V G mX3_run 4 M0 (some (vI x9)) M9 M 67 [(0, vR v0), (1, vI v1), (2, vI v2)] [] := by
  unfold J_X3_run_67 at h
  refine V.iinc (n := 2) (x := v2 + 1) dX3_run_67 rfl (by rfl) (by decide) rfl rfl ?_
  refine V.goto (q := 4) dX3_run_70 (by decide) ?_
  exact V.sub [1, 2, 0] rfl (hk_4 _ _ _ _ h)
def J_X3_run_4 : Nat → Option Nat → Int32 → Int32 → Mem → Option (Int32 × Mem)
  | 0 => fun _ _ _ _ => none
  | n + 1 => fun v0 v1 v2 M =>
  if (1000000 : Int32) ≤ v2 then
  (some (v1, M))
  else
  ((fI M 3 2 v0).bind fun x1 =>
  if x1 ≤ 0 then
  (some (v1, M))
  else
  ((fR M 3 1 v0).bind fun x2 =>
  (fI M 3 2 v0).bind fun x3 =>
  (aR M 27 x2 (x3 - (1 : Int32))).bind fun x4 =>
  (ck M 3 v0).bind fun _ => (L_X3_advance v0 x4 M).bind fun w5 =>
  if ¬ w5.1 = 0 then
  (if w5.1 = (-1 : Int32) then
  (J_X3_run_67 (J_X3_run_4 n) v0 v1 v2 w5.2)
  else
  ((ck w5.2 3 v0).bind fun _ => (L_X3_unwind v0 w5.1 w5.2).bind fun w6 =>
  J_X3_run_67 (J_X3_run_4 n) v0 w6.1 v2 w6.2))
  else
  ((fI w5.2 2 2 x4).bind fun x7 =>
  (pI w5.2 2 2 x4 (x7 + (1 : Int32))).bind fun M8 =>
  J_X3_run_67 (J_X3_run_4 n) v0 v1 v2 M8)))
set_option maxRecDepth 20000 in
set_option maxHeartbeats 4000000 in
theorem lab_X3_run_4 {G : Gt} {M0 M9 : Mem} {x9 : Int32} : ∀ (n : Nat) (v0 : Option Nat) (v1 : Int32) (v2 : Int32) (M : Mem), J_X3_run_4 n v0 v1 v2 M = some (x9, M9) → V G mX3_run 4 M0 (some (vI x9)) M9 M 4 [(0, vR v0), (1, vI v1), (2, vI v2)] [] := by
  intro n
  induction n with
  | zero => intro v0 v1 v2 M h; exact nomatch h
  | succ n ih =>
    intro v0 v1 v2 M h
    unfold J_X3_run_4 at h
    refine V.iload_n (n := 2) dX3_run_4 rfl rfl ?_
    refine V.ldc (x := (1000000)) dX3_run_5 ciX3_139 rfl ?_
    refine V.icmp_ge (q := 73) dX3_run_7 (by decide) rfl h (fun h => ?_) (fun h => ?_)
    · refine V.iload_n (n := 1) dX3_run_73 rfl rfl ?_
      exact V.iret dX3_run_74 rfl h
    · refine V.aload_n (n := 0) dX3_run_10 rfl rfl ?_
      refine V.getI dX3_run_11 lkX3_37 rfl rfl h (fun x1 h => ?_)
      refine V.if_le (q := 73) dX3_run_14 (by decide) rfl h (fun h => ?_) (fun h => ?_)
      · refine V.iload_n (n := 1) dX3_run_73 rfl rfl ?_
        exact V.iret dX3_run_74 rfl h
      · refine V.aload_n (n := 0) dX3_run_17 rfl rfl ?_
        refine V.getR dX3_run_18 lkX3_17 rfl rfl h (fun x2 h => ?_)
        refine V.aload_n (n := 0) dX3_run_21 rfl rfl ?_
        refine V.getI dX3_run_22 lkX3_37 rfl rfl h (fun x3 h => ?_)
        refine V.iconst (x := 1) dX3_run_25 (by decide) rfl ?_
        refine V.isub dX3_run_26 rfl ?_
        refine V.aald (k := 27) dX3_run_27 (by decide) (by decide) rfl h (fun x4 h => ?_)
        refine V.astore_n dX3_run_28 rfl (by decide) rfl rfl ?_
        refine V.aload_n (n := 1) dX3_run_29 rfl rfl ?_
        refine V.aload_n (n := 0) dX3_run_30 rfl rfl ?_
        refine V.callVi (d' := 3) (as := [vR x4]) (st := []) dX3_run_31 meX3_advance mlX3_140 imX3_advance seX3_advance clsX3 rfl (by omega) (Nat.le_of_ble_eq_true rfl) rfl rfl h (fun v hv => lift_X3_advance hv) (fun w5 h => ?_)
        refine V.istore dX3_run_34 (by decide) rfl rfl ?_
        refine V.iload (n := 0) dX3_run_36 rfl rfl ?_
        refine V.if_ne (q := 54) dX3_run_38 (by decide) rfl h (fun h => ?_) (fun h => ?_)
        · refine V.iload (n := 0) dX3_run_54 rfl rfl ?_
          refine V.iconst (x := (-1)) dX3_run_56 (by decide) rfl ?_
          refine V.icmp_eq (q := 67) dX3_run_57 (by decide) rfl h (fun h => ?_) (fun h => ?_)
          · exact V.sub [2, 3, 4] rfl (lab_X3_run_67 ih h)
          · refine V.aload_n (n := 2) dX3_run_60 rfl rfl ?_
            refine V.iload (n := 0) dX3_run_61 rfl rfl ?_
            refine V.callVi (d' := 1) (as := [vI w5.1]) (st := []) dX3_run_63 meX3_unwind mlX3_144 imX3_unwind seX3_unwind clsX3 rfl (by omega) (Nat.le_of_ble_eq_true rfl) rfl rfl h (fun v hv => lift_X3_unwind hv) (fun w6 h => ?_)
            refine V.istore_n dX3_run_66 rfl (by decide) rfl rfl ?_
            exact V.sub [3, 0, 4] rfl (lab_X3_run_67 ih h)
        · refine V.aload_n (n := 1) dX3_run_41 rfl rfl ?_
          refine V.dup dX3_run_42 rfl rfl ?_
          refine V.getI dX3_run_43 lkX3_123 rfl rfl h (fun x7 h => ?_)
          refine V.iconst (x := 1) dX3_run_46 (by decide) rfl ?_
          refine V.iadd dX3_run_47 rfl ?_
          refine V.putI dX3_run_48 lkX3_123 (Or.inl rfl) rfl rfl h (fun M8 h => ?_)
          refine V.goto (q := 67) dX3_run_51 (by decide) ?_
          exact V.sub [2, 3, 4] rfl (lab_X3_run_67 ih h)
def L_X3_run (v0 : Option Nat) (M : Mem) : Option (Int32 × Mem) :=
  J_X3_run_4 FU v0 (0 : Int32) (0 : Int32) M
set_option maxRecDepth 20000 in
set_option maxHeartbeats 4000000 in
theorem lift_X3_run {G : Gt} {M M9 : Mem} {x9 : Int32} {v0 : Option Nat} (h : L_X3_run v0 M = some (x9, M9)) : Mt G mX3_run 4 [vR v0] M (some (vI x9)) M9 := by
  unfold L_X3_run at h
  refine Mt.of (by decide +kernel) (Nat.le_of_ble_eq_true rfl) ?_
  have hh : V G mX3_run 4 M (some (vI x9)) M9 M 0 [(0, vR v0)] [] := by
    refine V.iconst (x := 0) dX3_run_0 (by decide) rfl ?_
    refine V.istore_n dX3_run_1 rfl (by decide) rfl rfl ?_
    refine V.iconst (x := 0) dX3_run_2 (by decide) rfl ?_
    refine V.istore_n dX3_run_3 rfl (by decide) rfl rfl ?_
    exact V.sub [2, 1, 0] rfl (lab_X3_run_4 FU _ _ _ _ h)
  exact hh
def L_X3_summon (v0 : Option Nat) (v1 : Int32) (M : Mem) : Option (Int32 × Mem) :=
  (pI M 3 2 v0 (0 : Int32)).bind fun M1 =>
  (pI M1 3 4 v0 (0 : Int32)).bind fun M2 =>
  (ck M2 3 v0).bind fun _ => (L_X3_demand v0 v1 M2).bind fun w3 =>
  if ¬ w3.1 = (-1 : Int32) then
  (some (w3.1, w3.2))
  else
  ((ck w3.2 3 v0).bind fun _ => (L_X3_run v0 w3.2).bind fun w4 =>
  some (w4.1, w4.2))
set_option maxRecDepth 20000 in
set_option maxHeartbeats 4000000 in
theorem lift_X3_summon {G : Gt} {M M9 : Mem} {x9 : Int32} {v0 : Option Nat} {v1 : Int32} (h : L_X3_summon v0 v1 M = some (x9, M9)) : Mt G mX3_summon 5 [vR v0, vI v1] M (some (vI x9)) M9 := by
  unfold L_X3_summon at h
  refine Mt.of (by decide +kernel) (Nat.le_of_ble_eq_true rfl) ?_
  have hh : V G mX3_summon 5 M (some (vI x9)) M9 M 0 [(0, vR v0), (1, vI v1)] [] := by
    refine V.aload_n (n := 0) dX3_summon_0 rfl rfl ?_
    refine V.iconst (x := 0) dX3_summon_1 (by decide) rfl ?_
    refine V.putI dX3_summon_2 lkX3_37 (Or.inl rfl) rfl rfl h (fun M1 h => ?_)
    refine V.aload_n (n := 0) dX3_summon_5 rfl rfl ?_
    refine V.iconst (x := 0) dX3_summon_6 (by decide) rfl ?_
    refine V.putI dX3_summon_7 lkX3_40 (Or.inl rfl) rfl rfl h (fun M2 h => ?_)
    refine V.aload_n (n := 0) dX3_summon_10 rfl rfl ?_
    refine V.iload_n (n := 1) dX3_summon_11 rfl rfl ?_
    refine V.callVi (d' := 1) (as := [vI v1]) (st := []) dX3_summon_12 meX3_demand mlX3_43 imX3_demand seX3_demand clsX3 rfl (by omega) (Nat.le_of_ble_eq_true rfl) rfl rfl h (fun v hv => lift_X3_demand hv) (fun w3 h => ?_)
    refine V.istore_n dX3_summon_15 rfl (by decide) rfl rfl ?_
    refine V.iload_n (n := 0) dX3_summon_16 rfl rfl ?_
    refine V.iconst (x := (-1)) dX3_summon_17 (by decide) rfl ?_
    refine V.icmp_ne (q := 28) dX3_summon_18 (by decide) rfl h (fun h => ?_) (fun h => ?_)
    · refine V.iload_n (n := 0) dX3_summon_28 rfl rfl ?_
      exact V.iret dX3_summon_29 rfl h
    · refine V.aload_n (n := 1) dX3_summon_21 rfl rfl ?_
      refine V.callVi (d' := 4) (as := []) (st := []) dX3_summon_22 meX3_run mlX3_47 imX3_run seX3_run clsX3 rfl (by omega) (Nat.le_of_ble_eq_true rfl) rfl rfl h (fun v hv => lift_X3_run hv) (fun w4 h => ?_)
      refine V.goto (q := 29) dX3_summon_25 (by decide) ?_
      exact V.iret dX3_summon_29 rfl h
  exact hh
def L_X3_prepare (v0 : Option Nat) (v1 : Option Nat) (v2 : Int32) (M : Mem) : Option (Unit × Mem) :=
  (fR M 3 5 v0).bind fun x1 =>
  (fI M 9 0 v1).bind fun x2 =>
  (uL M 21 x1 (0 : Int32) x2.toInt64).bind fun M3 =>
  (fR M3 3 5 v0).bind fun x4 =>
  (fI M3 9 1 v1).bind fun x5 =>
  (uL M3 21 x4 (1 : Int32) x5.toInt64).bind fun M6 =>
  (fR M6 3 5 v0).bind fun x7 =>
  (fR M6 9 3 v1).bind fun x8 =>
  (aI M6 20 x8 v2).bind fun x9 =>
  (uL M6 21 x7 (2 : Int32) x9.toInt64).bind fun M10 =>
  (fR M10 3 5 v0).bind fun x11 =>
  (fR M10 9 5 v1).bind fun x12 =>
  (aI M10 20 x12 v2).bind fun x13 =>
  (uL M10 21 x11 (3 : Int32) x13.toInt64).bind fun M14 =>
  some ((), M14)
set_option maxRecDepth 20000 in
set_option maxHeartbeats 4000000 in
theorem lift_X3_prepare {G : Gt} {M M9 : Mem} {x9 : Unit} {v0 : Option Nat} {v1 : Option Nat} {v2 : Int32} (h : L_X3_prepare v0 v1 v2 M = some (x9, M9)) : Mt G mX3_prepare 0 [vR v0, vR v1, vI v2] M none M9 := by
  unfold L_X3_prepare at h
  refine Mt.of (by decide +kernel) (Nat.le_of_ble_eq_true rfl) ?_
  have hh : V G mX3_prepare 0 M none M9 M 0 [(0, vR v0), (1, vR v1), (2, vI v2)] [] := by
    refine V.aload_n (n := 0) dX3_prepare_0 rfl rfl ?_
    refine V.getR dX3_prepare_1 lkX3_26 rfl rfl h (fun x1 h => ?_)
    refine V.iconst (x := 0) dX3_prepare_4 (by decide) rfl ?_
    refine V.aload_n (n := 1) dX3_prepare_5 rfl rfl ?_
    refine V.getI dX3_prepare_6 lkX3_82 rfl rfl h (fun x2 h => ?_)
    refine V.i2l dX3_prepare_9 rfl ?_
    refine V.last dX3_prepare_10 rfl h (fun M3 h => ?_)
    refine V.aload_n (n := 0) dX3_prepare_11 rfl rfl ?_
    refine V.getR dX3_prepare_12 lkX3_26 rfl rfl h (fun x4 h => ?_)
    refine V.iconst (x := 1) dX3_prepare_15 (by decide) rfl ?_
    refine V.aload_n (n := 1) dX3_prepare_16 rfl rfl ?_
    refine V.getI dX3_prepare_17 lkX3_85 rfl rfl h (fun x5 h => ?_)
    refine V.i2l dX3_prepare_20 rfl ?_
    refine V.last dX3_prepare_21 rfl h (fun M6 h => ?_)
    refine V.aload_n (n := 0) dX3_prepare_22 rfl rfl ?_
    refine V.getR dX3_prepare_23 lkX3_26 rfl rfl h (fun x7 h => ?_)
    refine V.iconst (x := 2) dX3_prepare_26 (by decide) rfl ?_
    refine V.aload_n (n := 1) dX3_prepare_27 rfl rfl ?_
    refine V.getR dX3_prepare_28 lkX3_88 rfl rfl h (fun x8 h => ?_)
    refine V.iload_n (n := 2) dX3_prepare_31 rfl rfl ?_
    refine V.iald dX3_prepare_32 rfl h (fun x9 h => ?_)
    refine V.i2l dX3_prepare_33 rfl ?_
    refine V.last dX3_prepare_34 rfl h (fun M10 h => ?_)
    refine V.aload_n (n := 0) dX3_prepare_35 rfl rfl ?_
    refine V.getR dX3_prepare_36 lkX3_26 rfl rfl h (fun x11 h => ?_)
    refine V.iconst (x := 3) dX3_prepare_39 (by decide) rfl ?_
    refine V.aload_n (n := 1) dX3_prepare_40 rfl rfl ?_
    refine V.getR dX3_prepare_41 lkX3_91 rfl rfl h (fun x12 h => ?_)
    refine V.iload_n (n := 2) dX3_prepare_44 rfl rfl ?_
    refine V.iald dX3_prepare_45 rfl h (fun x13 h => ?_)
    refine V.i2l dX3_prepare_46 rfl ?_
    refine V.last dX3_prepare_47 rfl h (fun M14 h => ?_)
    exact V.vret dX3_prepare_48 rfl h
  exact hh
def L_X3_workRule (v0 : Option Nat) (v1 : Int32) (M : Mem) : Option (Int32 × Mem) :=
  (fR M 3 0 v0).bind fun x1 =>
  (ck M 1 x1).bind fun _ => (L_X1_find x1 (2 : Int32) (v1.toInt64 <<< ((40 : Int32).toInt64 &&& 63)) M).bind fun w2 =>
  if ¬ w2.1 = (-1 : Int32) then
  ((fR w2.2 3 0 v0).bind fun x3 =>
  (fR w2.2 1 1 x3).bind fun x4 =>
  if (8 : Int32) = 0 then none else
  (aR w2.2 26 x4 (w2.1 / (8 : Int32))).bind fun x5 =>
  (fR w2.2 8 0 x5).bind fun x6 =>
  if ¬ x6 = none then
  ((pI w2.2 3 2 v0 (0 : Int32)).bind fun M7 =>
  (pI M7 3 4 v0 (0 : Int32)).bind fun M8 =>
  (pL M8 3 6 v0 (0 : Int64)).bind fun M9 =>
  if (8 : Int32) = 0 then none else
  (fI M9 6 3 x6).bind fun x10 =>
  (ck M9 3 v0).bind fun _ => (L_X3_open v0 (w2.1 / (8 : Int32)) x6 x10 (0 : Int32) M9).bind fun w11 =>
  (ck w11.2 3 v0).bind fun _ => (L_X3_run v0 w11.2).bind fun w12 =>
  some (w12.1, w12.2))
  else
  (some ((802 : Int32), w2.2)))
  else
  (some ((802 : Int32), w2.2))
set_option maxRecDepth 20000 in
set_option maxHeartbeats 4000000 in
theorem lift_X3_workRule {G : Gt} {M M9 : Mem} {x9 : Int32} {v0 : Option Nat} {v1 : Int32} (h : L_X3_workRule v0 v1 M = some (x9, M9)) : Mt G mX3_workRule 5 [vR v0, vI v1] M (some (vI x9)) M9 := by
  unfold L_X3_workRule at h
  refine Mt.of (by decide +kernel) (Nat.le_of_ble_eq_true rfl) ?_
  have hh : V G mX3_workRule 5 M (some (vI x9)) M9 M 0 [(0, vR v0), (1, vI v1)] [] := by
    refine V.aload_n (n := 0) dX3_workRule_0 rfl rfl ?_
    refine V.getR dX3_workRule_1 lkX3_9 rfl rfl h (fun x1 h => ?_)
    refine V.iconst (x := 2) dX3_workRule_4 (by decide) rfl ?_
    refine V.iload_n (n := 1) dX3_workRule_5 rfl rfl ?_
    refine V.i2l dX3_workRule_6 rfl ?_
    refine V.bipush (x := 40) dX3_workRule_7 (by decide) rfl ?_
    refine V.lshl dX3_workRule_9 rfl ?_
    refine V.callVi (d' := 1) (as := [vI (2 : Int32), vL (v1.toInt64 <<< ((40 : Int32).toInt64 &&& 63))]) (st := []) dX3_workRule_10 meX1_find mlX3_94 imX1_find seX1_find clsX1 rfl (by omega) (Nat.le_of_ble_eq_true rfl) rfl rfl h (fun v hv => lift_X1_find hv) (fun w2 h => ?_)
    refine V.istore_n dX3_workRule_13 rfl (by decide) rfl rfl ?_
    refine V.iload_n (n := 0) dX3_workRule_14 rfl rfl ?_
    refine V.iconst (x := (-1)) dX3_workRule_15 (by decide) rfl ?_
    refine V.icmp_ne (q := 23) dX3_workRule_16 (by decide) rfl h (fun h => ?_) (fun h => ?_)
    · refine V.aload_n (n := 1) dX3_workRule_23 rfl rfl ?_
      refine V.getR dX3_workRule_24 lkX3_9 rfl rfl h (fun x3 h => ?_)
      refine V.getR dX3_workRule_27 lkX3_100 rfl rfl h (fun x4 h => ?_)
      refine V.iload_n (n := 0) dX3_workRule_30 rfl rfl ?_
      refine V.bipush (x := 8) dX3_workRule_31 (by decide) rfl ?_
      refine V.idiv dX3_workRule_33 h rfl (fun h => ?_)
      refine V.aald (k := 26) dX3_workRule_34 (by decide) (by decide) rfl h (fun x5 h => ?_)
      refine V.getR dX3_workRule_35 lkX3_104 rfl rfl h (fun x6 h => ?_)
      refine V.astore_n dX3_workRule_38 rfl (by decide) rfl rfl ?_
      refine V.aload_n (n := 0) dX3_workRule_39 rfl rfl ?_
      refine V.ifnonnull (q := 47) dX3_workRule_40 (by decide) rfl h (fun h => ?_) (fun h => ?_)
      · refine V.aload_n (n := 2) dX3_workRule_47 rfl rfl ?_
        refine V.iconst (x := 0) dX3_workRule_48 (by decide) rfl ?_
        refine V.putI dX3_workRule_49 lkX3_37 (Or.inl rfl) rfl rfl h (fun M7 h => ?_)
        refine V.aload_n (n := 2) dX3_workRule_52 rfl rfl ?_
        refine V.iconst (x := 0) dX3_workRule_53 (by decide) rfl ?_
        refine V.putI dX3_workRule_54 lkX3_40 (Or.inl rfl) rfl rfl h (fun M8 h => ?_)
        refine V.aload_n (n := 2) dX3_workRule_57 rfl rfl ?_
        refine V.lconst (x := 0) dX3_workRule_58 (by decide) rfl ?_
        refine V.putL dX3_workRule_59 lkX3_75 (Or.inl rfl) rfl rfl h (fun M9 h => ?_)
        refine V.aload_n (n := 2) dX3_workRule_62 rfl rfl ?_
        refine V.iload_n (n := 1) dX3_workRule_63 rfl rfl ?_
        refine V.bipush (x := 8) dX3_workRule_64 (by decide) rfl ?_
        refine V.idiv dX3_workRule_66 h rfl (fun h => ?_)
        refine V.aload_n (n := 0) dX3_workRule_67 rfl rfl ?_
        refine V.aload_n (n := 0) dX3_workRule_68 rfl rfl ?_
        refine V.getI dX3_workRule_69 lkX3_110 rfl rfl h (fun x10 h => ?_)
        refine V.iconst (x := 0) dX3_workRule_72 (by decide) rfl ?_
        refine V.callVv (d' := 0) (as := [vI (w2.1 / (8 : Int32)), vR x6, vI x10, vI (0 : Int32)]) (st := []) dX3_workRule_73 meX3_open mlX3_115 imX3_open seX3_open clsX3 rfl (by omega) (Nat.le_of_ble_eq_true rfl) rfl rfl h (fun v hv => lift_X3_open hv) (fun w11 h => ?_)
        refine V.aload_n (n := 2) dX3_workRule_76 rfl rfl ?_
        refine V.callVi (d' := 4) (as := []) (st := []) dX3_workRule_77 meX3_run mlX3_47 imX3_run seX3_run clsX3 rfl (by omega) (Nat.le_of_ble_eq_true rfl) rfl rfl h (fun v hv => lift_X3_run hv) (fun w12 h => ?_)
        exact V.iret dX3_workRule_80 rfl h
      · refine V.sipush (x := 802) dX3_workRule_43 (by decide) rfl ?_
        exact V.iret dX3_workRule_46 rfl h
    · refine V.sipush (x := 802) dX3_workRule_19 (by decide) rfl ?_
      exact V.iret dX3_workRule_22 rfl h
  exact hh
def J_X3_charge_64 (k_10 : Option Nat → Option Nat → Int64 → Int32 → Mem → Option (Int32 × Mem)) (v0 : Option Nat) (v1 : Option Nat) (v2 : Int64) (v4 : Int32) (v5 : Int32) (M : Mem) : Option (Int32 × Mem) :=
  if v5 = 0 then
  ((fR M 9 6 v1).bind fun x1 =>
  (fL M 3 6 v0).bind fun x2 =>
  (uL M 21 x1 v4 x2).bind fun M3 =>
  (fL M3 3 6 v0).bind fun x4 =>
  k_10 v0 v1 (v2 + x4) (v4 + 1) M3)
  else
  (some (v5, M))
set_option maxRecDepth 20000 in
set_option maxHeartbeats 4000000 in
theorem lab_X3_charge_64 {G : Gt} {M0 M9 : Mem} {x9 : Int32} {k_10 : Option Nat → Option Nat → Int64 → Int32 → Mem → Option (Int32 × Mem)} (hk_10 : ∀ (v0 : Option Nat) (v1 : Option Nat) (v2 : Int64) (v4 : Int32) (Ma : Mem), k_10 v0 v1 v2 v4 Ma = some (x9, M9) → V G mX3_charge 6 M0 (some (vI x9)) M9 Ma 10 [(0, vR v0), (1, vR v1), (2, vL v2), (4, vI v4)] []) {v0 : Option Nat} {v1 : Option Nat} {v2 : Int64} {v4 : Int32} {v5 : Int32} {M : Mem} (h : J_X3_charge_64 k_10 v0 v1 v2 v4 v5 M = some (x9, M9)) : V G mX3_charge 6 M0 (some (vI x9)) M9 M 64 [(0, vR v0), (1, vR v1), (2, vL v2), (4, vI v4), (5, vI v5)] [] := by
  unfold J_X3_charge_64 at h
  refine V.iload (n := 4) dX3_charge_64 rfl rfl ?_
  refine V.if_eq (q := 72) dX3_charge_66 (by decide) rfl h (fun h => ?_) (fun h => ?_)
  · refine V.aload_n (n := 1) dX3_charge_72 rfl rfl ?_
    refine V.getR dX3_charge_73 lkX3_72 rfl rfl h (fun x1 h => ?_)
    refine V.iload (n := 3) dX3_charge_76 rfl rfl ?_
    refine V.aload_n (n := 0) dX3_charge_78 rfl rfl ?_
    refine V.getL dX3_charge_79 lkX3_75 rfl rfl h (fun x2 h => ?_)
    refine V.last dX3_charge_82 rfl h (fun M3 h => ?_)
    refine V.lload_n (n := 2) dX3_charge_83 rfl rfl ?_
    refine V.aload_n (n := 0) dX3_charge_84 rfl rfl ?_
    refine V.getL dX3_charge_85 lkX3_75 rfl rfl h (fun x4 h => ?_)
    refine V.ladd dX3_charge_88 rfl ?_
    refine V.lstore_n dX3_charge_89 rfl (by decide) rfl rfl ?_
    refine V.iinc (n := 3) (x := v4 + 1) dX3_charge_90 rfl (by rfl) (by decide) rfl rfl ?_
    refine V.goto (q := 10) dX3_charge_93 (by decide) ?_
    exact V.sub [2, 3, 1, 0] rfl (hk_10 _ _ _ _ _ h)
  · refine V.iload (n := 4) dX3_charge_69 rfl rfl ?_
    exact V.iret dX3_charge_71 rfl h
def J_X3_charge_96 (v1 : Option Nat) (v2 : Int64) (M : Mem) : Option (Int32 × Mem) :=
  (pL M 9 7 v1 v2).bind fun M5 =>
  (fI M5 9 2 v1).bind fun x6 =>
  (pI M5 9 8 v1 x6).bind fun M7 =>
  some ((0 : Int32), M7)
set_option maxRecDepth 20000 in
set_option maxHeartbeats 4000000 in
theorem lab_X3_charge_96 {G : Gt} {M0 M9 : Mem} {x9 : Int32} {v1 : Option Nat} {v2 : Int64} {M : Mem} (h : J_X3_charge_96 v1 v2 M = some (x9, M9)) : V G mX3_charge 6 M0 (some (vI x9)) M9 M 96 [(1, vR v1), (2, vL v2)] [] := by
  unfold J_X3_charge_96 at h
  refine V.aload_n (n := 0) dX3_charge_96 rfl rfl ?_
  refine V.lload_n (n := 1) dX3_charge_97 rfl rfl ?_
  refine V.putL dX3_charge_98 lkX3_79 (Or.inl rfl) rfl rfl h (fun M5 h => ?_)
  refine V.aload_n (n := 0) dX3_charge_101 rfl rfl ?_
  refine V.aload_n (n := 0) dX3_charge_102 rfl rfl ?_
  refine V.getI dX3_charge_103 lkX3_56 rfl rfl h (fun x6 h => ?_)
  refine V.putI dX3_charge_106 lkX3_51 (Or.inl rfl) rfl rfl h (fun M7 h => ?_)
  refine V.iconst (x := 0) dX3_charge_109 (by decide) rfl ?_
  exact V.iret dX3_charge_110 rfl h
def J_X3_charge_10 : Nat → Option Nat → Option Nat → Int64 → Int32 → Mem → Option (Int32 × Mem)
  | 0 => fun _ _ _ _ _ => none
  | n + 1 => fun v0 v1 v2 v4 M =>
  (fI M 9 2 v1).bind fun x8 =>
  if x8 ≤ v4 then
  (J_X3_charge_96 v1 v2 M)
  else
  (if (8 : Int32) ≤ v4 then
  (J_X3_charge_96 v1 v2 M)
  else
  ((fR M 9 4 v1).bind fun x9 =>
  (aI M 20 x9 v4).bind fun x10 =>
  (ck M 3 v0).bind fun _ => (L_X3_summon v0 x10 M).bind fun w11 =>
  if ¬ w11.1 = 0 then
  (J_X3_charge_64 (J_X3_charge_10 n) v0 v1 v2 v4 w11.1 w11.2)
  else
  ((ck w11.2 3 v0).bind fun _ => (L_X3_prepare v0 v1 v4 w11.2).bind fun w12 =>
  (fR w12.2 9 4 v1).bind fun x13 =>
  (aI w12.2 20 x13 v4).bind fun x14 =>
  (ck w12.2 3 v0).bind fun _ => (L_X3_workRule v0 x14 w12.2).bind fun w15 =>
  J_X3_charge_64 (J_X3_charge_10 n) v0 v1 v2 v4 w15.1 w15.2)))
set_option maxRecDepth 20000 in
set_option maxHeartbeats 4000000 in
theorem lab_X3_charge_10 {G : Gt} {M0 M9 : Mem} {x9 : Int32} : ∀ (n : Nat) (v0 : Option Nat) (v1 : Option Nat) (v2 : Int64) (v4 : Int32) (M : Mem), J_X3_charge_10 n v0 v1 v2 v4 M = some (x9, M9) → V G mX3_charge 6 M0 (some (vI x9)) M9 M 10 [(0, vR v0), (1, vR v1), (2, vL v2), (4, vI v4)] [] := by
  intro n
  induction n with
  | zero => intro v0 v1 v2 v4 M h; exact nomatch h
  | succ n ih =>
    intro v0 v1 v2 v4 M h
    unfold J_X3_charge_10 at h
    refine V.iload (n := 3) dX3_charge_10 rfl rfl ?_
    refine V.aload_n (n := 1) dX3_charge_12 rfl rfl ?_
    refine V.getI dX3_charge_13 lkX3_56 rfl rfl h (fun x8 h => ?_)
    refine V.icmp_ge (q := 96) dX3_charge_16 (by decide) rfl h (fun h => ?_) (fun h => ?_)
    · exact V.sub [1, 2] rfl (lab_X3_charge_96 h)
    · refine V.iload (n := 3) dX3_charge_19 rfl rfl ?_
      refine V.bipush (x := 8) dX3_charge_21 (by decide) rfl ?_
      refine V.icmp_ge (q := 96) dX3_charge_23 (by decide) rfl h (fun h => ?_) (fun h => ?_)
      · exact V.sub [1, 2] rfl (lab_X3_charge_96 h)
      · refine V.aload_n (n := 0) dX3_charge_26 rfl rfl ?_
        refine V.aload_n (n := 1) dX3_charge_27 rfl rfl ?_
        refine V.getR dX3_charge_28 lkX3_59 rfl rfl h (fun x9 h => ?_)
        refine V.iload (n := 3) dX3_charge_31 rfl rfl ?_
        refine V.iald dX3_charge_33 rfl h (fun x10 h => ?_)
        refine V.callVi (d' := 5) (as := [vI x10]) (st := []) dX3_charge_34 meX3_summon mlX3_62 imX3_summon seX3_summon clsX3 rfl (by omega) (Nat.le_of_ble_eq_true rfl) rfl rfl h (fun v hv => lift_X3_summon hv) (fun w11 h => ?_)
        refine V.istore dX3_charge_37 (by decide) rfl rfl ?_
        refine V.iload (n := 0) dX3_charge_39 rfl rfl ?_
        refine V.if_ne (q := 64) dX3_charge_41 (by decide) rfl h (fun h => ?_) (fun h => ?_)
        · exact V.sub [1, 2, 3, 4, 0] rfl (lab_X3_charge_64 ih h)
        · refine V.aload_n (n := 1) dX3_charge_44 rfl rfl ?_
          refine V.aload_n (n := 2) dX3_charge_45 rfl rfl ?_
          refine V.iload (n := 4) dX3_charge_46 rfl rfl ?_
          refine V.callVv (d' := 0) (as := [vR v1, vI v4]) (st := []) dX3_charge_48 meX3_prepare mlX3_65 imX3_prepare seX3_prepare clsX3 rfl (by omega) (Nat.le_of_ble_eq_true rfl) rfl rfl h (fun v hv => lift_X3_prepare hv) (fun w12 h => ?_)
          refine V.aload_n (n := 1) dX3_charge_51 rfl rfl ?_
          refine V.aload_n (n := 2) dX3_charge_52 rfl rfl ?_
          refine V.getR dX3_charge_53 lkX3_59 rfl rfl h (fun x13 h => ?_)
          refine V.iload (n := 4) dX3_charge_56 rfl rfl ?_
          refine V.iald dX3_charge_58 rfl h (fun x14 h => ?_)
          refine V.callVi (d' := 5) (as := [vI x14]) (st := []) dX3_charge_59 meX3_workRule mlX3_69 imX3_workRule seX3_workRule clsX3 rfl (by omega) (Nat.le_of_ble_eq_true rfl) rfl rfl h (fun v hv => lift_X3_workRule hv) (fun w15 h => ?_)
          refine V.istore dX3_charge_62 (by decide) rfl rfl ?_
          exact V.sub [1, 2, 3, 4, 0] rfl (lab_X3_charge_64 ih h)
def L_X3_charge (v0 : Option Nat) (v1 : Option Nat) (M : Mem) : Option (Int32 × Mem) :=
  (pI M 9 8 v1 (0 : Int32)).bind fun M16 =>
  J_X3_charge_10 FU v0 v1 (0 : Int64) (0 : Int32) M16
set_option maxRecDepth 20000 in
set_option maxHeartbeats 4000000 in
theorem lift_X3_charge {G : Gt} {M M9 : Mem} {x9 : Int32} {v0 : Option Nat} {v1 : Option Nat} (h : L_X3_charge v0 v1 M = some (x9, M9)) : Mt G mX3_charge 6 [vR v0, vR v1] M (some (vI x9)) M9 := by
  unfold L_X3_charge at h
  refine Mt.of (by decide +kernel) (Nat.le_of_ble_eq_true rfl) ?_
  have hh : V G mX3_charge 6 M (some (vI x9)) M9 M 0 [(0, vR v0), (1, vR v1)] [] := by
    refine V.aload_n (n := 1) dX3_charge_0 rfl rfl ?_
    refine V.iconst (x := 0) dX3_charge_1 (by decide) rfl ?_
    refine V.putI dX3_charge_2 lkX3_51 (Or.inl rfl) rfl rfl h (fun M16 h => ?_)
    refine V.lconst (x := 0) dX3_charge_5 (by decide) rfl ?_
    refine V.lstore_n dX3_charge_6 rfl (by decide) rfl rfl ?_
    refine V.iconst (x := 0) dX3_charge_7 (by decide) rfl ?_
    refine V.istore dX3_charge_8 (by decide) rfl rfl ?_
    exact V.sub [2, 3, 1, 0] rfl (lab_X3_charge_10 FU _ _ _ _ _ h)
  exact hh
def L_X4_init (v0 : Option Nat) (v1 : Option Nat) (M : Mem) : Option (Unit × Mem) :=
  if v0 = none then none else
  (pR M 4 0 v0 v1).bind fun M1 =>
  (L_X0_init (some (nc M1)) (nw M1 0 0 17)).bind fun w2 =>
  (pR w2.2 4 1 v0 (some (nc M1))).bind fun M3 =>
  (pI M3 4 6 v0 (0 : Int32)).bind fun M4 =>
  (pI M4 4 7 v0 (-1 : Int32)).bind fun M5 =>
  some ((), M5)
set_option maxRecDepth 20000 in
set_option maxHeartbeats 4000000 in
theorem lift_X4_init {G : Gt} {M M9 : Mem} {x9 : Unit} {v0 : Option Nat} {v1 : Option Nat} (h : L_X4_init v0 v1 M = some (x9, M9)) : Mt G mX4_init 2 [vR v0, vR v1] M none M9 := by
  unfold L_X4_init at h
  refine Mt.of (by decide +kernel) (Nat.le_of_ble_eq_true rfl) ?_
  have hh : V G mX4_init 2 M none M9 M 0 [(0, vR v0), (1, vR v1)] [] := by
    refine V.aload_n (n := 0) dX4_init_0 rfl rfl ?_
    refine V.objInitR dX4_init_1 oiX4_3 oim oic (by omega) rfl h (fun h => ?_)
    refine V.aload_n (n := 0) dX4_init_4 rfl rfl ?_
    refine V.aload_n (n := 1) dX4_init_5 rfl rfl ?_
    refine V.putR dX4_init_6 lkX4_9 (Or.inr ⟨rfl, rfl⟩) rfl rfl h (fun M1 h => ?_)
    refine V.aload_n (n := 0) dX4_init_9 rfl rfl ?_
    refine V.new dX4_init_10 clsX0 cdX4_15 inX0 iiX0 rfl ?_
    refine V.dup dX4_init_13 rfl rfl ?_
    refine V.callI (d' := 1) (a := (nc M1)) (as := []) (st := [vR (some (nc M1)), vR v0]) dX4_init_14 meX0_init rfl rfl mlX4_17 imX0_init rfl (by omega) (Nat.le_of_ble_eq_true rfl) rfl rfl h (fun v hv => lift_X0_init hv) (fun w2 h => ?_)
    refine V.putR dX4_init_17 lkX4_18 (Or.inr ⟨rfl, rfl⟩) rfl rfl h (fun M3 h => ?_)
    refine V.aload_n (n := 0) dX4_init_20 rfl rfl ?_
    refine V.iconst (x := 0) dX4_init_21 (by decide) rfl ?_
    refine V.putI dX4_init_22 lkX4_22 (Or.inl rfl) rfl rfl h (fun M4 h => ?_)
    refine V.aload_n (n := 0) dX4_init_25 rfl rfl ?_
    refine V.iconst (x := (-1)) dX4_init_26 (by decide) rfl ?_
    refine V.putI dX4_init_27 lkX4_26 (Or.inl rfl) rfl rfl h (fun M5 h => ?_)
    exact V.vret dX4_init_30 rfl h
  exact hh
def J_X7_rowEnd_3 : Nat → Option Nat → Int32 → Int32 → Int32 → Mem → Option (Int32 × Mem)
  | 0 => fun _ _ _ _ _ => none
  | n + 1 => fun v0 v2 v3 v4 M =>
  (fI M 7 1 v0).bind fun x1 =>
  if x1 ≤ v4 then
  (some (v4, M))
  else
  ((fR M 7 0 v0).bind fun x2 =>
  (aI M 22 x2 v4).bind fun x3 =>
  if x3 < v2 then
  (some (v4, M))
  else
  ((fR M 7 0 v0).bind fun x4 =>
  (aI M 22 x4 v4).bind fun x5 =>
  if v3 < x5 then
  (some (v4, M))
  else
  (J_X7_rowEnd_3 n v0 v2 v3 (v4 + 1) M)))
set_option maxRecDepth 20000 in
set_option maxHeartbeats 4000000 in
theorem lab_X7_rowEnd_3 {G : Gt} {M0 M9 : Mem} {x9 : Int32} : ∀ (n : Nat) (v0 : Option Nat) (v2 : Int32) (v3 : Int32) (v4 : Int32) (M : Mem), J_X7_rowEnd_3 n v0 v2 v3 v4 M = some (x9, M9) → V G mX7_rowEnd 0 M0 (some (vI x9)) M9 M 3 [(0, vR v0), (2, vI v2), (3, vI v3), (4, vI v4)] [] := by
  intro n
  induction n with
  | zero => intro v0 v2 v3 v4 M h; exact nomatch h
  | succ n ih =>
    intro v0 v2 v3 v4 M h
    unfold J_X7_rowEnd_3 at h
    refine V.iload (n := 3) dX7_rowEnd_3 rfl rfl ?_
    refine V.aload_n (n := 0) dX7_rowEnd_5 rfl rfl ?_
    refine V.getI dX7_rowEnd_6 lkX7_33 rfl rfl h (fun x1 h => ?_)
    refine V.icmp_ge (q := 40) dX7_rowEnd_9 (by decide) rfl h (fun h => ?_) (fun h => ?_)
    · refine V.iload (n := 3) dX7_rowEnd_40 rfl rfl ?_
      exact V.iret dX7_rowEnd_42 rfl h
    · refine V.aload_n (n := 0) dX7_rowEnd_12 rfl rfl ?_
      refine V.getR dX7_rowEnd_13 lkX7_9 rfl rfl h (fun x2 h => ?_)
      refine V.iload (n := 3) dX7_rowEnd_16 rfl rfl ?_
      refine V.cald dX7_rowEnd_18 rfl h (fun x3 h => ?_)
      refine V.iload_n (n := 1) dX7_rowEnd_19 rfl rfl ?_
      refine V.icmp_lt (q := 40) dX7_rowEnd_20 (by decide) rfl h (fun h => ?_) (fun h => ?_)
      · refine V.iload (n := 3) dX7_rowEnd_40 rfl rfl ?_
        exact V.iret dX7_rowEnd_42 rfl h
      · refine V.aload_n (n := 0) dX7_rowEnd_23 rfl rfl ?_
        refine V.getR dX7_rowEnd_24 lkX7_9 rfl rfl h (fun x4 h => ?_)
        refine V.iload (n := 3) dX7_rowEnd_27 rfl rfl ?_
        refine V.cald dX7_rowEnd_29 rfl h (fun x5 h => ?_)
        refine V.iload_n (n := 2) dX7_rowEnd_30 rfl rfl ?_
        refine V.icmp_gt (q := 40) dX7_rowEnd_31 (by decide) rfl h (fun h => ?_) (fun h => ?_)
        · refine V.iload (n := 3) dX7_rowEnd_40 rfl rfl ?_
          exact V.iret dX7_rowEnd_42 rfl h
        · refine V.iinc (n := 3) (x := v4 + 1) dX7_rowEnd_34 rfl (by rfl) (by decide) rfl rfl ?_
          refine V.goto (q := 3) dX7_rowEnd_37 (by decide) ?_
          exact V.sub [1, 2, 3, 0] rfl (ih _ _ _ _ _ h)
def L_X7_rowEnd (v0 : Option Nat) (v1 : Int32) (v2 : Int32) (v3 : Int32) (M : Mem) : Option (Int32 × Mem) :=
  J_X7_rowEnd_3 FU v0 v2 v3 v1 M
set_option maxRecDepth 20000 in
set_option maxHeartbeats 4000000 in
theorem lift_X7_rowEnd {G : Gt} {M M9 : Mem} {x9 : Int32} {v0 : Option Nat} {v1 : Int32} {v2 : Int32} {v3 : Int32} (h : L_X7_rowEnd v0 v1 v2 v3 M = some (x9, M9)) : Mt G mX7_rowEnd 0 [vR v0, vI v1, vI v2, vI v3] M (some (vI x9)) M9 := by
  unfold L_X7_rowEnd at h
  refine Mt.of (by decide +kernel) (Nat.le_of_ble_eq_true rfl) ?_
  have hh : V G mX7_rowEnd 0 M (some (vI x9)) M9 M 0 [(0, vR v0), (1, vI v1), (2, vI v2), (3, vI v3)] [] := by
    refine V.iload_n (n := 1) dX7_rowEnd_0 rfl rfl ?_
    refine V.istore dX7_rowEnd_1 (by decide) rfl rfl ?_
    exact V.sub [1, 3, 4, 0] rfl (lab_X7_rowEnd_3 FU _ _ _ _ _ h)
  exact hh
def L_X7_add (v0 : Option Nat) (v1 : Int32) (v2 : Int32) (v3 : Int64) (M : Mem) : Option (Unit × Mem) :=
  (fI M 7 5 v0).bind fun x1 =>
  (fR M 7 2 v0).bind fun x2 =>
  (aN M x2).bind fun x3 =>
  if x3 ≤ x1 then
  (some ((), M))
  else
  ((fR M 7 2 v0).bind fun x4 =>
  (fI M 7 5 v0).bind fun x5 =>
  (uI M 20 x4 x5 v1).bind fun M6 =>
  (fR M6 7 3 v0).bind fun x7 =>
  (fI M6 7 5 v0).bind fun x8 =>
  (uI M6 20 x7 x8 v2).bind fun M9 =>
  (fR M9 7 4 v0).bind fun x10 =>
  (fI M9 7 5 v0).bind fun x11 =>
  (uL M9 21 x10 x11 v3).bind fun M12 =>
  (fI M12 7 5 v0).bind fun x13 =>
  (pI M12 7 5 v0 (x13 + (1 : Int32))).bind fun M14 =>
  some ((), M14))
set_option maxRecDepth 20000 in
set_option maxHeartbeats 4000000 in
theorem lift_X7_add {G : Gt} {M M9 : Mem} {x9 : Unit} {v0 : Option Nat} {v1 : Int32} {v2 : Int32} {v3 : Int64} (h : L_X7_add v0 v1 v2 v3 M = some (x9, M9)) : Mt G mX7_add 0 [vR v0, vI v1, vI v2, vL v3] M none M9 := by
  unfold L_X7_add at h
  refine Mt.of (by decide +kernel) (Nat.le_of_ble_eq_true rfl) ?_
  have hh : V G mX7_add 0 M none M9 M 0 [(0, vR v0), (1, vI v1), (2, vI v2), (3, vL v3)] [] := by
    refine V.aload_n (n := 0) dX7_add_0 rfl rfl ?_
    refine V.getI dX7_add_1 lkX7_37 rfl rfl h (fun x1 h => ?_)
    refine V.aload_n (n := 0) dX7_add_4 rfl rfl ?_
    refine V.getR dX7_add_5 lkX7_15 rfl rfl h (fun x2 h => ?_)
    refine V.alen dX7_add_8 rfl h (fun x3 h => ?_)
    refine V.icmp_ge (q := 52) dX7_add_9 (by decide) rfl h (fun h => ?_) (fun h => ?_)
    · exact V.vret dX7_add_52 rfl h
    · refine V.aload_n (n := 0) dX7_add_12 rfl rfl ?_
      refine V.getR dX7_add_13 lkX7_15 rfl rfl h (fun x4 h => ?_)
      refine V.aload_n (n := 0) dX7_add_16 rfl rfl ?_
      refine V.getI dX7_add_17 lkX7_37 rfl rfl h (fun x5 h => ?_)
      refine V.iload_n (n := 1) dX7_add_20 rfl rfl ?_
      refine V.iast dX7_add_21 rfl h (fun M6 h => ?_)
      refine V.aload_n (n := 0) dX7_add_22 rfl rfl ?_
      refine V.getR dX7_add_23 lkX7_19 rfl rfl h (fun x7 h => ?_)
      refine V.aload_n (n := 0) dX7_add_26 rfl rfl ?_
      refine V.getI dX7_add_27 lkX7_37 rfl rfl h (fun x8 h => ?_)
      refine V.iload_n (n := 2) dX7_add_30 rfl rfl ?_
      refine V.iast dX7_add_31 rfl h (fun M9 h => ?_)
      refine V.aload_n (n := 0) dX7_add_32 rfl rfl ?_
      refine V.getR dX7_add_33 lkX7_22 rfl rfl h (fun x10 h => ?_)
      refine V.aload_n (n := 0) dX7_add_36 rfl rfl ?_
      refine V.getI dX7_add_37 lkX7_37 rfl rfl h (fun x11 h => ?_)
      refine V.lload_n (n := 3) dX7_add_40 rfl rfl ?_
      refine V.last dX7_add_41 rfl h (fun M12 h => ?_)
      refine V.aload_n (n := 0) dX7_add_42 rfl rfl ?_
      refine V.dup dX7_add_43 rfl rfl ?_
      refine V.getI dX7_add_44 lkX7_37 rfl rfl h (fun x13 h => ?_)
      refine V.iconst (x := 1) dX7_add_47 (by decide) rfl ?_
      refine V.iadd dX7_add_48 rfl ?_
      refine V.putI dX7_add_49 lkX7_37 (Or.inl rfl) rfl rfl h (fun M14 h => ?_)
      exact V.vret dX7_add_52 rfl h
  exact hh
def L_X7_withLetter (v0 : Int64) (v2 : Int32) (M : Mem) : Option (Int64 × Mem) :=
  some ((v0 <<< ((5 : Int32).toInt64 &&& 63)) ||| (((v2 - (97 : Int32)) + (1 : Int32)).toInt64), M)
set_option maxRecDepth 20000 in
set_option maxHeartbeats 4000000 in
theorem lift_X7_withLetter {G : Gt} {M M9 : Mem} {x9 : Int64} {v0 : Int64} {v2 : Int32} (h : L_X7_withLetter v0 v2 M = some (x9, M9)) : Mt G mX7_withLetter 0 [vL v0, vI v2] M (some (vL x9)) M9 := by
  unfold L_X7_withLetter at h
  refine Mt.of (by decide +kernel) (Nat.le_of_ble_eq_true rfl) ?_
  have hh : V G mX7_withLetter 0 M (some (vL x9)) M9 M 0 [(0, vL v0), (2, vI v2)] [] := by
    refine V.lload_n (n := 0) dX7_withLetter_0 rfl rfl ?_
    refine V.iconst (x := 5) dX7_withLetter_1 (by decide) rfl ?_
    refine V.lshl dX7_withLetter_2 rfl ?_
    refine V.iload_n (n := 1) dX7_withLetter_3 rfl rfl ?_
    refine V.bipush (x := 97) dX7_withLetter_4 (by decide) rfl ?_
    refine V.isub dX7_withLetter_6 rfl ?_
    refine V.iconst (x := 1) dX7_withLetter_7 (by decide) rfl ?_
    refine V.iadd dX7_withLetter_8 rfl ?_
    refine V.i2l dX7_withLetter_9 rfl ?_
    refine V.lor dX7_withLetter_10 rfl ?_
    exact V.lret dX7_withLetter_11 rfl h
  exact hh
def J_X7_addName_74 (v1 : Int32) (v3 : Int64) (s0 : Option Nat) (s1 : Int32) (M : Mem) : Option (Unit × Mem) :=
  (ck M 7 s0).bind fun _ => (L_X7_add s0 s1 v1 v3 M).bind fun w1 =>
  some ((), w1.2)
set_option maxRecDepth 20000 in
set_option maxHeartbeats 4000000 in
theorem lab_X7_addName_74 {G : Gt} {M0 M9 : Mem} {x9 : Unit} {v1 : Int32} {v3 : Int64} {s0 : Option Nat} {s1 : Int32} {M : Mem} (h : J_X7_addName_74 v1 v3 s0 s1 M = some (x9, M9)) : V G mX7_addName 1 M0 none M9 M 74 [(1, vI v1), (3, vL v3)] [vI s1, vR s0] := by
  unfold J_X7_addName_74 at h
  refine V.iload_n (n := 0) dX7_addName_74 rfl rfl ?_
  refine V.lload_n (n := 1) dX7_addName_75 rfl rfl ?_
  refine V.callVv (d' := 0) (as := [vI s1, vI v1, vL v3]) (st := []) dX7_addName_76 meX7_add mlX7_60 imX7_add seX7_add clsX7 rfl (by omega) (Nat.le_of_ble_eq_true rfl) rfl rfl h (fun v hv => lift_X7_add hv) (fun w1 h => ?_)
  exact V.vret dX7_addName_79 rfl h
def J_X7_addName_21 : Nat → Option Nat → Int32 → Int32 → Int64 → Int32 → Mem → Option (Unit × Mem)
  | 0 => fun _ _ _ _ _ _ => none
  | n + 1 => fun v0 v1 v2 v3 v5 M =>
  if v2 ≤ v5 then
  ((fR M 7 6 v0).bind fun x2 =>
  (L_X10_positionOf x2 (12 : Int32) v3 M).bind fun w3 =>
  if ¬ w3.1 = (-1 : Int32) then
  (J_X7_addName_74 v1 v3 v0 ((300 : Int32) + w3.1) w3.2)
  else
  (J_X7_addName_74 v1 v3 v0 (2 : Int32) w3.2))
  else
  ((fR M 7 0 v0).bind fun x4 =>
  (aI M 22 x4 v5).bind fun x5 =>
  (L_X7_withLetter v3 x5 M).bind fun w6 =>
  J_X7_addName_21 n v0 v1 v2 w6.1 (v5 + 1) w6.2)
set_option maxRecDepth 20000 in
set_option maxHeartbeats 4000000 in
theorem lab_X7_addName_21 {G : Gt} {M0 M9 : Mem} {x9 : Unit} : ∀ (n : Nat) (v0 : Option Nat) (v1 : Int32) (v2 : Int32) (v3 : Int64) (v5 : Int32) (M : Mem), J_X7_addName_21 n v0 v1 v2 v3 v5 M = some (x9, M9) → V G mX7_addName 1 M0 none M9 M 21 [(0, vR v0), (1, vI v1), (2, vI v2), (3, vL v3), (5, vI v5)] [] := by
  intro n
  induction n with
  | zero => intro v0 v1 v2 v3 v5 M h; exact nomatch h
  | succ n ih =>
    intro v0 v1 v2 v3 v5 M h
    unfold J_X7_addName_21 at h
    refine V.iload (n := 4) dX7_addName_21 rfl rfl ?_
    refine V.iload_n (n := 2) dX7_addName_23 rfl rfl ?_
    refine V.icmp_ge (q := 45) dX7_addName_24 (by decide) rfl h (fun h => ?_) (fun h => ?_)
    · refine V.aload_n (n := 0) dX7_addName_45 rfl rfl ?_
      refine V.getR dX7_addName_46 lkX7_30 rfl rfl h (fun x2 h => ?_)
      refine V.bipush (x := 12) dX7_addName_49 (by decide) rfl ?_
      refine V.lload_n (n := 3) dX7_addName_51 rfl rfl ?_
      refine V.callSNi (d' := 0) (as := [vR x2, vI (12 : Int32), vL v3]) (st := []) dX7_addName_52 meX10_positionOf nlX7_80 smX10_positionOf rfl (by omega) (Nat.le_of_ble_eq_true rfl) rfl rfl h (fun v hv => lift_X10_positionOf hv) (fun w3 h => ?_)
      refine V.istore dX7_addName_55 (by decide) rfl rfl ?_
      refine V.aload_n (n := 1) dX7_addName_57 rfl rfl ?_
      refine V.iload (n := 0) dX7_addName_58 rfl rfl ?_
      refine V.iconst (x := (-1)) dX7_addName_60 (by decide) rfl ?_
      refine V.icmp_ne (q := 68) dX7_addName_61 (by decide) rfl h (fun h => ?_) (fun h => ?_)
      · refine V.sipush (x := 300) dX7_addName_68 (by decide) rfl ?_
        refine V.iload (n := 0) dX7_addName_71 rfl rfl ?_
        refine V.iadd dX7_addName_73 rfl ?_
        exact V.sub [2, 4] rfl (lab_X7_addName_74 h)
      · refine V.iconst (x := 2) dX7_addName_64 (by decide) rfl ?_
        refine V.goto (q := 74) dX7_addName_65 (by decide) ?_
        exact V.sub [2, 4] rfl (lab_X7_addName_74 h)
    · refine V.lload_n (n := 3) dX7_addName_27 rfl rfl ?_
      refine V.aload_n (n := 0) dX7_addName_28 rfl rfl ?_
      refine V.getR dX7_addName_29 lkX7_9 rfl rfl h (fun x4 h => ?_)
      refine V.iload (n := 4) dX7_addName_32 rfl rfl ?_
      refine V.cald dX7_addName_34 rfl h (fun x5 h => ?_)
      refine V.callSl (d' := 0) (as := [vL v3, vI x5]) (st := []) dX7_addName_35 meX7_withLetter mlX7_52 smX7_withLetter rfl (by omega) (Nat.le_of_ble_eq_true rfl) rfl rfl h (fun v hv => lift_X7_withLetter hv) (fun w6 h => ?_)
      refine V.lstore_n dX7_addName_38 rfl (by decide) rfl rfl ?_
      refine V.iinc (n := 4) (x := v5 + 1) dX7_addName_39 rfl (by rfl) (by decide) rfl rfl ?_
      refine V.goto (q := 21) dX7_addName_42 (by decide) ?_
      exact V.sub [2, 3, 4, 1, 0] rfl (ih _ _ _ _ _ _ h)
def L_X7_addName (v0 : Option Nat) (v1 : Int32) (v2 : Int32) (M : Mem) : Option (Unit × Mem) :=
  if (v2 - v1) ≤ (8 : Int32) then
  (J_X7_addName_21 FU v0 v1 v2 (0 : Int64) v1 M)
  else
  ((ck M 7 v0).bind fun _ => (L_X7_add v0 (1 : Int32) v1 (0 : Int64) M).bind fun w7 =>
  some ((), w7.2))
set_option maxRecDepth 20000 in
set_option maxHeartbeats 4000000 in
theorem lift_X7_addName {G : Gt} {M M9 : Mem} {x9 : Unit} {v0 : Option Nat} {v1 : Int32} {v2 : Int32} (h : L_X7_addName v0 v1 v2 M = some (x9, M9)) : Mt G mX7_addName 1 [vR v0, vI v1, vI v2] M none M9 := by
  unfold L_X7_addName at h
  refine Mt.of (by decide +kernel) (Nat.le_of_ble_eq_true rfl) ?_
  have hh : V G mX7_addName 1 M none M9 M 0 [(0, vR v0), (1, vI v1), (2, vI v2)] [] := by
    refine V.iload_n (n := 2) dX7_addName_0 rfl rfl ?_
    refine V.iload_n (n := 1) dX7_addName_1 rfl rfl ?_
    refine V.isub dX7_addName_2 rfl ?_
    refine V.bipush (x := 8) dX7_addName_3 (by decide) rfl ?_
    refine V.icmp_le (q := 16) dX7_addName_5 (by decide) rfl h (fun h => ?_) (fun h => ?_)
    · refine V.lconst (x := 0) dX7_addName_16 (by decide) rfl ?_
      refine V.lstore_n dX7_addName_17 rfl (by decide) rfl rfl ?_
      refine V.iload_n (n := 2) dX7_addName_18 rfl rfl ?_
      refine V.istore dX7_addName_19 (by decide) rfl rfl ?_
      exact V.sub [2, 3, 4, 1, 0] rfl (lab_X7_addName_21 FU _ _ _ _ _ _ h)
    · refine V.aload_n (n := 0) dX7_addName_8 rfl rfl ?_
      refine V.iconst (x := 1) dX7_addName_9 (by decide) rfl ?_
      refine V.iload_n (n := 1) dX7_addName_10 rfl rfl ?_
      refine V.lconst (x := 0) dX7_addName_11 (by decide) rfl ?_
      refine V.callVv (d' := 0) (as := [vI (1 : Int32), vI v1, vL (0 : Int64)]) (st := []) dX7_addName_12 meX7_add mlX7_60 imX7_add seX7_add clsX7 rfl (by omega) (Nat.le_of_ble_eq_true rfl) rfl rfl h (fun v hv => lift_X7_add hv) (fun w7 h => ?_)
      exact V.vret dX7_addName_15 rfl h
  exact hh
def J_X7_addNumber_21 : Nat → Option Nat → Int32 → Int32 → Int64 → Int32 → Mem → Option (Unit × Mem)
  | 0 => fun _ _ _ _ _ _ => none
  | n + 1 => fun v0 v1 v2 v3 v5 M =>
  if v2 ≤ v5 then
  ((ck M 7 v0).bind fun _ => (L_X7_add v0 (3 : Int32) v1 v3 M).bind fun w1 =>
  some ((), w1.2))
  else
  ((fR M 7 0 v0).bind fun x2 =>
  (aI M 22 x2 v5).bind fun x3 =>
  J_X7_addNumber_21 n v0 v1 v2 ((v3 * (10 : Int64)) + ((x3 - (48 : Int32)).toInt64)) (v5 + 1) M)
set_option maxRecDepth 20000 in
set_option maxHeartbeats 4000000 in
theorem lab_X7_addNumber_21 {G : Gt} {M0 M9 : Mem} {x9 : Unit} : ∀ (n : Nat) (v0 : Option Nat) (v1 : Int32) (v2 : Int32) (v3 : Int64) (v5 : Int32) (M : Mem), J_X7_addNumber_21 n v0 v1 v2 v3 v5 M = some (x9, M9) → V G mX7_addNumber 1 M0 none M9 M 21 [(0, vR v0), (1, vI v1), (2, vI v2), (3, vL v3), (5, vI v5)] [] := by
  intro n
  induction n with
  | zero => intro v0 v1 v2 v3 v5 M h; exact nomatch h
  | succ n ih =>
    intro v0 v1 v2 v3 v5 M h
    unfold J_X7_addNumber_21 at h
    refine V.iload (n := 4) dX7_addNumber_21 rfl rfl ?_
    refine V.iload_n (n := 2) dX7_addNumber_23 rfl rfl ?_
    refine V.icmp_ge (q := 51) dX7_addNumber_24 (by decide) rfl h (fun h => ?_) (fun h => ?_)
    · refine V.aload_n (n := 0) dX7_addNumber_51 rfl rfl ?_
      refine V.iconst (x := 3) dX7_addNumber_52 (by decide) rfl ?_
      refine V.iload_n (n := 1) dX7_addNumber_53 rfl rfl ?_
      refine V.lload_n (n := 3) dX7_addNumber_54 rfl rfl ?_
      refine V.callVv (d' := 0) (as := [vI (3 : Int32), vI v1, vL v3]) (st := []) dX7_addNumber_55 meX7_add mlX7_60 imX7_add seX7_add clsX7 rfl (by omega) (Nat.le_of_ble_eq_true rfl) rfl rfl h (fun v hv => lift_X7_add hv) (fun w1 h => ?_)
      exact V.vret dX7_addNumber_58 rfl h
    · refine V.lload_n (n := 3) dX7_addNumber_27 rfl rfl ?_
      refine V.ldc2 (x := (10)) dX7_addNumber_28 clX7_84 rfl ?_
      refine V.lmul dX7_addNumber_31 rfl ?_
      refine V.aload_n (n := 0) dX7_addNumber_32 rfl rfl ?_
      refine V.getR dX7_addNumber_33 lkX7_9 rfl rfl h (fun x2 h => ?_)
      refine V.iload (n := 4) dX7_addNumber_36 rfl rfl ?_
      refine V.cald dX7_addNumber_38 rfl h (fun x3 h => ?_)
      refine V.bipush (x := 48) dX7_addNumber_39 (by decide) rfl ?_
      refine V.isub dX7_addNumber_41 rfl ?_
      refine V.i2l dX7_addNumber_42 rfl ?_
      refine V.ladd dX7_addNumber_43 rfl ?_
      refine V.lstore_n dX7_addNumber_44 rfl (by decide) rfl rfl ?_
      refine V.iinc (n := 4) (x := v5 + 1) dX7_addNumber_45 rfl (by rfl) (by decide) rfl rfl ?_
      refine V.goto (q := 21) dX7_addNumber_48 (by decide) ?_
      exact V.sub [2, 3, 4, 1, 0] rfl (ih _ _ _ _ _ _ h)
def L_X7_addNumber (v0 : Option Nat) (v1 : Int32) (v2 : Int32) (M : Mem) : Option (Unit × Mem) :=
  if (v2 - v1) ≤ (9 : Int32) then
  (J_X7_addNumber_21 FU v0 v1 v2 (0 : Int64) v1 M)
  else
  ((ck M 7 v0).bind fun _ => (L_X7_add v0 (1 : Int32) v1 (0 : Int64) M).bind fun w4 =>
  some ((), w4.2))
set_option maxRecDepth 20000 in
set_option maxHeartbeats 4000000 in
theorem lift_X7_addNumber {G : Gt} {M M9 : Mem} {x9 : Unit} {v0 : Option Nat} {v1 : Int32} {v2 : Int32} (h : L_X7_addNumber v0 v1 v2 M = some (x9, M9)) : Mt G mX7_addNumber 1 [vR v0, vI v1, vI v2] M none M9 := by
  unfold L_X7_addNumber at h
  refine Mt.of (by decide +kernel) (Nat.le_of_ble_eq_true rfl) ?_
  have hh : V G mX7_addNumber 1 M none M9 M 0 [(0, vR v0), (1, vI v1), (2, vI v2)] [] := by
    refine V.iload_n (n := 2) dX7_addNumber_0 rfl rfl ?_
    refine V.iload_n (n := 1) dX7_addNumber_1 rfl rfl ?_
    refine V.isub dX7_addNumber_2 rfl ?_
    refine V.bipush (x := 9) dX7_addNumber_3 (by decide) rfl ?_
    refine V.icmp_le (q := 16) dX7_addNumber_5 (by decide) rfl h (fun h => ?_) (fun h => ?_)
    · refine V.lconst (x := 0) dX7_addNumber_16 (by decide) rfl ?_
      refine V.lstore_n dX7_addNumber_17 rfl (by decide) rfl rfl ?_
      refine V.iload_n (n := 2) dX7_addNumber_18 rfl rfl ?_
      refine V.istore dX7_addNumber_19 (by decide) rfl rfl ?_
      exact V.sub [2, 3, 4, 1, 0] rfl (lab_X7_addNumber_21 FU _ _ _ _ _ _ h)
    · refine V.aload_n (n := 0) dX7_addNumber_8 rfl rfl ?_
      refine V.iconst (x := 1) dX7_addNumber_9 (by decide) rfl ?_
      refine V.iload_n (n := 1) dX7_addNumber_10 rfl rfl ?_
      refine V.lconst (x := 0) dX7_addNumber_11 (by decide) rfl ?_
      refine V.callVv (d' := 0) (as := [vI (1 : Int32), vI v1, vL (0 : Int64)]) (st := []) dX7_addNumber_12 meX7_add mlX7_60 imX7_add seX7_add clsX7 rfl (by omega) (Nat.le_of_ble_eq_true rfl) rfl rfl h (fun v hv => lift_X7_add hv) (fun w4 h => ?_)
      exact V.vret dX7_addNumber_15 rfl h
  exact hh
def J_X7_cutOne_19 (v1 : Int32) (M : Mem) : Option (Int32 × Mem) :=
  some (v1 + (1 : Int32), M)
set_option maxRecDepth 20000 in
set_option maxHeartbeats 4000000 in
theorem lab_X7_cutOne_19 {G : Gt} {M0 M9 : Mem} {x9 : Int32} {v1 : Int32} {M : Mem} (h : J_X7_cutOne_19 v1 M = some (x9, M9)) : V G mX7_cutOne 9 M0 (some (vI x9)) M9 M 19 [(1, vI v1)] [] := by
  unfold J_X7_cutOne_19 at h
  refine V.iload_n (n := 0) dX7_cutOne_19 rfl rfl ?_
  refine V.iconst (x := 1) dX7_cutOne_20 (by decide) rfl ?_
  refine V.iadd dX7_cutOne_21 rfl ?_
  exact V.iret dX7_cutOne_22 rfl h
def J_X7_cutOne_84 (v1 : Int32) (s0 : Option Nat) (s1 : Int32) (M : Mem) : Option (Int32 × Mem) :=
  (ck M 7 s0).bind fun _ => (L_X7_add s0 s1 v1 (0 : Int64) M).bind fun w1 =>
  some (v1 + (1 : Int32), w1.2)
set_option maxRecDepth 20000 in
set_option maxHeartbeats 4000000 in
theorem lab_X7_cutOne_84 {G : Gt} {M0 M9 : Mem} {x9 : Int32} {v1 : Int32} {s0 : Option Nat} {s1 : Int32} {M : Mem} (h : J_X7_cutOne_84 v1 s0 s1 M = some (x9, M9)) : V G mX7_cutOne 9 M0 (some (vI x9)) M9 M 84 [(1, vI v1)] [vI s1, vR s0] := by
  unfold J_X7_cutOne_84 at h
  refine V.iload_n (n := 0) dX7_cutOne_84 rfl rfl ?_
  refine V.lconst (x := 0) dX7_cutOne_85 (by decide) rfl ?_
  refine V.callVv (d' := 0) (as := [vI s1, vI v1, vL (0 : Int64)]) (st := []) dX7_cutOne_86 meX7_add mlX7_60 imX7_add seX7_add clsX7 rfl (by omega) (Nat.le_of_ble_eq_true rfl) rfl rfl h (fun v hv => lift_X7_add hv) (fun w1 h => ?_)
  refine V.iload_n (n := 0) dX7_cutOne_89 rfl rfl ?_
  refine V.iconst (x := 1) dX7_cutOne_90 (by decide) rfl ?_
  refine V.iadd dX7_cutOne_91 rfl ?_
  exact V.iret dX7_cutOne_92 rfl h
def L_X7_cutOne (v0 : Option Nat) (v1 : Int32) (M : Mem) : Option (Int32 × Mem) :=
  (fR M 7 0 v0).bind fun x2 =>
  (aI M 22 x2 v1).bind fun x3 =>
  if x3 = (32 : Int32) then
  (J_X7_cutOne_19 v1 M)
  else
  (if ¬ x3 = (10 : Int32) then
  ((ck M 7 v0).bind fun _ => (L_X7_rowEnd v0 v1 (97 : Int32) (122 : Int32) M).bind fun w4 =>
  if w4.1 ≤ v1 then
  ((ck w4.2 7 v0).bind fun _ => (L_X7_rowEnd v0 v1 (48 : Int32) (57 : Int32) w4.2).bind fun w5 =>
  if w5.1 ≤ v1 then
  (if (sgIx x3) < 0 then
  (J_X7_cutOne_84 v1 v0 (1 : Int32) w5.2)
  else
  (J_X7_cutOne_84 v1 v0 x3 w5.2))
  else
  ((ck w5.2 7 v0).bind fun _ => (L_X7_addNumber v0 v1 w5.1 w5.2).bind fun w6 =>
  some (w5.1, w6.2)))
  else
  ((ck w4.2 7 v0).bind fun _ => (L_X7_addName v0 v1 w4.1 w4.2).bind fun w7 =>
  some (w4.1, w7.2)))
  else
  (J_X7_cutOne_19 v1 M))
set_option maxRecDepth 20000 in
set_option maxHeartbeats 4000000 in
theorem lift_X7_cutOne {G : Gt} {M M9 : Mem} {x9 : Int32} {v0 : Option Nat} {v1 : Int32} (h : L_X7_cutOne v0 v1 M = some (x9, M9)) : Mt G mX7_cutOne 9 [vR v0, vI v1] M (some (vI x9)) M9 := by
  unfold L_X7_cutOne at h
  refine Mt.of (by decide +kernel) (Nat.le_of_ble_eq_true rfl) ?_
  have hh : V G mX7_cutOne 9 M (some (vI x9)) M9 M 0 [(0, vR v0), (1, vI v1)] [] := by
    refine V.aload_n (n := 0) dX7_cutOne_0 rfl rfl ?_
    refine V.getR dX7_cutOne_1 lkX7_9 rfl rfl h (fun x2 h => ?_)
    refine V.iload_n (n := 1) dX7_cutOne_4 rfl rfl ?_
    refine V.cald dX7_cutOne_5 rfl h (fun x3 h => ?_)
    refine V.istore_n dX7_cutOne_6 rfl (by decide) rfl rfl ?_
    refine V.iload_n (n := 0) dX7_cutOne_7 rfl rfl ?_
    refine V.bipush (x := 32) dX7_cutOne_8 (by decide) rfl ?_
    refine V.icmp_eq (q := 19) dX7_cutOne_10 (by decide) rfl h (fun h => ?_) (fun h => ?_)
    · exact V.sub [2] rfl (lab_X7_cutOne_19 h)
    · refine V.iload_n (n := 0) dX7_cutOne_13 rfl rfl ?_
      refine V.bipush (x := 10) dX7_cutOne_14 (by decide) rfl ?_
      refine V.icmp_ne (q := 23) dX7_cutOne_16 (by decide) rfl h (fun h => ?_) (fun h => ?_)
      · refine V.aload_n (n := 1) dX7_cutOne_23 rfl rfl ?_
        refine V.iload_n (n := 2) dX7_cutOne_24 rfl rfl ?_
        refine V.bipush (x := 97) dX7_cutOne_25 (by decide) rfl ?_
        refine V.bipush (x := 122) dX7_cutOne_27 (by decide) rfl ?_
        refine V.callVi (d' := 0) (as := [vI v1, vI (97 : Int32), vI (122 : Int32)]) (st := []) dX7_cutOne_29 meX7_rowEnd mlX7_64 imX7_rowEnd seX7_rowEnd clsX7 rfl (by omega) (Nat.le_of_ble_eq_true rfl) rfl rfl h (fun v hv => lift_X7_rowEnd hv) (fun w4 h => ?_)
        refine V.istore_n dX7_cutOne_32 rfl (by decide) rfl rfl ?_
        refine V.iload_n (n := 0) dX7_cutOne_33 rfl rfl ?_
        refine V.iload_n (n := 3) dX7_cutOne_34 rfl rfl ?_
        refine V.icmp_le (q := 46) dX7_cutOne_35 (by decide) rfl h (fun h => ?_) (fun h => ?_)
        · refine V.aload_n (n := 2) dX7_cutOne_46 rfl rfl ?_
          refine V.iload_n (n := 3) dX7_cutOne_47 rfl rfl ?_
          refine V.bipush (x := 48) dX7_cutOne_48 (by decide) rfl ?_
          refine V.bipush (x := 57) dX7_cutOne_50 (by decide) rfl ?_
          refine V.callVi (d' := 0) (as := [vI v1, vI (48 : Int32), vI (57 : Int32)]) (st := []) dX7_cutOne_52 meX7_rowEnd mlX7_64 imX7_rowEnd seX7_rowEnd clsX7 rfl (by omega) (Nat.le_of_ble_eq_true rfl) rfl rfl h (fun v hv => lift_X7_rowEnd hv) (fun w5 h => ?_)
          refine V.istore_n dX7_cutOne_55 rfl (by decide) rfl rfl ?_
          refine V.iload_n (n := 0) dX7_cutOne_56 rfl rfl ?_
          refine V.iload_n (n := 3) dX7_cutOne_57 rfl rfl ?_
          refine V.icmp_le (q := 69) dX7_cutOne_58 (by decide) rfl h (fun h => ?_) (fun h => ?_)
          · refine V.aload_n (n := 2) dX7_cutOne_69 rfl rfl ?_
            refine str_X7_cutOne_70 (n := 1) rfl (Nat.le_of_ble_eq_true rfl) (by omega) ?_
            refine V.if_lt (q := 83) dX7_cutOne_76 (by decide) rfl h (fun h => ?_) (fun h => ?_)
            · refine V.iconst (x := 1) dX7_cutOne_83 (by decide) rfl ?_
              exact V.sub [3] rfl (lab_X7_cutOne_84 h)
            · refine V.iload_n (n := 1) dX7_cutOne_79 rfl rfl ?_
              refine V.goto (q := 84) dX7_cutOne_80 (by decide) ?_
              exact V.sub [3] rfl (lab_X7_cutOne_84 h)
          · refine V.aload_n (n := 2) dX7_cutOne_61 rfl rfl ?_
            refine V.iload_n (n := 3) dX7_cutOne_62 rfl rfl ?_
            refine V.iload_n (n := 0) dX7_cutOne_63 rfl rfl ?_
            refine V.callVv (d' := 1) (as := [vI v1, vI w5.1]) (st := []) dX7_cutOne_64 meX7_addNumber mlX7_72 imX7_addNumber seX7_addNumber clsX7 rfl (by omega) (Nat.le_of_ble_eq_true rfl) rfl rfl h (fun v hv => lift_X7_addNumber hv) (fun w6 h => ?_)
            refine V.iload_n (n := 0) dX7_cutOne_67 rfl rfl ?_
            exact V.iret dX7_cutOne_68 rfl h
        · refine V.aload_n (n := 2) dX7_cutOne_38 rfl rfl ?_
          refine V.iload_n (n := 3) dX7_cutOne_39 rfl rfl ?_
          refine V.iload_n (n := 0) dX7_cutOne_40 rfl rfl ?_
          refine V.callVv (d' := 1) (as := [vI v1, vI w4.1]) (st := []) dX7_cutOne_41 meX7_addName mlX7_68 imX7_addName seX7_addName clsX7 rfl (by omega) (Nat.le_of_ble_eq_true rfl) rfl rfl h (fun v hv => lift_X7_addName hv) (fun w7 h => ?_)
          refine V.iload_n (n := 0) dX7_cutOne_44 rfl rfl ?_
          exact V.iret dX7_cutOne_45 rfl h
      · exact V.sub [2] rfl (lab_X7_cutOne_19 h)
  exact hh
def J_X7_cut_36 (v0 : Option Nat) (M : Mem) : Option (Unit × Mem) :=
  (fI M 7 1 v0).bind fun x1 =>
  (ck M 7 v0).bind fun _ => (L_X7_add v0 (0 : Int32) x1 (0 : Int64) M).bind fun w2 =>
  some ((), w2.2)
set_option maxRecDepth 20000 in
set_option maxHeartbeats 4000000 in
theorem lab_X7_cut_36 {G : Gt} {M0 M9 : Mem} {x9 : Unit} {v0 : Option Nat} {M : Mem} (h : J_X7_cut_36 v0 M = some (x9, M9)) : V G mX7_cut 10 M0 none M9 M 36 [(0, vR v0)] [] := by
  unfold J_X7_cut_36 at h
  refine V.aload_n (n := 0) dX7_cut_36 rfl rfl ?_
  refine V.iconst (x := 0) dX7_cut_37 (by decide) rfl ?_
  refine V.aload_n (n := 0) dX7_cut_38 rfl rfl ?_
  refine V.getI dX7_cut_39 lkX7_33 rfl rfl h (fun x1 h => ?_)
  refine V.lconst (x := 0) dX7_cut_42 (by decide) rfl ?_
  refine V.callVv (d' := 0) (as := [vI (0 : Int32), vI x1, vL (0 : Int64)]) (st := []) dX7_cut_43 meX7_add mlX7_60 imX7_add seX7_add clsX7 rfl (by omega) (Nat.le_of_ble_eq_true rfl) rfl rfl h (fun v hv => lift_X7_add hv) (fun w2 h => ?_)
  exact V.vret dX7_cut_46 rfl h
def J_X7_cut_9 : Nat → Option Nat → Int32 → Int32 → Mem → Option (Unit × Mem)
  | 0 => fun _ _ _ _ => none
  | n + 1 => fun v0 v1 v2 M =>
  if (900 : Int32) ≤ v2 then
  (J_X7_cut_36 v0 M)
  else
  ((fI M 7 1 v0).bind fun x3 =>
  if x3 ≤ v1 then
  (J_X7_cut_36 v0 M)
  else
  ((ck M 7 v0).bind fun _ => (L_X7_cutOne v0 v1 M).bind fun w4 =>
  J_X7_cut_9 n v0 w4.1 (v2 + 1) w4.2))
set_option maxRecDepth 20000 in
set_option maxHeartbeats 4000000 in
theorem lab_X7_cut_9 {G : Gt} {M0 M9 : Mem} {x9 : Unit} : ∀ (n : Nat) (v0 : Option Nat) (v1 : Int32) (v2 : Int32) (M : Mem), J_X7_cut_9 n v0 v1 v2 M = some (x9, M9) → V G mX7_cut 10 M0 none M9 M 9 [(0, vR v0), (1, vI v1), (2, vI v2)] [] := by
  intro n
  induction n with
  | zero => intro v0 v1 v2 M h; exact nomatch h
  | succ n ih =>
    intro v0 v1 v2 M h
    unfold J_X7_cut_9 at h
    refine V.iload_n (n := 2) dX7_cut_9 rfl rfl ?_
    refine V.sipush (x := 900) dX7_cut_10 (by decide) rfl ?_
    refine V.icmp_ge (q := 36) dX7_cut_13 (by decide) rfl h (fun h => ?_) (fun h => ?_)
    · exact V.sub [0] rfl (lab_X7_cut_36 h)
    · refine V.iload_n (n := 1) dX7_cut_16 rfl rfl ?_
      refine V.aload_n (n := 0) dX7_cut_17 rfl rfl ?_
      refine V.getI dX7_cut_18 lkX7_33 rfl rfl h (fun x3 h => ?_)
      refine V.icmp_ge (q := 36) dX7_cut_21 (by decide) rfl h (fun h => ?_) (fun h => ?_)
      · exact V.sub [0] rfl (lab_X7_cut_36 h)
      · refine V.aload_n (n := 0) dX7_cut_24 rfl rfl ?_
        refine V.iload_n (n := 1) dX7_cut_25 rfl rfl ?_
        refine V.callVi (d' := 9) (as := [vI v1]) (st := []) dX7_cut_26 meX7_cutOne mlX7_56 imX7_cutOne seX7_cutOne clsX7 rfl (by omega) (Nat.le_of_ble_eq_true rfl) rfl rfl h (fun v hv => lift_X7_cutOne hv) (fun w4 h => ?_)
        refine V.istore_n dX7_cut_29 rfl (by decide) rfl rfl ?_
        refine V.iinc (n := 2) (x := v2 + 1) dX7_cut_30 rfl (by rfl) (by decide) rfl rfl ?_
        refine V.goto (q := 9) dX7_cut_33 (by decide) ?_
        exact V.sub [2, 1, 0] rfl (ih _ _ _ _ h)
def L_X7_cut (v0 : Option Nat) (M : Mem) : Option (Unit × Mem) :=
  (pI M 7 5 v0 (0 : Int32)).bind fun M5 =>
  J_X7_cut_9 FU v0 (0 : Int32) (0 : Int32) M5
set_option maxRecDepth 20000 in
set_option maxHeartbeats 4000000 in
theorem lift_X7_cut {G : Gt} {M M9 : Mem} {x9 : Unit} {v0 : Option Nat} (h : L_X7_cut v0 M = some (x9, M9)) : Mt G mX7_cut 10 [vR v0] M none M9 := by
  unfold L_X7_cut at h
  refine Mt.of (by decide +kernel) (Nat.le_of_ble_eq_true rfl) ?_
  have hh : V G mX7_cut 10 M none M9 M 0 [(0, vR v0)] [] := by
    refine V.aload_n (n := 0) dX7_cut_0 rfl rfl ?_
    refine V.iconst (x := 0) dX7_cut_1 (by decide) rfl ?_
    refine V.putI dX7_cut_2 lkX7_37 (Or.inl rfl) rfl rfl h (fun M5 h => ?_)
    refine V.iconst (x := 0) dX7_cut_5 (by decide) rfl ?_
    refine V.istore_n dX7_cut_6 rfl (by decide) rfl rfl ?_
    refine V.iconst (x := 0) dX7_cut_7 (by decide) rfl ?_
    refine V.istore_n dX7_cut_8 rfl (by decide) rfl rfl ?_
    exact V.sub [2, 1, 0] rfl (lab_X7_cut_9 FU _ _ _ _ h)
  exact hh
def L_X4_kind (v0 : Option Nat) (M : Mem) : Option (Int32 × Mem) :=
  (fI M 4 5 v0).bind fun x1 =>
  if ¬ x1 = 0 then
  (some ((4 : Int32), M))
  else
  ((fI M 4 2 v0).bind fun x2 =>
  (fR M 4 0 v0).bind fun x3 =>
  (fI M 7 5 x3).bind fun x4 =>
  if x2 < x4 then
  ((fR M 4 0 v0).bind fun x5 =>
  (fR M 7 2 x5).bind fun x6 =>
  (fI M 4 2 v0).bind fun x7 =>
  (aI M 20 x6 x7).bind fun x8 =>
  some (x8, M))
  else
  (some ((4 : Int32), M)))
set_option maxRecDepth 20000 in
set_option maxHeartbeats 4000000 in
theorem lift_X4_kind {G : Gt} {M M9 : Mem} {x9 : Int32} {v0 : Option Nat} (h : L_X4_kind v0 M = some (x9, M9)) : Mt G mX4_kind 0 [vR v0] M (some (vI x9)) M9 := by
  unfold L_X4_kind at h
  refine Mt.of (by decide +kernel) (Nat.le_of_ble_eq_true rfl) ?_
  have hh : V G mX4_kind 0 M (some (vI x9)) M9 M 0 [(0, vR v0)] [] := by
    refine V.aload_n (n := 0) dX4_kind_0 rfl rfl ?_
    refine V.getI dX4_kind_1 lkX4_46 rfl rfl h (fun x1 h => ?_)
    refine V.if_ne (q := 21) dX4_kind_4 (by decide) rfl h (fun h => ?_) (fun h => ?_)
    · refine V.iconst (x := 4) dX4_kind_21 (by decide) rfl ?_
      refine V.goto (q := 37) dX4_kind_22 (by decide) ?_
      exact V.iret dX4_kind_37 rfl h
    · refine V.aload_n (n := 0) dX4_kind_7 rfl rfl ?_
      refine V.getI dX4_kind_8 lkX4_37 rfl rfl h (fun x2 h => ?_)
      refine V.aload_n (n := 0) dX4_kind_11 rfl rfl ?_
      refine V.getR dX4_kind_12 lkX4_9 rfl rfl h (fun x3 h => ?_)
      refine V.getI dX4_kind_15 lkX4_76 rfl rfl h (fun x4 h => ?_)
      refine V.icmp_lt (q := 25) dX4_kind_18 (by decide) rfl h (fun h => ?_) (fun h => ?_)
      · refine V.aload_n (n := 0) dX4_kind_25 rfl rfl ?_
        refine V.getR dX4_kind_26 lkX4_9 rfl rfl h (fun x5 h => ?_)
        refine V.getR dX4_kind_29 lkX4_79 rfl rfl h (fun x6 h => ?_)
        refine V.aload_n (n := 0) dX4_kind_32 rfl rfl ?_
        refine V.getI dX4_kind_33 lkX4_37 rfl rfl h (fun x7 h => ?_)
        refine V.iald dX4_kind_36 rfl h (fun x8 h => ?_)
        exact V.iret dX4_kind_37 rfl h
      · refine V.iconst (x := 4) dX4_kind_21 (by decide) rfl ?_
        refine V.goto (q := 37) dX4_kind_22 (by decide) ?_
        exact V.iret dX4_kind_37 rfl h
  exact hh
def L_X4_place (v0 : Option Nat) (M : Mem) : Option (Int32 × Mem) :=
  (fI M 4 2 v0).bind fun x1 =>
  (fR M 4 0 v0).bind fun x2 =>
  (fI M 7 5 x2).bind fun x3 =>
  if x3 ≤ x1 then
  ((fR M 4 0 v0).bind fun x4 =>
  (fI M 7 1 x4).bind fun x5 =>
  some (x5, M))
  else
  ((fR M 4 0 v0).bind fun x6 =>
  (fR M 7 3 x6).bind fun x7 =>
  (fI M 4 2 v0).bind fun x8 =>
  (aI M 20 x7 x8).bind fun x9 =>
  some (x9, M))
set_option maxRecDepth 20000 in
set_option maxHeartbeats 4000000 in
theorem lift_X4_place {G : Gt} {M M9 : Mem} {x9 : Int32} {v0 : Option Nat} (h : L_X4_place v0 M = some (x9, M9)) : Mt G mX4_place 0 [vR v0] M (some (vI x9)) M9 := by
  unfold L_X4_place at h
  refine Mt.of (by decide +kernel) (Nat.le_of_ble_eq_true rfl) ?_
  have hh : V G mX4_place 0 M (some (vI x9)) M9 M 0 [(0, vR v0)] [] := by
    refine V.aload_n (n := 0) dX4_place_0 rfl rfl ?_
    refine V.getI dX4_place_1 lkX4_37 rfl rfl h (fun x1 h => ?_)
    refine V.aload_n (n := 0) dX4_place_4 rfl rfl ?_
    refine V.getR dX4_place_5 lkX4_9 rfl rfl h (fun x2 h => ?_)
    refine V.getI dX4_place_8 lkX4_76 rfl rfl h (fun x3 h => ?_)
    refine V.icmp_ge (q := 29) dX4_place_11 (by decide) rfl h (fun h => ?_) (fun h => ?_)
    · refine V.aload_n (n := 0) dX4_place_29 rfl rfl ?_
      refine V.getR dX4_place_30 lkX4_9 rfl rfl h (fun x4 h => ?_)
      refine V.getI dX4_place_33 lkX4_86 rfl rfl h (fun x5 h => ?_)
      exact V.iret dX4_place_36 rfl h
    · refine V.aload_n (n := 0) dX4_place_14 rfl rfl ?_
      refine V.getR dX4_place_15 lkX4_9 rfl rfl h (fun x6 h => ?_)
      refine V.getR dX4_place_18 lkX4_83 rfl rfl h (fun x7 h => ?_)
      refine V.aload_n (n := 0) dX4_place_21 rfl rfl ?_
      refine V.getI dX4_place_22 lkX4_37 rfl rfl h (fun x8 h => ?_)
      refine V.iald dX4_place_25 rfl h (fun x9 h => ?_)
      refine V.goto (q := 36) dX4_place_26 (by decide) ?_
      exact V.iret dX4_place_36 rfl h
  exact hh
def L_X4_content (v0 : Option Nat) (M : Mem) : Option (Int64 × Mem) :=
  (fI M 4 2 v0).bind fun x1 =>
  (fR M 4 0 v0).bind fun x2 =>
  (fI M 7 5 x2).bind fun x3 =>
  if x3 ≤ x1 then
  (some ((0 : Int64), M))
  else
  ((fR M 4 0 v0).bind fun x4 =>
  (fR M 7 4 x4).bind fun x5 =>
  (fI M 4 2 v0).bind fun x6 =>
  (aL M 21 x5 x6).bind fun x7 =>
  some (x7, M))
set_option maxRecDepth 20000 in
set_option maxHeartbeats 4000000 in
theorem lift_X4_content {G : Gt} {M M9 : Mem} {x9 : Int64} {v0 : Option Nat} (h : L_X4_content v0 M = some (x9, M9)) : Mt G mX4_content 0 [vR v0] M (some (vL x9)) M9 := by
  unfold L_X4_content at h
  refine Mt.of (by decide +kernel) (Nat.le_of_ble_eq_true rfl) ?_
  have hh : V G mX4_content 0 M (some (vL x9)) M9 M 0 [(0, vR v0)] [] := by
    refine V.aload_n (n := 0) dX4_content_0 rfl rfl ?_
    refine V.getI dX4_content_1 lkX4_37 rfl rfl h (fun x1 h => ?_)
    refine V.aload_n (n := 0) dX4_content_4 rfl rfl ?_
    refine V.getR dX4_content_5 lkX4_9 rfl rfl h (fun x2 h => ?_)
    refine V.getI dX4_content_8 lkX4_76 rfl rfl h (fun x3 h => ?_)
    refine V.icmp_ge (q := 29) dX4_content_11 (by decide) rfl h (fun h => ?_) (fun h => ?_)
    · refine V.lconst (x := 0) dX4_content_29 (by decide) rfl ?_
      exact V.lret dX4_content_30 rfl h
    · refine V.aload_n (n := 0) dX4_content_14 rfl rfl ?_
      refine V.getR dX4_content_15 lkX4_9 rfl rfl h (fun x4 h => ?_)
      refine V.getR dX4_content_18 lkX4_89 rfl rfl h (fun x5 h => ?_)
      refine V.aload_n (n := 0) dX4_content_21 rfl rfl ?_
      refine V.getI dX4_content_22 lkX4_37 rfl rfl h (fun x6 h => ?_)
      refine V.lald dX4_content_25 rfl h (fun x7 h => ?_)
      refine V.goto (q := 30) dX4_content_26 (by decide) ?_
      exact V.lret dX4_content_30 rfl h
  exact hh
def J_X4_reject_54 (s0 : Option Nat) (s1 : Int32) (M : Mem) : Option (Unit × Mem) :=
  (pI M 4 7 s0 s1).bind fun M1 =>
  some ((), M1)
set_option maxRecDepth 20000 in
set_option maxHeartbeats 4000000 in
theorem lab_X4_reject_54 {G : Gt} {M0 M9 : Mem} {x9 : Unit} {s0 : Option Nat} {s1 : Int32} {M : Mem} (h : J_X4_reject_54 s0 s1 M = some (x9, M9)) : V G mX4_reject 0 M0 none M9 M 54 [] [vI s1, vR s0] := by
  unfold J_X4_reject_54 at h
  refine V.putI dX4_reject_54 lkX4_26 (Or.inl rfl) rfl rfl h (fun M1 h => ?_)
  exact V.vret dX4_reject_57 rfl h
def L_X4_reject (v0 : Option Nat) (M : Mem) : Option (Unit × Mem) :=
  (fI M 4 5 v0).bind fun x2 =>
  if ¬ x2 = 0 then
  (some ((), M))
  else
  ((pZ M 4 5 v0 (1 : Int32)).bind fun M3 =>
  (pI M3 4 6 v0 (1 : Int32)).bind fun M4 =>
  (fI M4 4 2 v0).bind fun x5 =>
  (fR M4 4 0 v0).bind fun x6 =>
  (fI M4 7 5 x6).bind fun x7 =>
  if x7 ≤ x5 then
  ((fR M4 4 0 v0).bind fun x8 =>
  (fI M4 7 1 x8).bind fun x9 =>
  J_X4_reject_54 v0 x9 M4)
  else
  ((fR M4 4 0 v0).bind fun x10 =>
  (fR M4 7 3 x10).bind fun x11 =>
  (fI M4 4 2 v0).bind fun x12 =>
  (aI M4 20 x11 x12).bind fun x13 =>
  J_X4_reject_54 v0 x13 M4))
set_option maxRecDepth 20000 in
set_option maxHeartbeats 4000000 in
theorem lift_X4_reject {G : Gt} {M M9 : Mem} {x9 : Unit} {v0 : Option Nat} (h : L_X4_reject v0 M = some (x9, M9)) : Mt G mX4_reject 0 [vR v0] M none M9 := by
  unfold L_X4_reject at h
  refine Mt.of (by decide +kernel) (Nat.le_of_ble_eq_true rfl) ?_
  have hh : V G mX4_reject 0 M none M9 M 0 [(0, vR v0)] [] := by
    refine V.aload_n (n := 0) dX4_reject_0 rfl rfl ?_
    refine V.getI dX4_reject_1 lkX4_46 rfl rfl h (fun x2 h => ?_)
    refine V.if_ne (q := 57) dX4_reject_4 (by decide) rfl h (fun h => ?_) (fun h => ?_)
    · exact V.vret dX4_reject_57 rfl h
    · refine V.aload_n (n := 0) dX4_reject_7 rfl rfl ?_
      refine V.iconst (x := 1) dX4_reject_8 (by decide) rfl ?_
      refine V.putZ dX4_reject_9 lkX4_46 (Or.inl rfl) rfl rfl h (fun M3 h => ?_)
      refine V.aload_n (n := 0) dX4_reject_12 rfl rfl ?_
      refine V.iconst (x := 1) dX4_reject_13 (by decide) rfl ?_
      refine V.putI dX4_reject_14 lkX4_22 (Or.inl rfl) rfl rfl h (fun M4 h => ?_)
      refine V.aload_n (n := 0) dX4_reject_17 rfl rfl ?_
      refine V.aload_n (n := 0) dX4_reject_18 rfl rfl ?_
      refine V.getI dX4_reject_19 lkX4_37 rfl rfl h (fun x5 h => ?_)
      refine V.aload_n (n := 0) dX4_reject_22 rfl rfl ?_
      refine V.getR dX4_reject_23 lkX4_9 rfl rfl h (fun x6 h => ?_)
      refine V.getI dX4_reject_26 lkX4_76 rfl rfl h (fun x7 h => ?_)
      refine V.icmp_ge (q := 47) dX4_reject_29 (by decide) rfl h (fun h => ?_) (fun h => ?_)
      · refine V.aload_n (n := 0) dX4_reject_47 rfl rfl ?_
        refine V.getR dX4_reject_48 lkX4_9 rfl rfl h (fun x8 h => ?_)
        refine V.getI dX4_reject_51 lkX4_86 rfl rfl h (fun x9 h => ?_)
        exact V.sub [] rfl (lab_X4_reject_54 h)
      · refine V.aload_n (n := 0) dX4_reject_32 rfl rfl ?_
        refine V.getR dX4_reject_33 lkX4_9 rfl rfl h (fun x10 h => ?_)
        refine V.getR dX4_reject_36 lkX4_83 rfl rfl h (fun x11 h => ?_)
        refine V.aload_n (n := 0) dX4_reject_39 rfl rfl ?_
        refine V.getI dX4_reject_40 lkX4_37 rfl rfl h (fun x12 h => ?_)
        refine V.iald dX4_reject_43 rfl h (fun x13 h => ?_)
        refine V.goto (q := 54) dX4_reject_44 (by decide) ?_
        exact V.sub [] rfl (lab_X4_reject_54 h)
  exact hh
def L_X4_take (v0 : Option Nat) (v1 : Int32) (M : Mem) : Option (Int32 × Mem) :=
  (ck M 4 v0).bind fun _ => (L_X4_kind v0 M).bind fun w1 =>
  if w1.1 = v1 then
  ((fI w1.2 4 2 v0).bind fun x2 =>
  (pI w1.2 4 2 v0 (x2 + (1 : Int32))).bind fun M3 =>
  (bz (1 : Int32)).bind fun _ => some ((1 : Int32), M3))
  else
  ((ck w1.2 4 v0).bind fun _ => (L_X4_reject v0 w1.2).bind fun w4 =>
  (bz (0 : Int32)).bind fun _ => some ((0 : Int32), w4.2))
set_option maxRecDepth 20000 in
set_option maxHeartbeats 4000000 in
theorem lift_X4_take {G : Gt} {M M9 : Mem} {x9 : Int32} {v0 : Option Nat} {v1 : Int32} (h : L_X4_take v0 v1 M = some (x9, M9)) : Mt G mX4_take 1 [vR v0, vI v1] M (some (vI x9)) M9 := by
  unfold L_X4_take at h
  refine Mt.of (by decide +kernel) (Nat.le_of_ble_eq_true rfl) ?_
  have hh : V G mX4_take 1 M (some (vI x9)) M9 M 0 [(0, vR v0), (1, vI v1)] [] := by
    refine V.aload_n (n := 0) dX4_take_0 rfl rfl ?_
    refine V.callVi (d' := 0) (as := []) (st := []) dX4_take_1 meX4_kind mlX4_53 imX4_kind seX4_kind clsX4 rfl (by omega) (Nat.le_of_ble_eq_true rfl) rfl rfl h (fun v hv => lift_X4_kind hv) (fun w1 h => ?_)
    refine V.iload_n (n := 1) dX4_take_4 rfl rfl ?_
    refine V.icmp_eq (q := 14) dX4_take_5 (by decide) rfl h (fun h => ?_) (fun h => ?_)
    · refine V.aload_n (n := 0) dX4_take_14 rfl rfl ?_
      refine V.dup dX4_take_15 rfl rfl ?_
      refine V.getI dX4_take_16 lkX4_37 rfl rfl h (fun x2 h => ?_)
      refine V.iconst (x := 1) dX4_take_19 (by decide) rfl ?_
      refine V.iadd dX4_take_20 rfl ?_
      refine V.putI dX4_take_21 lkX4_37 (Or.inl rfl) rfl rfl h (fun M3 h => ?_)
      refine V.iconst (x := 1) dX4_take_24 (by decide) rfl ?_
      exact V.zret dX4_take_25 rfl h
    · refine V.aload_n (n := 0) dX4_take_8 rfl rfl ?_
      refine V.callVv (d' := 0) (as := []) (st := []) dX4_take_9 meX4_reject mlX4_93 imX4_reject seX4_reject clsX4 rfl (by omega) (Nat.le_of_ble_eq_true rfl) rfl rfl h (fun v hv => lift_X4_reject hv) (fun w4 h => ?_)
      refine V.iconst (x := 0) dX4_take_12 (by decide) rfl ?_
      exact V.zret dX4_take_13 rfl h
  exact hh
def L_X10_yearIndex (v0 : Int64) (M : Mem) : Option (Int32 × Mem) :=
  if v0 < (1700 : Int64) then
  (some ((-1 : Int32), M))
  else
  (if (1730 : Int64) ≤ v0 then
  (some ((-1 : Int32), M))
  else
  (some (v0.toInt32 - (1700 : Int32), M)))
set_option maxRecDepth 20000 in
set_option maxHeartbeats 4000000 in
theorem lift_X10_yearIndex {G : Gt} {M M9 : Mem} {x9 : Int32} {v0 : Int64} (h : L_X10_yearIndex v0 M = some (x9, M9)) : Mt G mX10_yearIndex 0 [vL v0] M (some (vI x9)) M9 := by
  unfold L_X10_yearIndex at h
  refine Mt.of (by decide +kernel) (Nat.le_of_ble_eq_true rfl) ?_
  have hh : V G mX10_yearIndex 0 M (some (vI x9)) M9 M 0 [(0, vL v0)] [] := by
    refine V.lload_n (n := 0) dX10_yearIndex_0 rfl rfl ?_
    refine V.ldc2 (x := (1700)) dX10_yearIndex_1 clX10_188 rfl ?_
    refine V.lif_lt (q := 25) dX10_yearIndex_4 rfl dX10_yearIndex_5 (by decide) rfl h (fun h => ?_) (fun h => ?_)
    · refine V.iconst (x := (-1)) dX10_yearIndex_25 (by decide) rfl ?_
      exact V.iret dX10_yearIndex_26 rfl h
    · refine V.lload_n (n := 0) dX10_yearIndex_8 rfl rfl ?_
      refine V.ldc2 (x := (1730)) dX10_yearIndex_9 clX10_190 rfl ?_
      refine V.lif_ge (q := 25) dX10_yearIndex_12 rfl dX10_yearIndex_13 (by decide) rfl h (fun h => ?_) (fun h => ?_)
      · refine V.iconst (x := (-1)) dX10_yearIndex_25 (by decide) rfl ?_
        exact V.iret dX10_yearIndex_26 rfl h
      · refine V.lload_n (n := 0) dX10_yearIndex_16 rfl rfl ?_
        refine V.l2i dX10_yearIndex_17 rfl ?_
        refine V.sipush (x := 1700) dX10_yearIndex_18 (by decide) rfl ?_
        refine V.isub dX10_yearIndex_21 rfl ?_
        refine V.goto (q := 26) dX10_yearIndex_22 (by decide) ?_
        exact V.iret dX10_yearIndex_26 rfl h
  exact hh
def L_X4_note (v0 : Option Nat) (v1 : Int32) (v2 : Int32) (M : Mem) : Option (Unit × Mem) :=
  (fI M 4 6 v0).bind fun x1 =>
  if ¬ x1 = 0 then
  (some ((), M))
  else
  ((pI M 4 6 v0 v1).bind fun M2 =>
  (pI M2 4 7 v0 v2).bind fun M3 =>
  some ((), M3))
set_option maxRecDepth 20000 in
set_option maxHeartbeats 4000000 in
theorem lift_X4_note {G : Gt} {M M9 : Mem} {x9 : Unit} {v0 : Option Nat} {v1 : Int32} {v2 : Int32} (h : L_X4_note v0 v1 v2 M = some (x9, M9)) : Mt G mX4_note 0 [vR v0, vI v1, vI v2] M none M9 := by
  unfold L_X4_note at h
  refine Mt.of (by decide +kernel) (Nat.le_of_ble_eq_true rfl) ?_
  have hh : V G mX4_note 0 M none M9 M 0 [(0, vR v0), (1, vI v1), (2, vI v2)] [] := by
    refine V.aload_n (n := 0) dX4_note_0 rfl rfl ?_
    refine V.getI dX4_note_1 lkX4_22 rfl rfl h (fun x1 h => ?_)
    refine V.if_ne (q := 17) dX4_note_4 (by decide) rfl h (fun h => ?_) (fun h => ?_)
    · exact V.vret dX4_note_17 rfl h
    · refine V.aload_n (n := 0) dX4_note_7 rfl rfl ?_
      refine V.iload_n (n := 1) dX4_note_8 rfl rfl ?_
      refine V.putI dX4_note_9 lkX4_22 (Or.inl rfl) rfl rfl h (fun M2 h => ?_)
      refine V.aload_n (n := 0) dX4_note_12 rfl rfl ?_
      refine V.iload_n (n := 2) dX4_note_13 rfl rfl ?_
      refine V.putI dX4_note_14 lkX4_26 (Or.inl rfl) rfl rfl h (fun M3 h => ?_)
      exact V.vret dX4_note_17 rfl h
  exact hh
def J_X4_leanOn_21 (v0 : Option Nat) (v3 : Int32) (M : Mem) : Option (Int32 × Mem) :=
  (ck M 4 v0).bind fun _ => (L_X4_note v0 (3 : Int32) v3 M).bind fun w1 =>
  (fI w1.2 4 3 v0).bind fun x2 =>
  some (x2, w1.2)
set_option maxRecDepth 20000 in
set_option maxHeartbeats 4000000 in
theorem lab_X4_leanOn_21 {G : Gt} {M0 M9 : Mem} {x9 : Int32} {v0 : Option Nat} {v3 : Int32} {M : Mem} (h : J_X4_leanOn_21 v0 v3 M = some (x9, M9)) : V G mX4_leanOn 1 M0 (some (vI x9)) M9 M 21 [(0, vR v0), (3, vI v3)] [] := by
  unfold J_X4_leanOn_21 at h
  refine V.aload_n (n := 0) dX4_leanOn_21 rfl rfl ?_
  refine V.iconst (x := 3) dX4_leanOn_22 (by decide) rfl ?_
  refine V.iload_n (n := 1) dX4_leanOn_23 rfl rfl ?_
  refine V.callVv (d' := 0) (as := [vI (3 : Int32), vI v3]) (st := []) dX4_leanOn_24 meX4_note mlX4_118 imX4_note seX4_note clsX4 rfl (by omega) (Nat.le_of_ble_eq_true rfl) rfl rfl h (fun v hv => lift_X4_note hv) (fun w1 h => ?_)
  refine V.aload_n (n := 0) dX4_leanOn_27 rfl rfl ?_
  refine V.getI dX4_leanOn_28 lkX4_40 rfl rfl h (fun x2 h => ?_)
  exact V.iret dX4_leanOn_31 rfl h
def L_X4_leanOn (v0 : Option Nat) (v1 : Int64) (v3 : Int32) (M : Mem) : Option (Int32 × Mem) :=
  (L_X10_yearIndex v1 M).bind fun w3 =>
  if w3.1 = (-1 : Int32) then
  (J_X4_leanOn_21 v0 v3 w3.2)
  else
  ((fI w3.2 4 3 v0).bind fun x4 =>
  if ¬ w3.1 = x4 then
  ((fR w3.2 4 1 v0).bind fun x5 =>
  (fI w3.2 0 1 x5).bind fun x6 =>
  (pI w3.2 0 1 x5 (x6 ||| ((1 : Int32) <<< (w3.1 &&& 31)))).bind fun M7 =>
  some (w3.1, M7))
  else
  (J_X4_leanOn_21 v0 v3 w3.2))
set_option maxRecDepth 20000 in
set_option maxHeartbeats 4000000 in
theorem lift_X4_leanOn {G : Gt} {M M9 : Mem} {x9 : Int32} {v0 : Option Nat} {v1 : Int64} {v3 : Int32} (h : L_X4_leanOn v0 v1 v3 M = some (x9, M9)) : Mt G mX4_leanOn 1 [vR v0, vL v1, vI v3] M (some (vI x9)) M9 := by
  unfold L_X4_leanOn at h
  refine Mt.of (by decide +kernel) (Nat.le_of_ble_eq_true rfl) ?_
  have hh : V G mX4_leanOn 1 M (some (vI x9)) M9 M 0 [(0, vR v0), (1, vL v1), (3, vI v3)] [] := by
    refine V.lload_n (n := 1) dX4_leanOn_0 rfl rfl ?_
    refine V.callSNi (d' := 0) (as := [vL v1]) (st := []) dX4_leanOn_1 meX10_yearIndex nlX4_114 smX10_yearIndex rfl (by omega) (Nat.le_of_ble_eq_true rfl) rfl rfl h (fun v hv => lift_X10_yearIndex hv) (fun w3 h => ?_)
    refine V.istore dX4_leanOn_4 (by decide) rfl rfl ?_
    refine V.iload (n := 0) dX4_leanOn_6 rfl rfl ?_
    refine V.iconst (x := (-1)) dX4_leanOn_8 (by decide) rfl ?_
    refine V.icmp_eq (q := 21) dX4_leanOn_9 (by decide) rfl h (fun h => ?_) (fun h => ?_)
    · exact V.sub [1, 3] rfl (lab_X4_leanOn_21 h)
    · refine V.iload (n := 0) dX4_leanOn_12 rfl rfl ?_
      refine V.aload_n (n := 1) dX4_leanOn_14 rfl rfl ?_
      refine V.getI dX4_leanOn_15 lkX4_40 rfl rfl h (fun x4 h => ?_)
      refine V.icmp_ne (q := 32) dX4_leanOn_18 (by decide) rfl h (fun h => ?_) (fun h => ?_)
      · refine V.aload_n (n := 1) dX4_leanOn_32 rfl rfl ?_
        refine V.getR dX4_leanOn_33 lkX4_18 rfl rfl h (fun x5 h => ?_)
        refine V.dup dX4_leanOn_36 rfl rfl ?_
        refine V.getI dX4_leanOn_37 lkX4_122 rfl rfl h (fun x6 h => ?_)
        refine V.iconst (x := 1) dX4_leanOn_40 (by decide) rfl ?_
        refine V.iload (n := 0) dX4_leanOn_41 rfl rfl ?_
        refine V.ishl dX4_leanOn_43 rfl ?_
        refine V.ior dX4_leanOn_44 rfl ?_
        refine V.putI dX4_leanOn_45 lkX4_122 (Or.inl rfl) rfl rfl h (fun M7 h => ?_)
        refine V.iload (n := 0) dX4_leanOn_48 rfl rfl ?_
        exact V.iret dX4_leanOn_50 rfl h
      · exact V.sub [1, 3] rfl (lab_X4_leanOn_21 h)
  exact hh
def L_X4_readUnder (v0 : Option Nat) (M : Mem) : Option (Unit × Mem) :=
  (ck M 4 v0).bind fun _ => (L_X4_kind v0 M).bind fun w1 =>
  if w1.1 = (300 : Int32) then
  ((fI w1.2 4 2 v0).bind fun x2 =>
  (pI w1.2 4 2 v0 (x2 + (1 : Int32))).bind fun M3 =>
  (ck M3 4 v0).bind fun _ => (L_X4_place v0 M3).bind fun w4 =>
  (ck w4.2 4 v0).bind fun _ => (L_X4_content v0 w4.2).bind fun w5 =>
  (ck w5.2 4 v0).bind fun _ => (L_X4_take v0 (3 : Int32) w5.2).bind fun w6 =>
  if w6.1 = 0 then
  (some ((), w6.2))
  else
  ((fR w6.2 4 1 v0).bind fun x7 =>
  (ck w6.2 4 v0).bind fun _ => (L_X4_leanOn v0 w5.1 w4.1 w6.2).bind fun w8 =>
  (pI w8.2 0 0 x7 w8.1).bind fun M9 =>
  (fR M9 4 1 v0).bind fun x10 =>
  (fR M9 4 1 v0).bind fun x11 =>
  (fI M9 0 0 x11).bind fun x12 =>
  (ck M9 0 x10).bind fun _ => (L_X0_emit x10 (16 : Int32) x12.toInt64 M9).bind fun w13 =>
  (ck w13.2 4 v0).bind fun _ => (L_X4_take v0 (59 : Int32) w13.2).bind fun w14 =>
  some ((), w14.2)))
  else
  (some ((), w1.2))
set_option maxRecDepth 20000 in
set_option maxHeartbeats 4000000 in
theorem lift_X4_readUnder {G : Gt} {M M9 : Mem} {x9 : Unit} {v0 : Option Nat} (h : L_X4_readUnder v0 M = some (x9, M9)) : Mt G mX4_readUnder 2 [vR v0] M none M9 := by
  unfold L_X4_readUnder at h
  refine Mt.of (by decide +kernel) (Nat.le_of_ble_eq_true rfl) ?_
  have hh : V G mX4_readUnder 2 M none M9 M 0 [(0, vR v0)] [] := by
    refine V.aload_n (n := 0) dX4_readUnder_0 rfl rfl ?_
    refine V.callVi (d' := 0) (as := []) (st := []) dX4_readUnder_1 meX4_kind mlX4_53 imX4_kind seX4_kind clsX4 rfl (by omega) (Nat.le_of_ble_eq_true rfl) rfl rfl h (fun v hv => lift_X4_kind hv) (fun w1 h => ?_)
    refine V.sipush (x := 300) dX4_readUnder_4 (by decide) rfl ?_
    refine V.icmp_eq (q := 11) dX4_readUnder_7 (by decide) rfl h (fun h => ?_) (fun h => ?_)
    · refine V.aload_n (n := 0) dX4_readUnder_11 rfl rfl ?_
      refine V.dup dX4_readUnder_12 rfl rfl ?_
      refine V.getI dX4_readUnder_13 lkX4_37 rfl rfl h (fun x2 h => ?_)
      refine V.iconst (x := 1) dX4_readUnder_16 (by decide) rfl ?_
      refine V.iadd dX4_readUnder_17 rfl ?_
      refine V.putI dX4_readUnder_18 lkX4_37 (Or.inl rfl) rfl rfl h (fun M3 h => ?_)
      refine V.aload_n (n := 0) dX4_readUnder_21 rfl rfl ?_
      refine V.callVi (d' := 0) (as := []) (st := []) dX4_readUnder_22 meX4_place mlX4_96 imX4_place seX4_place clsX4 rfl (by omega) (Nat.le_of_ble_eq_true rfl) rfl rfl h (fun v hv => lift_X4_place hv) (fun w4 h => ?_)
      refine V.istore_n dX4_readUnder_25 rfl (by decide) rfl rfl ?_
      refine V.aload_n (n := 1) dX4_readUnder_26 rfl rfl ?_
      refine V.callVl (d' := 0) (as := []) (st := []) dX4_readUnder_27 meX4_content mlX4_99 imX4_content seX4_content clsX4 rfl (by omega) (Nat.le_of_ble_eq_true rfl) rfl rfl h (fun v hv => lift_X4_content hv) (fun w5 h => ?_)
      refine V.lstore_n dX4_readUnder_30 rfl (by decide) rfl rfl ?_
      refine V.aload_n (n := 2) dX4_readUnder_31 rfl rfl ?_
      refine V.iconst (x := 3) dX4_readUnder_32 (by decide) rfl ?_
      refine V.callVi (d' := 1) (as := [vI (3 : Int32)]) (st := []) dX4_readUnder_33 meX4_take mlX4_103 imX4_take seX4_take clsX4 rfl (by omega) (Nat.le_of_ble_eq_true rfl) rfl rfl h (fun v hv => lift_X4_take hv) (fun w6 h => ?_)
      refine V.if_eq (q := 77) dX4_readUnder_36 (by decide) rfl h (fun h => ?_) (fun h => ?_)
      · exact V.vret dX4_readUnder_77 rfl h
      · refine V.aload_n (n := 2) dX4_readUnder_39 rfl rfl ?_
        refine V.getR dX4_readUnder_40 lkX4_18 rfl rfl h (fun x7 h => ?_)
        refine V.aload_n (n := 2) dX4_readUnder_43 rfl rfl ?_
        refine V.lload_n (n := 0) dX4_readUnder_44 rfl rfl ?_
        refine V.iload_n (n := 1) dX4_readUnder_45 rfl rfl ?_
        refine V.callVi (d' := 1) (as := [vL w5.1, vI w4.1]) (st := [vR x7]) dX4_readUnder_46 meX4_leanOn mlX4_107 imX4_leanOn seX4_leanOn clsX4 rfl (by omega) (Nat.le_of_ble_eq_true rfl) rfl rfl h (fun v hv => lift_X4_leanOn hv) (fun w8 h => ?_)
        refine V.putI dX4_readUnder_49 lkX4_111 (Or.inl rfl) rfl rfl h (fun M9 h => ?_)
        refine V.aload_n (n := 2) dX4_readUnder_52 rfl rfl ?_
        refine V.getR dX4_readUnder_53 lkX4_18 rfl rfl h (fun x10 h => ?_)
        refine V.bipush (x := 16) dX4_readUnder_56 (by decide) rfl ?_
        refine V.aload_n (n := 2) dX4_readUnder_58 rfl rfl ?_
        refine V.getR dX4_readUnder_59 lkX4_18 rfl rfl h (fun x11 h => ?_)
        refine V.getI dX4_readUnder_62 lkX4_111 rfl rfl h (fun x12 h => ?_)
        refine V.i2l dX4_readUnder_65 rfl ?_
        refine V.callVi (d' := 0) (as := [vI (16 : Int32), vL x12.toInt64]) (st := []) dX4_readUnder_66 meX0_emit mlX4_67 imX0_emit seX0_emit clsX0 rfl (by omega) (Nat.le_of_ble_eq_true rfl) rfl rfl h (fun v hv => lift_X0_emit hv) (fun w13 h => ?_)
        refine V.pop dX4_readUnder_69 rfl rfl ?_
        refine V.aload_n (n := 2) dX4_readUnder_70 rfl rfl ?_
        refine V.bipush (x := 59) dX4_readUnder_71 (by decide) rfl ?_
        refine V.callVi (d' := 1) (as := [vI (59 : Int32)]) (st := []) dX4_readUnder_73 meX4_take mlX4_103 imX4_take seX4_take clsX4 rfl (by omega) (Nat.le_of_ble_eq_true rfl) rfl rfl h (fun v hv => lift_X4_take hv) (fun w14 h => ?_)
        refine V.pop dX4_readUnder_76 rfl rfl ?_
        exact V.vret dX4_readUnder_77 rfl h
    · exact V.vret dX4_readUnder_10 rfl h
  exact hh
