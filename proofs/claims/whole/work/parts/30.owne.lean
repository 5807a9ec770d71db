def L_X10_issue (v0 : Option Nat) (M : Mem) : Option (Int32 × Mem) :=
  (fR M 10 2 v0).bind fun x1 =>
  (ck M 1 x1).bind fun _ => (L_X1_renew x1 M).bind fun w2 =>
  (fR w2.2 10 3 v0).bind fun x3 =>
  (ck w2.2 5 x3).bind fun _ => (L_X5_settleAll x3 w2.2).bind fun w4 =>
  some (w2.1, w4.2)
set_option maxRecDepth 20000 in
set_option maxHeartbeats 4000000 in
theorem lift_X10_issue {G : Gt} {M M9 : Mem} {x9 : Int32} {v0 : Option Nat} (h : L_X10_issue v0 M = some (x9, M9)) : Mt G mX10_issue 6 [vR v0] M (some (vI x9)) M9 := by
  unfold L_X10_issue at h
  refine Mt.of (by decide +kernel) (Nat.le_of_ble_eq_true rfl) ?_
  have hh : V G mX10_issue 6 M (some (vI x9)) M9 M 0 [(0, vR v0)] [] := by
    refine V.aload_n (n := 0) dX10_issue_0 rfl rfl ?_
    refine V.getR dX10_issue_1 lkX10_28 rfl rfl h (fun x1 h => ?_)
    refine V.callVi (d' := 2) (as := []) (st := []) dX10_issue_4 meX1_renew mlX10_98 imX1_renew seX1_renew clsX1 rfl (by omega) (Nat.le_of_ble_eq_true rfl) rfl rfl h (fun v hv => lift_X1_renew hv) (fun w2 h => ?_)
    refine V.istore_n dX10_issue_7 rfl (by decide) rfl rfl ?_
    refine V.aload_n (n := 1) dX10_issue_8 rfl rfl ?_
    refine V.getR dX10_issue_9 lkX10_37 rfl rfl h (fun x3 h => ?_)
    refine V.callVv (d' := 5) (as := []) (st := []) dX10_issue_12 meX5_settleAll mlX10_102 imX5_settleAll seX5_settleAll clsX5 rfl (by omega) (Nat.le_of_ble_eq_true rfl) rfl rfl h (fun v hv => lift_X5_settleAll hv) (fun w4 h => ?_)
    refine V.iload_n (n := 0) dX10_issue_15 rfl rfl ?_
    exact V.iret dX10_issue_16 rfl h
  exact hh
def L_X10_sheetState (v0 : Option Nat) (v1 : Int32) (M : Mem) : Option (Int32 × Mem) :=
  if v1 = 4 then
  (if ¬ v0 = none then
  ((fR M 6 6 v0).bind fun x1 =>
  (aN M x1).bind fun x2 =>
  some (x2, M))
  else
  (some ((0 : Int32), M)))
  else
  if v1 = 5 then
  (if ¬ v0 = none then
  ((fR M 6 8 v0).bind fun x3 =>
  (aN M x3).bind fun x4 =>
  some (x4, M))
  else
  (some ((0 : Int32), M)))
  else
  if v1 = 6 then
  (if v0 = none then
  (some ((-1 : Int32), M))
  else
  ((fI M 6 0 v0).bind fun x5 =>
  if ¬ x5 = (-1 : Int32) then
  ((fI M 6 0 v0).bind fun x6 =>
  some ((1700 : Int32) + x6, M))
  else
  (some ((-1 : Int32), M))))
  else
  (some ((-1 : Int32), M))
set_option maxRecDepth 20000 in
set_option maxHeartbeats 4000000 in
theorem lift_X10_sheetState {G : Gt} {M M9 : Mem} {x9 : Int32} {v0 : Option Nat} {v1 : Int32} (h : L_X10_sheetState v0 v1 M = some (x9, M9)) : Mt G mX10_sheetState 0 [vR v0, vI v1] M (some (vI x9)) M9 := by
  unfold L_X10_sheetState at h
  refine Mt.of (by decide +kernel) (Nat.le_of_ble_eq_true rfl) ?_
  have hh : V G mX10_sheetState 0 M (some (vI x9)) M9 M 0 [(0, vR v0), (1, vI v1)] [] := by
    refine V.iload_n (n := 1) dX10_sheetState_0 rfl rfl ?_
    refine V.sw h (fun hx h => ?_) (fun n4 h => ?_)
    · refine V.swt hx ?_
      refine V.tableIn (q := 28) (x := 4) (off := 27) dX10_sheetState_1 (by decide) (by decide) (by decide) (by decide) ?_
      refine V.aload_n (n := 0) dX10_sheetState_28 rfl rfl ?_
      refine V.ifnonnull (q := 36) dX10_sheetState_29 (by decide) rfl h (fun h => ?_) (fun h => ?_)
      · refine V.aload_n (n := 0) dX10_sheetState_36 rfl rfl ?_
        refine V.getR dX10_sheetState_37 lkX10_192 rfl rfl h (fun x1 h => ?_)
        refine V.alen dX10_sheetState_40 rfl h (fun x2 h => ?_)
        exact V.iret dX10_sheetState_41 rfl h
      · refine V.iconst (x := 0) dX10_sheetState_32 (by decide) rfl ?_
        refine V.goto (q := 41) dX10_sheetState_33 (by decide) ?_
        exact V.iret dX10_sheetState_41 rfl h
    refine V.sw h (fun hx h => ?_) (fun n5 h => ?_)
    · refine V.swt hx ?_
      refine V.tableIn (q := 42) (x := 5) (off := 41) dX10_sheetState_1 (by decide) (by decide) (by decide) (by decide) ?_
      refine V.aload_n (n := 0) dX10_sheetState_42 rfl rfl ?_
      refine V.ifnonnull (q := 50) dX10_sheetState_43 (by decide) rfl h (fun h => ?_) (fun h => ?_)
      · refine V.aload_n (n := 0) dX10_sheetState_50 rfl rfl ?_
        refine V.getR dX10_sheetState_51 lkX10_195 rfl rfl h (fun x3 h => ?_)
        refine V.alen dX10_sheetState_54 rfl h (fun x4 h => ?_)
        exact V.iret dX10_sheetState_55 rfl h
      · refine V.iconst (x := 0) dX10_sheetState_46 (by decide) rfl ?_
        refine V.goto (q := 55) dX10_sheetState_47 (by decide) ?_
        exact V.iret dX10_sheetState_55 rfl h
    refine V.sw h (fun hx h => ?_) (fun n6 h => ?_)
    · refine V.swt hx ?_
      refine V.tableIn (q := 56) (x := 6) (off := 55) dX10_sheetState_1 (by decide) (by decide) (by decide) (by decide) ?_
      refine V.aload_n (n := 0) dX10_sheetState_56 rfl rfl ?_
      refine V.ifnull (q := 68) dX10_sheetState_57 (by decide) rfl h (fun h => ?_) (fun h => ?_)
      · refine V.iconst (x := (-1)) dX10_sheetState_68 (by decide) rfl ?_
        refine V.goto (q := 80) dX10_sheetState_69 (by decide) ?_
        exact V.iret dX10_sheetState_80 rfl h
      · refine V.aload_n (n := 0) dX10_sheetState_60 rfl rfl ?_
        refine V.getI dX10_sheetState_61 lkX10_198 rfl rfl h (fun x5 h => ?_)
        refine V.iconst (x := (-1)) dX10_sheetState_64 (by decide) rfl ?_
        refine V.icmp_ne (q := 72) dX10_sheetState_65 (by decide) rfl h (fun h => ?_) (fun h => ?_)
        · refine V.sipush (x := 1700) dX10_sheetState_72 (by decide) rfl ?_
          refine V.aload_n (n := 0) dX10_sheetState_75 rfl rfl ?_
          refine V.getI dX10_sheetState_76 lkX10_198 rfl rfl h (fun x6 h => ?_)
          refine V.iadd dX10_sheetState_79 rfl ?_
          exact V.iret dX10_sheetState_80 rfl h
        · refine V.iconst (x := (-1)) dX10_sheetState_68 (by decide) rfl ?_
          refine V.goto (q := 80) dX10_sheetState_69 (by decide) ?_
          exact V.iret dX10_sheetState_80 rfl h
    have e4 := sw_ne n4
    have e5 := sw_ne n5
    have e6 := sw_ne n6
    have t4 : (4 : Int32).toInt = 4 := by decide
    have t5 : (5 : Int32).toInt = 5 := by decide
    have t6 : (6 : Int32).toInt = 6 := by decide
    refine V.tableOut (q := 81) dX10_sheetState_1 (by omega) (by decide) ?_
    refine V.iconst (x := (-1)) dX10_sheetState_81 (by decide) rfl ?_
    exact V.iret dX10_sheetState_82 rfl h
  exact hh
def J_X10_state_108 (v0 : Option Nat) (v2 : Int32) (v3 : Int32) (M : Mem) : Option (Int32 × Mem) :=
  (fR M 10 2 v0).bind fun x1 =>
  (fR M 1 0 x1).bind fun x2 =>
  (aR M 25 x2 v3).bind fun x3 =>
  (L_X10_sheetState x3 v2 M).bind fun w4 =>
  some (w4.1, w4.2)
set_option maxRecDepth 20000 in
set_option maxHeartbeats 4000000 in
theorem lab_X10_state_108 {G : Gt} {M0 M9 : Mem} {x9 : Int32} {v0 : Option Nat} {v2 : Int32} {v3 : Int32} {M : Mem} (h : J_X10_state_108 v0 v2 v3 M = some (x9, M9)) : V G mX10_state 1 M0 (some (vI x9)) M9 M 108 [(0, vR v0), (2, vI v2), (3, vI v3)] [] := by
  unfold J_X10_state_108 at h
  refine V.aload_n (n := 0) dX10_state_108 rfl rfl ?_
  refine V.getR dX10_state_109 lkX10_28 rfl rfl h (fun x1 h => ?_)
  refine V.getR dX10_state_112 lkX10_94 rfl rfl h (fun x2 h => ?_)
  refine V.iload_n (n := 2) dX10_state_115 rfl rfl ?_
  refine V.aald (k := 25) dX10_state_116 (by decide) (by decide) rfl h (fun x3 h => ?_)
  refine V.iload_n (n := 1) dX10_state_117 rfl rfl ?_
  refine V.callSi (d' := 0) (as := [vR x3, vI v2]) (st := []) dX10_state_118 meX10_sheetState mlX10_126 smX10_sheetState rfl (by omega) (Nat.le_of_ble_eq_true rfl) rfl rfl h (fun v hv => lift_X10_sheetState hv) (fun w4 h => ?_)
  exact V.iret dX10_state_121 rfl h
def L_X10_state (v0 : Option Nat) (v1 : Int32) (v2 : Int32) (M : Mem) : Option (Int32 × Mem) :=
  (L_X10_yearIndex v1.toInt64 M).bind fun w5 =>
  if ¬ w5.1 = (-1 : Int32) then
  ((fR w5.2 10 2 v0).bind fun x6 =>
  (fR w5.2 1 1 x6).bind fun x7 =>
  (aR w5.2 26 x7 w5.1).bind fun x8 =>
  if v2 = 0 then
  ((fI w5.2 8 1 x8).bind fun x9 =>
  some (x9, w5.2))
  else
  if v2 = 1 then
  ((fI w5.2 8 2 x8).bind fun x10 =>
  some (x10, w5.2))
  else
  if v2 = 2 then
  ((fI w5.2 8 3 x8).bind fun x11 =>
  some (x11, w5.2))
  else
  if v2 = 3 then
  ((fI w5.2 8 4 x8).bind fun x12 =>
  some (x12, w5.2))
  else
  if v2 = 7 then
  ((fR w5.2 10 2 v0).bind fun x13 =>
  (fI w5.2 1 2 x13).bind fun x14 =>
  some (((x14.toUInt32 >>> (w5.1.toUInt32 &&& Int32.toUInt32 31)).toInt32) &&& (1 : Int32), w5.2))
  else
  (J_X10_state_108 v0 v2 w5.1 w5.2))
  else
  (some ((-1 : Int32), w5.2))
set_option maxRecDepth 20000 in
set_option maxHeartbeats 4000000 in
theorem lift_X10_state {G : Gt} {M M9 : Mem} {x9 : Int32} {v0 : Option Nat} {v1 : Int32} {v2 : Int32} (h : L_X10_state v0 v1 v2 M = some (x9, M9)) : Mt G mX10_state 1 [vR v0, vI v1, vI v2] M (some (vI x9)) M9 := by
  unfold L_X10_state at h
  refine Mt.of (by decide +kernel) (Nat.le_of_ble_eq_true rfl) ?_
  have hh : V G mX10_state 1 M (some (vI x9)) M9 M 0 [(0, vR v0), (1, vI v1), (2, vI v2)] [] := by
    refine V.iload_n (n := 1) dX10_state_0 rfl rfl ?_
    refine V.i2l dX10_state_1 rfl ?_
    refine V.callSi (d' := 0) (as := [vL v1.toInt64]) (st := []) dX10_state_2 meX10_yearIndex mlX10_71 smX10_yearIndex rfl (by omega) (Nat.le_of_ble_eq_true rfl) rfl rfl h (fun v hv => lift_X10_yearIndex hv) (fun w5 h => ?_)
    refine V.istore_n dX10_state_5 rfl (by decide) rfl rfl ?_
    refine V.iload_n (n := 0) dX10_state_6 rfl rfl ?_
    refine V.iconst (x := (-1)) dX10_state_7 (by decide) rfl ?_
    refine V.icmp_ne (q := 13) dX10_state_8 (by decide) rfl h (fun h => ?_) (fun h => ?_)
    · refine V.aload_n (n := 1) dX10_state_13 rfl rfl ?_
      refine V.getR dX10_state_14 lkX10_28 rfl rfl h (fun x6 h => ?_)
      refine V.getR dX10_state_17 lkX10_105 rfl rfl h (fun x7 h => ?_)
      refine V.iload_n (n := 0) dX10_state_20 rfl rfl ?_
      refine V.aald (k := 26) dX10_state_21 (by decide) (by decide) rfl h (fun x8 h => ?_)
      refine V.astore dX10_state_22 (by decide) rfl rfl ?_
      refine V.iload_n (n := 4) dX10_state_24 rfl rfl ?_
      refine V.sw h (fun hx h => ?_) (fun n0 h => ?_)
      · refine V.swt hx ?_
        refine V.tableIn (q := 72) (x := 0) (off := 47) dX10_state_25 (by decide) (by decide) (by decide) (by decide) ?_
        refine V.aload (n := 0) dX10_state_72 rfl rfl ?_
        refine V.getI dX10_state_74 lkX10_109 rfl rfl h (fun x9 h => ?_)
        exact V.iret dX10_state_77 rfl h
      refine V.sw h (fun hx h => ?_) (fun n1 h => ?_)
      · refine V.swt hx ?_
        refine V.tableIn (q := 78) (x := 1) (off := 53) dX10_state_25 (by decide) (by decide) (by decide) (by decide) ?_
        refine V.aload (n := 0) dX10_state_78 rfl rfl ?_
        refine V.getI dX10_state_80 lkX10_114 rfl rfl h (fun x10 h => ?_)
        exact V.iret dX10_state_83 rfl h
      refine V.sw h (fun hx h => ?_) (fun n2 h => ?_)
      · refine V.swt hx ?_
        refine V.tableIn (q := 84) (x := 2) (off := 59) dX10_state_25 (by decide) (by decide) (by decide) (by decide) ?_
        refine V.aload (n := 0) dX10_state_84 rfl rfl ?_
        refine V.getI dX10_state_86 lkX10_117 rfl rfl h (fun x11 h => ?_)
        exact V.iret dX10_state_89 rfl h
      refine V.sw h (fun hx h => ?_) (fun n3 h => ?_)
      · refine V.swt hx ?_
        refine V.tableIn (q := 90) (x := 3) (off := 65) dX10_state_25 (by decide) (by decide) (by decide) (by decide) ?_
        refine V.aload (n := 0) dX10_state_90 rfl rfl ?_
        refine V.getI dX10_state_92 lkX10_120 rfl rfl h (fun x12 h => ?_)
        exact V.iret dX10_state_95 rfl h
      refine V.sw h (fun hx h => ?_) (fun n7 h => ?_)
      · refine V.swt hx ?_
        refine V.tableIn (q := 96) (x := 7) (off := 71) dX10_state_25 (by decide) (by decide) (by decide) (by decide) ?_
        refine V.aload_n (n := 2) dX10_state_96 rfl rfl ?_
        refine V.getR dX10_state_97 lkX10_28 rfl rfl h (fun x13 h => ?_)
        refine V.getI dX10_state_100 lkX10_123 rfl rfl h (fun x14 h => ?_)
        refine V.iload_n (n := 1) dX10_state_103 rfl rfl ?_
        refine V.iushr dX10_state_104 rfl ?_
        refine V.iconst (x := 1) dX10_state_105 (by decide) rfl ?_
        refine V.iand dX10_state_106 rfl ?_
        exact V.iret dX10_state_107 rfl h
      refine V.cs (c := 4) (fun hx => ?_) (fun n4 => ?_)
      · refine V.swt hx ?_
        refine V.tableIn (q := 108) (x := 4) (off := 83) dX10_state_25 (by decide) (by decide) (by decide) (by decide) ?_
        exact V.sub [2, 4, 1] rfl (lab_X10_state_108 h)
      refine V.cs (c := 5) (fun hx => ?_) (fun n5 => ?_)
      · refine V.swt hx ?_
        refine V.tableIn (q := 108) (x := 5) (off := 83) dX10_state_25 (by decide) (by decide) (by decide) (by decide) ?_
        exact V.sub [2, 4, 1] rfl (lab_X10_state_108 h)
      refine V.cs (c := 6) (fun hx => ?_) (fun n6 => ?_)
      · refine V.swt hx ?_
        refine V.tableIn (q := 108) (x := 6) (off := 83) dX10_state_25 (by decide) (by decide) (by decide) (by decide) ?_
        exact V.sub [2, 4, 1] rfl (lab_X10_state_108 h)
      have e0 := sw_ne n0
      have e1 := sw_ne n1
      have e2 := sw_ne n2
      have e3 := sw_ne n3
      have e4 := sw_ne n4
      have e5 := sw_ne n5
      have e6 := sw_ne n6
      have e7 := sw_ne n7
      have t0 : (0 : Int32).toInt = 0 := by decide
      have t1 : (1 : Int32).toInt = 1 := by decide
      have t2 : (2 : Int32).toInt = 2 := by decide
      have t3 : (3 : Int32).toInt = 3 := by decide
      have t4 : (4 : Int32).toInt = 4 := by decide
      have t5 : (5 : Int32).toInt = 5 := by decide
      have t6 : (6 : Int32).toInt = 6 := by decide
      have t7 : (7 : Int32).toInt = 7 := by decide
      refine V.tableOut (q := 108) dX10_state_25 (by omega) (by decide) ?_
      exact V.sub [2, 4, 1] rfl (lab_X10_state_108 h)
    · refine V.iconst (x := (-1)) dX10_state_11 (by decide) rfl ?_
      exact V.iret dX10_state_12 rfl h
  exact hh
def L_X10_leans (v0 : Option Nat) (v1 : Int32) (v2 : Int32) (M : Mem) : Option (Int32 × Mem) :=
  (L_X10_yearIndex v1.toInt64 M).bind fun w1 =>
  (L_X10_yearIndex v2.toInt64 w1.2).bind fun w2 =>
  if w1.1 = (-1 : Int32) then
  ((bz (0 : Int32)).bind fun _ => some ((0 : Int32), w2.2))
  else
  (if ¬ w2.1 = (-1 : Int32) then
  ((fR w2.2 10 2 v0).bind fun x3 =>
  (fR w2.2 1 0 x3).bind fun x4 =>
  (aR w2.2 25 x4 w1.1).bind fun x5 =>
  if x5 = none then
  ((bz (0 : Int32)).bind fun _ => some ((0 : Int32), w2.2))
  else
  ((fI w2.2 6 1 x5).bind fun x6 =>
  if ¬ (((x6.toUInt32 >>> (w2.1.toUInt32 &&& Int32.toUInt32 31)).toInt32) &&& (1 : Int32)) = (1 : Int32) then
  ((bz (0 : Int32)).bind fun _ => some ((0 : Int32), w2.2))
  else
  ((bz (1 : Int32)).bind fun _ => some ((1 : Int32), w2.2))))
  else
  ((bz (0 : Int32)).bind fun _ => some ((0 : Int32), w2.2)))
set_option maxRecDepth 20000 in
set_option maxHeartbeats 4000000 in
theorem lift_X10_leans {G : Gt} {M M9 : Mem} {x9 : Int32} {v0 : Option Nat} {v1 : Int32} {v2 : Int32} (h : L_X10_leans v0 v1 v2 M = some (x9, M9)) : Mt G mX10_leans 1 [vR v0, vI v1, vI v2] M (some (vI x9)) M9 := by
  unfold L_X10_leans at h
  refine Mt.of (by decide +kernel) (Nat.le_of_ble_eq_true rfl) ?_
  have hh : V G mX10_leans 1 M (some (vI x9)) M9 M 0 [(0, vR v0), (1, vI v1), (2, vI v2)] [] := by
    refine V.iload_n (n := 1) dX10_leans_0 rfl rfl ?_
    refine V.i2l dX10_leans_1 rfl ?_
    refine V.callSi (d' := 0) (as := [vL v1.toInt64]) (st := []) dX10_leans_2 meX10_yearIndex mlX10_71 smX10_yearIndex rfl (by omega) (Nat.le_of_ble_eq_true rfl) rfl rfl h (fun v hv => lift_X10_yearIndex hv) (fun w1 h => ?_)
    refine V.istore_n dX10_leans_5 rfl (by decide) rfl rfl ?_
    refine V.iload_n (n := 3) dX10_leans_6 rfl rfl ?_
    refine V.i2l dX10_leans_7 rfl ?_
    refine V.callSi (d' := 0) (as := [vL v2.toInt64]) (st := []) dX10_leans_8 meX10_yearIndex mlX10_71 smX10_yearIndex rfl (by omega) (Nat.le_of_ble_eq_true rfl) rfl rfl h (fun v hv => lift_X10_yearIndex hv) (fun w2 h => ?_)
    refine V.istore dX10_leans_11 (by decide) rfl rfl ?_
    refine V.iload_n (n := 1) dX10_leans_13 rfl rfl ?_
    refine V.iconst (x := (-1)) dX10_leans_14 (by decide) rfl ?_
    refine V.icmp_eq (q := 24) dX10_leans_15 (by decide) rfl h (fun h => ?_) (fun h => ?_)
    · refine V.iconst (x := 0) dX10_leans_24 (by decide) rfl ?_
      exact V.zret dX10_leans_25 rfl h
    · refine V.iload (n := 0) dX10_leans_18 rfl rfl ?_
      refine V.iconst (x := (-1)) dX10_leans_20 (by decide) rfl ?_
      refine V.icmp_ne (q := 26) dX10_leans_21 (by decide) rfl h (fun h => ?_) (fun h => ?_)
      · refine V.aload_n (n := 2) dX10_leans_26 rfl rfl ?_
        refine V.getR dX10_leans_27 lkX10_28 rfl rfl h (fun x3 h => ?_)
        refine V.getR dX10_leans_30 lkX10_94 rfl rfl h (fun x4 h => ?_)
        refine V.iload_n (n := 1) dX10_leans_33 rfl rfl ?_
        refine V.aald (k := 25) dX10_leans_34 (by decide) (by decide) rfl h (fun x5 h => ?_)
        refine V.astore dX10_leans_35 (by decide) rfl rfl ?_
        refine V.aload (n := 0) dX10_leans_37 rfl rfl ?_
        refine V.ifnull (q := 60) dX10_leans_39 (by decide) rfl h (fun h => ?_) (fun h => ?_)
        · refine V.iconst (x := 0) dX10_leans_60 (by decide) rfl ?_
          exact V.zret dX10_leans_61 rfl h
        · refine V.aload (n := 0) dX10_leans_42 rfl rfl ?_
          refine V.getI dX10_leans_44 lkX10_130 rfl rfl h (fun x6 h => ?_)
          refine V.iload (n := 1) dX10_leans_47 rfl rfl ?_
          refine V.iushr dX10_leans_49 rfl ?_
          refine V.iconst (x := 1) dX10_leans_50 (by decide) rfl ?_
          refine V.iand dX10_leans_51 rfl ?_
          refine V.iconst (x := 1) dX10_leans_52 (by decide) rfl ?_
          refine V.icmp_ne (q := 60) dX10_leans_53 (by decide) rfl h (fun h => ?_) (fun h => ?_)
          · refine V.iconst (x := 0) dX10_leans_60 (by decide) rfl ?_
            exact V.zret dX10_leans_61 rfl h
          · refine V.iconst (x := 1) dX10_leans_56 (by decide) rfl ?_
            refine V.goto (q := 61) dX10_leans_57 (by decide) ?_
            exact V.zret dX10_leans_61 rfl h
      · refine V.iconst (x := 0) dX10_leans_24 (by decide) rfl ?_
        exact V.zret dX10_leans_25 rfl h
  exact hh
def L_X10_constant (v0 : Option Nat) (v1 : Int32) (v2 : Int32) (M : Mem) : Option (Int64 × Mem) :=
  (L_X10_yearIndex v1.toInt64 M).bind fun w1 =>
  if ¬ w1.1 = (-1 : Int32) then
  ((fR w1.2 10 2 v0).bind fun x2 =>
  (fR w1.2 1 1 x2).bind fun x3 =>
  (aR w1.2 26 x3 w1.1).bind fun x4 =>
  (ck w1.2 8 x4).bind fun _ => (L_X8_valueOf x4 v2 w1.2).bind fun w5 =>
  some (w5.1, w5.2))
  else
  (some ((-2000000000000000 : Int64), w1.2))
set_option maxRecDepth 20000 in
set_option maxHeartbeats 4000000 in
theorem lift_X10_constant {G : Gt} {M M9 : Mem} {x9 : Int64} {v0 : Option Nat} {v1 : Int32} {v2 : Int32} (h : L_X10_constant v0 v1 v2 M = some (x9, M9)) : Mt G mX10_constant 1 [vR v0, vI v1, vI v2] M (some (vL x9)) M9 := by
  unfold L_X10_constant at h
  refine Mt.of (by decide +kernel) (Nat.le_of_ble_eq_true rfl) ?_
  have hh : V G mX10_constant 1 M (some (vL x9)) M9 M 0 [(0, vR v0), (1, vI v1), (2, vI v2)] [] := by
    refine V.iload_n (n := 1) dX10_constant_0 rfl rfl ?_
    refine V.i2l dX10_constant_1 rfl ?_
    refine V.callSi (d' := 0) (as := [vL v1.toInt64]) (st := []) dX10_constant_2 meX10_yearIndex mlX10_71 smX10_yearIndex rfl (by omega) (Nat.le_of_ble_eq_true rfl) rfl rfl h (fun v hv => lift_X10_yearIndex hv) (fun w1 h => ?_)
    refine V.istore_n dX10_constant_5 rfl (by decide) rfl rfl ?_
    refine V.iload_n (n := 0) dX10_constant_6 rfl rfl ?_
    refine V.iconst (x := (-1)) dX10_constant_7 (by decide) rfl ?_
    refine V.icmp_ne (q := 15) dX10_constant_8 (by decide) rfl h (fun h => ?_) (fun h => ?_)
    · refine V.aload_n (n := 1) dX10_constant_15 rfl rfl ?_
      refine V.getR dX10_constant_16 lkX10_28 rfl rfl h (fun x2 h => ?_)
      refine V.getR dX10_constant_19 lkX10_105 rfl rfl h (fun x3 h => ?_)
      refine V.iload_n (n := 0) dX10_constant_22 rfl rfl ?_
      refine V.aald (k := 26) dX10_constant_23 (by decide) (by decide) rfl h (fun x4 h => ?_)
      refine V.iload_n (n := 3) dX10_constant_24 rfl rfl ?_
      refine V.callVl (d' := 0) (as := [vI v2]) (st := []) dX10_constant_25 meX8_valueOf mlX10_135 imX8_valueOf seX8_valueOf clsX8 rfl (by omega) (Nat.le_of_ble_eq_true rfl) rfl rfl h (fun v hv => lift_X8_valueOf hv) (fun w5 h => ?_)
      exact V.lret dX10_constant_28 rfl h
    · refine V.ldc2 (x := (-2000000000000000)) dX10_constant_11 clX10_133 rfl ?_
      exact V.lret dX10_constant_14 rfl h
  exact hh
def L_X10_entry (v0 : Option Nat) (v1 : Int32) (v2 : Int32) (v3 : Int32) (M : Mem) : Option (Int64 × Mem) :=
  (L_X10_yearIndex v1.toInt64 M).bind fun w1 =>
  if w1.1 = (-1 : Int32) then
  (some ((-2000000000000000 : Int64), w1.2))
  else
  ((fR w1.2 10 2 v0).bind fun x2 =>
  (fR w1.2 1 1 x2).bind fun x3 =>
  (aR w1.2 26 x3 w1.1).bind fun x4 =>
  (ck w1.2 8 x4).bind fun _ => (L_X8_hasEntry x4 v2 v3.toInt64 w1.2).bind fun w5 =>
  if ¬ w5.1 = 0 then
  ((fR w5.2 10 2 v0).bind fun x6 =>
  (fR w5.2 1 1 x6).bind fun x7 =>
  (aR w5.2 26 x7 w1.1).bind fun x8 =>
  (fR w5.2 8 7 x8).bind fun x9 =>
  (aL w5.2 21 x9 ((v2 * (12 : Int32)) + v3)).bind fun x10 =>
  some (x10, w5.2))
  else
  (some ((-2000000000000000 : Int64), w5.2)))
set_option maxRecDepth 20000 in
set_option maxHeartbeats 4000000 in
theorem lift_X10_entry {G : Gt} {M M9 : Mem} {x9 : Int64} {v0 : Option Nat} {v1 : Int32} {v2 : Int32} {v3 : Int32} (h : L_X10_entry v0 v1 v2 v3 M = some (x9, M9)) : Mt G mX10_entry 1 [vR v0, vI v1, vI v2, vI v3] M (some (vL x9)) M9 := by
  unfold L_X10_entry at h
  refine Mt.of (by decide +kernel) (Nat.le_of_ble_eq_true rfl) ?_
  have hh : V G mX10_entry 1 M (some (vL x9)) M9 M 0 [(0, vR v0), (1, vI v1), (2, vI v2), (3, vI v3)] [] := by
    refine V.iload_n (n := 1) dX10_entry_0 rfl rfl ?_
    refine V.i2l dX10_entry_1 rfl ?_
    refine V.callSi (d' := 0) (as := [vL v1.toInt64]) (st := []) dX10_entry_2 meX10_yearIndex mlX10_71 smX10_yearIndex rfl (by omega) (Nat.le_of_ble_eq_true rfl) rfl rfl h (fun v hv => lift_X10_yearIndex hv) (fun w1 h => ?_)
    refine V.istore dX10_entry_5 (by decide) rfl rfl ?_
    refine V.iload (n := 0) dX10_entry_7 rfl rfl ?_
    refine V.iconst (x := (-1)) dX10_entry_9 (by decide) rfl ?_
    refine V.icmp_eq (q := 32) dX10_entry_10 (by decide) rfl h (fun h => ?_) (fun h => ?_)
    · refine V.ldc2 (x := (-2000000000000000)) dX10_entry_32 clX10_133 rfl ?_
      exact V.lret dX10_entry_35 rfl h
    · refine V.aload_n (n := 1) dX10_entry_13 rfl rfl ?_
      refine V.getR dX10_entry_14 lkX10_28 rfl rfl h (fun x2 h => ?_)
      refine V.getR dX10_entry_17 lkX10_105 rfl rfl h (fun x3 h => ?_)
      refine V.iload (n := 0) dX10_entry_20 rfl rfl ?_
      refine V.aald (k := 26) dX10_entry_22 (by decide) (by decide) rfl h (fun x4 h => ?_)
      refine V.iload_n (n := 3) dX10_entry_23 rfl rfl ?_
      refine V.iload_n (n := 4) dX10_entry_24 rfl rfl ?_
      refine V.i2l dX10_entry_25 rfl ?_
      refine V.callVi (d' := 0) (as := [vI v2, vL v3.toInt64]) (st := []) dX10_entry_26 meX8_hasEntry mlX10_139 imX8_hasEntry seX8_hasEntry clsX8 rfl (by omega) (Nat.le_of_ble_eq_true rfl) rfl rfl h (fun v hv => lift_X8_hasEntry hv) (fun w5 h => ?_)
      refine V.if_ne (q := 36) dX10_entry_29 (by decide) rfl h (fun h => ?_) (fun h => ?_)
      · refine V.aload_n (n := 1) dX10_entry_36 rfl rfl ?_
        refine V.getR dX10_entry_37 lkX10_28 rfl rfl h (fun x6 h => ?_)
        refine V.getR dX10_entry_40 lkX10_105 rfl rfl h (fun x7 h => ?_)
        refine V.iload (n := 0) dX10_entry_43 rfl rfl ?_
        refine V.aald (k := 26) dX10_entry_45 (by decide) (by decide) rfl h (fun x8 h => ?_)
        refine V.getR dX10_entry_46 lkX10_143 rfl rfl h (fun x9 h => ?_)
        refine V.iload_n (n := 3) dX10_entry_49 rfl rfl ?_
        refine V.bipush (x := 12) dX10_entry_50 (by decide) rfl ?_
        refine V.imul dX10_entry_52 rfl ?_
        refine V.iload_n (n := 4) dX10_entry_53 rfl rfl ?_
        refine V.iadd dX10_entry_54 rfl ?_
        refine V.lald dX10_entry_55 rfl h (fun x10 h => ?_)
        exact V.lret dX10_entry_56 rfl h
      · refine V.ldc2 (x := (-2000000000000000)) dX10_entry_32 clX10_133 rfl ?_
        exact V.lret dX10_entry_35 rfl h
  exact hh
def L_X10_need (v0 : Option Nat) (v1 : Int32) (M : Mem) : Option (Int32 × Mem) :=
  (L_X10_yearIndex v1.toInt64 M).bind fun w1 =>
  if ¬ w1.1 = (-1 : Int32) then
  ((fR w1.2 10 4 v0).bind fun x2 =>
  (ck w1.2 3 x2).bind fun _ => (L_X3_summon x2 w1.1 w1.2).bind fun w3 =>
  some (w3.1, w3.2))
  else
  (some ((-1 : Int32), w1.2))
set_option maxRecDepth 20000 in
set_option maxHeartbeats 4000000 in
theorem lift_X10_need {G : Gt} {M M9 : Mem} {x9 : Int32} {v0 : Option Nat} {v1 : Int32} (h : L_X10_need v0 v1 M = some (x9, M9)) : Mt G mX10_need 6 [vR v0, vI v1] M (some (vI x9)) M9 := by
  unfold L_X10_need at h
  refine Mt.of (by decide +kernel) (Nat.le_of_ble_eq_true rfl) ?_
  have hh : V G mX10_need 6 M (some (vI x9)) M9 M 0 [(0, vR v0), (1, vI v1)] [] := by
    refine V.iload_n (n := 1) dX10_need_0 rfl rfl ?_
    refine V.i2l dX10_need_1 rfl ?_
    refine V.callSi (d' := 0) (as := [vL v1.toInt64]) (st := []) dX10_need_2 meX10_yearIndex mlX10_71 smX10_yearIndex rfl (by omega) (Nat.le_of_ble_eq_true rfl) rfl rfl h (fun v hv => lift_X10_yearIndex hv) (fun w1 h => ?_)
    refine V.istore_n dX10_need_5 rfl (by decide) rfl rfl ?_
    refine V.iload_n (n := 0) dX10_need_6 rfl rfl ?_
    refine V.iconst (x := (-1)) dX10_need_7 (by decide) rfl ?_
    refine V.icmp_ne (q := 13) dX10_need_8 (by decide) rfl h (fun h => ?_) (fun h => ?_)
    · refine V.aload_n (n := 1) dX10_need_13 rfl rfl ?_
      refine V.getR dX10_need_14 lkX10_44 rfl rfl h (fun x2 h => ?_)
      refine V.iload_n (n := 0) dX10_need_17 rfl rfl ?_
      refine V.callVi (d' := 5) (as := [vI w1.1]) (st := []) dX10_need_18 meX3_summon mlX10_147 imX3_summon seX3_summon clsX3 rfl (by omega) (Nat.le_of_ble_eq_true rfl) rfl rfl h (fun v hv => lift_X3_summon hv) (fun w3 h => ?_)
      exact V.iret dX10_need_21 rfl h
    · refine V.iconst (x := (-1)) dX10_need_11 (by decide) rfl ?_
      exact V.iret dX10_need_12 rfl h
  exact hh
def L_X10_started (v0 : Option Nat) (v1 : Int32) (M : Mem) : Option (Int32 × Mem) :=
  if v1 < 0 then
  (some ((-1 : Int32), M))
  else
  (if (300 : Int32) ≤ v1 then
  (some ((-1 : Int32), M))
  else
  ((fR M 10 4 v0).bind fun x1 =>
  (fI M 3 8 x1).bind fun x2 =>
  if v1 < x2 then
  ((fR M 10 4 v0).bind fun x3 =>
  (fR M 3 7 x3).bind fun x4 =>
  (aI M 20 x4 v1).bind fun x5 =>
  some ((1700 : Int32) + x5, M))
  else
  (some ((-1 : Int32), M))))
set_option maxRecDepth 20000 in
set_option maxHeartbeats 4000000 in
theorem lift_X10_started {G : Gt} {M M9 : Mem} {x9 : Int32} {v0 : Option Nat} {v1 : Int32} (h : L_X10_started v0 v1 M = some (x9, M9)) : Mt G mX10_started 0 [vR v0, vI v1] M (some (vI x9)) M9 := by
  unfold L_X10_started at h
  refine Mt.of (by decide +kernel) (Nat.le_of_ble_eq_true rfl) ?_
  have hh : V G mX10_started 0 M (some (vI x9)) M9 M 0 [(0, vR v0), (1, vI v1)] [] := by
    refine V.iload_n (n := 1) dX10_started_0 rfl rfl ?_
    refine V.if_lt (q := 22) dX10_started_1 (by decide) rfl h (fun h => ?_) (fun h => ?_)
    · refine V.iconst (x := (-1)) dX10_started_22 (by decide) rfl ?_
      exact V.iret dX10_started_23 rfl h
    · refine V.iload_n (n := 1) dX10_started_4 rfl rfl ?_
      refine V.sipush (x := 300) dX10_started_5 (by decide) rfl ?_
      refine V.icmp_ge (q := 22) dX10_started_8 (by decide) rfl h (fun h => ?_) (fun h => ?_)
      · refine V.iconst (x := (-1)) dX10_started_22 (by decide) rfl ?_
        exact V.iret dX10_started_23 rfl h
      · refine V.iload_n (n := 1) dX10_started_11 rfl rfl ?_
        refine V.aload_n (n := 0) dX10_started_12 rfl rfl ?_
        refine V.getR dX10_started_13 lkX10_44 rfl rfl h (fun x1 h => ?_)
        refine V.getI dX10_started_16 lkX10_151 rfl rfl h (fun x2 h => ?_)
        refine V.icmp_lt (q := 24) dX10_started_19 (by decide) rfl h (fun h => ?_) (fun h => ?_)
        · refine V.sipush (x := 1700) dX10_started_24 (by decide) rfl ?_
          refine V.aload_n (n := 0) dX10_started_27 rfl rfl ?_
          refine V.getR dX10_started_28 lkX10_44 rfl rfl h (fun x3 h => ?_)
          refine V.getR dX10_started_31 lkX10_154 rfl rfl h (fun x4 h => ?_)
          refine V.iload_n (n := 1) dX10_started_34 rfl rfl ?_
          refine V.iald dX10_started_35 rfl h (fun x5 h => ?_)
          refine V.iadd dX10_started_36 rfl ?_
          exact V.iret dX10_started_37 rfl h
        · refine V.iconst (x := (-1)) dX10_started_22 (by decide) rfl ?_
          exact V.iret dX10_started_23 rfl h
  exact hh
def J_X10_voyage_25 (v0 : Option Nat) (v1 : Int32) (v2 : Int32) (s0 : Int32) (M : Mem) : Option (Int32 × Mem) :=
  if s0 = 0 then
  (some ((-1 : Int32), M))
  else
  ((fI M 10 6 v0).bind fun x1 =>
  if x1 < (20 : Int32) then
  ((fR M 10 5 v0).bind fun x2 =>
  (fI M 10 6 v0).bind fun x3 =>
  (L_X9_init (some (nc M)) v1 v2 (nw M 9 0 9)).bind fun w4 =>
  (uR w4.2 28 x2 x3 (some (nc M))).bind fun M5 =>
  (fI M5 10 6 v0).bind fun x6 =>
  (pI M5 10 6 v0 (x6 + (1 : Int32))).bind fun M7 =>
  (fI M7 10 6 v0).bind fun x8 =>
  some (x8 - (1 : Int32), M7))
  else
  (some ((-1 : Int32), M)))
set_option maxRecDepth 20000 in
set_option maxHeartbeats 4000000 in
theorem lab_X10_voyage_25 {G : Gt} {M0 M9 : Mem} {x9 : Int32} {v0 : Option Nat} {v1 : Int32} {v2 : Int32} {s0 : Int32} {M : Mem} (h : J_X10_voyage_25 v0 v1 v2 s0 M = some (x9, M9)) : V G mX10_voyage 2 M0 (some (vI x9)) M9 M 25 [(0, vR v0), (1, vI v1), (2, vI v2)] [vI s0] := by
  unfold J_X10_voyage_25 at h
  refine V.istore_n dX10_voyage_25 rfl (by decide) rfl rfl ?_
  refine V.iload_n (n := 0) dX10_voyage_26 rfl rfl ?_
  refine V.if_eq (q := 39) dX10_voyage_27 (by decide) rfl h (fun h => ?_) (fun h => ?_)
  · refine V.iconst (x := (-1)) dX10_voyage_39 (by decide) rfl ?_
    exact V.iret dX10_voyage_40 rfl h
  · refine V.aload_n (n := 1) dX10_voyage_30 rfl rfl ?_
    refine V.getI dX10_voyage_31 lkX10_54 rfl rfl h (fun x1 h => ?_)
    refine V.bipush (x := 20) dX10_voyage_34 (by decide) rfl ?_
    refine V.icmp_lt (q := 41) dX10_voyage_36 (by decide) rfl h (fun h => ?_) (fun h => ?_)
    · refine V.aload_n (n := 1) dX10_voyage_41 rfl rfl ?_
      refine V.getR dX10_voyage_42 lkX10_50 rfl rfl h (fun x2 h => ?_)
      refine V.aload_n (n := 1) dX10_voyage_45 rfl rfl ?_
      refine V.getI dX10_voyage_46 lkX10_54 rfl rfl h (fun x3 h => ?_)
      refine V.new dX10_voyage_49 clsX9 cdX10_48 inX9 iiX9 rfl ?_
      refine V.dup dX10_voyage_52 rfl rfl ?_
      refine V.iload_n (n := 2) dX10_voyage_53 rfl rfl ?_
      refine V.iload_n (n := 3) dX10_voyage_54 rfl rfl ?_
      refine V.callI (d' := 1) (a := (nc M)) (as := [vI v1, vI v2]) (st := [vR (some (nc M)), vI x3, vR x2]) dX10_voyage_55 meX9_init rfl rfl mlX10_159 imX9_init rfl (by omega) (Nat.le_of_ble_eq_true rfl) rfl rfl h (fun v hv => lift_X9_init hv) (fun w4 h => ?_)
      refine V.aast (k := 28) dX10_voyage_58 clsX9 rfl (by decide) (by decide) rfl h (fun M5 h => ?_)
      refine V.aload_n (n := 1) dX10_voyage_59 rfl rfl ?_
      refine V.dup dX10_voyage_60 rfl rfl ?_
      refine V.getI dX10_voyage_61 lkX10_54 rfl rfl h (fun x6 h => ?_)
      refine V.iconst (x := 1) dX10_voyage_64 (by decide) rfl ?_
      refine V.iadd dX10_voyage_65 rfl ?_
      refine V.putI dX10_voyage_66 lkX10_54 (Or.inl rfl) rfl rfl h (fun M7 h => ?_)
      refine V.aload_n (n := 1) dX10_voyage_69 rfl rfl ?_
      refine V.getI dX10_voyage_70 lkX10_54 rfl rfl h (fun x8 h => ?_)
      refine V.iconst (x := 1) dX10_voyage_73 (by decide) rfl ?_
      refine V.isub dX10_voyage_74 rfl ?_
      exact V.iret dX10_voyage_75 rfl h
    · refine V.iconst (x := (-1)) dX10_voyage_39 (by decide) rfl ?_
      exact V.iret dX10_voyage_40 rfl h
def J_X10_voyage_24 (v0 : Option Nat) (v1 : Int32) (v2 : Int32) (M : Mem) : Option (Int32 × Mem) :=
  J_X10_voyage_25 v0 v1 v2 (0 : Int32) M
set_option maxRecDepth 20000 in
set_option maxHeartbeats 4000000 in
theorem lab_X10_voyage_24 {G : Gt} {M0 M9 : Mem} {x9 : Int32} {v0 : Option Nat} {v1 : Int32} {v2 : Int32} {M : Mem} (h : J_X10_voyage_24 v0 v1 v2 M = some (x9, M9)) : V G mX10_voyage 2 M0 (some (vI x9)) M9 M 24 [(0, vR v0), (1, vI v1), (2, vI v2)] [] := by
  unfold J_X10_voyage_24 at h
  refine V.iconst (x := 0) dX10_voyage_24 (by decide) rfl ?_
  exact (lab_X10_voyage_25 h)
def L_X10_voyage (v0 : Option Nat) (v1 : Int32) (v2 : Int32) (M : Mem) : Option (Int32 × Mem) :=
  if v1 < 0 then
  (J_X10_voyage_24 v0 v1 v2 M)
  else
  (if (100000 : Int32) < v1 then
  (J_X10_voyage_24 v0 v1 v2 M)
  else
  (if v2 < 0 then
  (J_X10_voyage_24 v0 v1 v2 M)
  else
  (if (9 : Int32) < v2 then
  (J_X10_voyage_24 v0 v1 v2 M)
  else
  (J_X10_voyage_25 v0 v1 v2 (1 : Int32) M))))
set_option maxRecDepth 20000 in
set_option maxHeartbeats 4000000 in
theorem lift_X10_voyage {G : Gt} {M M9 : Mem} {x9 : Int32} {v0 : Option Nat} {v1 : Int32} {v2 : Int32} (h : L_X10_voyage v0 v1 v2 M = some (x9, M9)) : Mt G mX10_voyage 2 [vR v0, vI v1, vI v2] M (some (vI x9)) M9 := by
  unfold L_X10_voyage at h
  refine Mt.of (by decide +kernel) (Nat.le_of_ble_eq_true rfl) ?_
  have hh : V G mX10_voyage 2 M (some (vI x9)) M9 M 0 [(0, vR v0), (1, vI v1), (2, vI v2)] [] := by
    refine V.iload_n (n := 1) dX10_voyage_0 rfl rfl ?_
    refine V.if_lt (q := 24) dX10_voyage_1 (by decide) rfl h (fun h => ?_) (fun h => ?_)
    · exact (lab_X10_voyage_24 h)
    · refine V.iload_n (n := 1) dX10_voyage_4 rfl rfl ?_
      refine V.ldc (x := (100000)) dX10_voyage_5 ciX10_158 rfl ?_
      refine V.icmp_gt (q := 24) dX10_voyage_7 (by decide) rfl h (fun h => ?_) (fun h => ?_)
      · exact (lab_X10_voyage_24 h)
      · refine V.iload_n (n := 2) dX10_voyage_10 rfl rfl ?_
        refine V.if_lt (q := 24) dX10_voyage_11 (by decide) rfl h (fun h => ?_) (fun h => ?_)
        · exact (lab_X10_voyage_24 h)
        · refine V.iload_n (n := 2) dX10_voyage_14 rfl rfl ?_
          refine V.bipush (x := 9) dX10_voyage_15 (by decide) rfl ?_
          refine V.icmp_gt (q := 24) dX10_voyage_17 (by decide) rfl h (fun h => ?_) (fun h => ?_)
          · exact (lab_X10_voyage_24 h)
          · refine V.iconst (x := 1) dX10_voyage_20 (by decide) rfl ?_
            refine V.goto (q := 25) dX10_voyage_21 (by decide) ?_
            exact (lab_X10_voyage_25 h)
  exact hh
def J_X10_voyageOf_21  (M : Mem) : Option (Option Nat × Mem) :=
  some ((none : Option Nat), M)
set_option maxRecDepth 20000 in
set_option maxHeartbeats 4000000 in
theorem lab_X10_voyageOf_21 {G : Gt} {M0 M9 : Mem} {x9 : Option Nat} {M : Mem} (h : J_X10_voyageOf_21  M = some (x9, M9)) : V G mX10_voyageOf 0 M0 (some (vR x9)) M9 M 21 [] [] := by
  unfold J_X10_voyageOf_21 at h
  refine V.null dX10_voyageOf_21 rfl ?_
  exact V.aret dX10_voyageOf_22 rfl (Or.inl ⟨_, rfl⟩) h
def L_X10_voyageOf (v0 : Option Nat) (v1 : Int32) (M : Mem) : Option (Option Nat × Mem) :=
  if v1 < 0 then
  (J_X10_voyageOf_21  M)
  else
  ((fI M 10 6 v0).bind fun x1 =>
  if x1 ≤ v1 then
  (J_X10_voyageOf_21  M)
  else
  ((fR M 10 5 v0).bind fun x2 =>
  (aR M 28 x2 v1).bind fun x3 =>
  some (x3, M)))
set_option maxRecDepth 20000 in
set_option maxHeartbeats 4000000 in
theorem lift_X10_voyageOf {G : Gt} {M M9 : Mem} {x9 : Option Nat} {v0 : Option Nat} {v1 : Int32} (h : L_X10_voyageOf v0 v1 M = some (x9, M9)) : Mt G mX10_voyageOf 0 [vR v0, vI v1] M (some (vR x9)) M9 := by
  unfold L_X10_voyageOf at h
  refine Mt.of (by decide +kernel) (Nat.le_of_ble_eq_true rfl) ?_
  have hh : V G mX10_voyageOf 0 M (some (vR x9)) M9 M 0 [(0, vR v0), (1, vI v1)] [] := by
    refine V.iload_n (n := 1) dX10_voyageOf_0 rfl rfl ?_
    refine V.if_lt (q := 21) dX10_voyageOf_1 (by decide) rfl h (fun h => ?_) (fun h => ?_)
    · exact V.sub [] rfl (lab_X10_voyageOf_21 h)
    · refine V.iload_n (n := 1) dX10_voyageOf_4 rfl rfl ?_
      refine V.aload_n (n := 0) dX10_voyageOf_5 rfl rfl ?_
      refine V.getI dX10_voyageOf_6 lkX10_54 rfl rfl h (fun x1 h => ?_)
      refine V.icmp_ge (q := 21) dX10_voyageOf_9 (by decide) rfl h (fun h => ?_) (fun h => ?_)
      · exact V.sub [] rfl (lab_X10_voyageOf_21 h)
      · refine V.aload_n (n := 0) dX10_voyageOf_12 rfl rfl ?_
        refine V.getR dX10_voyageOf_13 lkX10_50 rfl rfl h (fun x2 h => ?_)
        refine V.iload_n (n := 1) dX10_voyageOf_16 rfl rfl ?_
        refine V.aald (k := 28) dX10_voyageOf_17 (by decide) (by decide) rfl h (fun x3 h => ?_)
        refine V.goto (q := 22) dX10_voyageOf_18 (by decide) ?_
        exact V.aret dX10_voyageOf_22 rfl (Or.inl ⟨_, rfl⟩) h
  exact hh
def J_X10_lock_49 (v2 : Int32) (v4 : Int32) (v5 : Option Nat) (v6 : Int32) (s0 : Int32) (M : Mem) : Option (Int32 × Mem) :=
  if v5 = none then
  (some ((-1 : Int32), M))
  else
  (if s0 = 0 then
  (some ((-1 : Int32), M))
  else
  ((fI M 9 2 v5).bind fun x1 =>
  if x1 < (8 : Int32) then
  ((ck M 9 v5).bind fun _ => (L_X9_addLock v5 v2 v6 v4 M).bind fun w2 =>
  (fI w2.2 9 2 v5).bind fun x3 =>
  some (x3, w2.2))
  else
  (some ((-1 : Int32), M))))
set_option maxRecDepth 20000 in
set_option maxHeartbeats 4000000 in
theorem lab_X10_lock_49 {G : Gt} {M0 M9 : Mem} {x9 : Int32} {v2 : Int32} {v4 : Int32} {v5 : Option Nat} {v6 : Int32} {s0 : Int32} {M : Mem} (h : J_X10_lock_49 v2 v4 v5 v6 s0 M = some (x9, M9)) : V G mX10_lock 1 M0 (some (vI x9)) M9 M 49 [(2, vI v2), (4, vI v4), (5, vR v5), (6, vI v6)] [vI s0] := by
  unfold J_X10_lock_49 at h
  refine V.istore dX10_lock_49 (by decide) rfl rfl ?_
  refine V.aload (n := 3) dX10_lock_51 rfl rfl ?_
  refine V.ifnull (q := 71) dX10_lock_53 (by decide) rfl h (fun h => ?_) (fun h => ?_)
  · refine V.iconst (x := (-1)) dX10_lock_71 (by decide) rfl ?_
    exact V.iret dX10_lock_72 rfl h
  · refine V.iload (n := 0) dX10_lock_56 rfl rfl ?_
    refine V.if_eq (q := 71) dX10_lock_58 (by decide) rfl h (fun h => ?_) (fun h => ?_)
    · refine V.iconst (x := (-1)) dX10_lock_71 (by decide) rfl ?_
      exact V.iret dX10_lock_72 rfl h
    · refine V.aload (n := 3) dX10_lock_61 rfl rfl ?_
      refine V.getI dX10_lock_63 lkX10_166 rfl rfl h (fun x1 h => ?_)
      refine V.bipush (x := 8) dX10_lock_66 (by decide) rfl ?_
      refine V.icmp_lt (q := 73) dX10_lock_68 (by decide) rfl h (fun h => ?_) (fun h => ?_)
      · refine V.aload (n := 3) dX10_lock_73 rfl rfl ?_
        refine V.iload_n (n := 1) dX10_lock_75 rfl rfl ?_
        refine V.iload (n := 4) dX10_lock_76 rfl rfl ?_
        refine V.iload (n := 2) dX10_lock_78 rfl rfl ?_
        refine V.callVv (d' := 0) (as := [vI v2, vI v6, vI v4]) (st := []) dX10_lock_80 meX9_addLock mlX10_169 imX9_addLock seX9_addLock clsX9 rfl (by omega) (Nat.le_of_ble_eq_true rfl) rfl rfl h (fun v hv => lift_X9_addLock hv) (fun w2 h => ?_)
        refine V.aload (n := 3) dX10_lock_83 rfl rfl ?_
        refine V.getI dX10_lock_85 lkX10_166 rfl rfl h (fun x3 h => ?_)
        exact V.iret dX10_lock_88 rfl h
      · refine V.iconst (x := (-1)) dX10_lock_71 (by decide) rfl ?_
        exact V.iret dX10_lock_72 rfl h
def J_X10_lock_48 (v2 : Int32) (v4 : Int32) (v5 : Option Nat) (v6 : Int32) (M : Mem) : Option (Int32 × Mem) :=
  J_X10_lock_49 v2 v4 v5 v6 (0 : Int32) M
set_option maxRecDepth 20000 in
set_option maxHeartbeats 4000000 in
theorem lab_X10_lock_48 {G : Gt} {M0 M9 : Mem} {x9 : Int32} {v2 : Int32} {v4 : Int32} {v5 : Option Nat} {v6 : Int32} {M : Mem} (h : J_X10_lock_48 v2 v4 v5 v6 M = some (x9, M9)) : V G mX10_lock 1 M0 (some (vI x9)) M9 M 48 [(2, vI v2), (4, vI v4), (5, vR v5), (6, vI v6)] [] := by
  unfold J_X10_lock_48 at h
  refine V.iconst (x := 0) dX10_lock_48 (by decide) rfl ?_
  exact (lab_X10_lock_49 h)
def L_X10_lock (v0 : Option Nat) (v1 : Int32) (v2 : Int32) (v3 : Int32) (v4 : Int32) (M : Mem) : Option (Int32 × Mem) :=
  (ck M 10 v0).bind fun _ => (L_X10_voyageOf v0 v1 M).bind fun w4 =>
  (L_X10_yearIndex v3.toInt64 w4.2).bind fun w5 =>
  if v2 < 0 then
  (J_X10_lock_48 v2 v4 w4.1 w5.1 w5.2)
  else
  (if (99 : Int32) < v2 then
  (J_X10_lock_48 v2 v4 w4.1 w5.1 w5.2)
  else
  (if w5.1 = (-1 : Int32) then
  (J_X10_lock_48 v2 v4 w4.1 w5.1 w5.2)
  else
  (if v4 < (1 : Int32) then
  (J_X10_lock_48 v2 v4 w4.1 w5.1 w5.2)
  else
  (if (366 : Int32) < v4 then
  (J_X10_lock_48 v2 v4 w4.1 w5.1 w5.2)
  else
  (J_X10_lock_49 v2 v4 w4.1 w5.1 (1 : Int32) w5.2)))))
set_option maxRecDepth 20000 in
set_option maxHeartbeats 4000000 in
theorem lift_X10_lock {G : Gt} {M M9 : Mem} {x9 : Int32} {v0 : Option Nat} {v1 : Int32} {v2 : Int32} {v3 : Int32} {v4 : Int32} (h : L_X10_lock v0 v1 v2 v3 v4 M = some (x9, M9)) : Mt G mX10_lock 1 [vR v0, vI v1, vI v2, vI v3, vI v4] M (some (vI x9)) M9 := by
  unfold L_X10_lock at h
  refine Mt.of (by decide +kernel) (Nat.le_of_ble_eq_true rfl) ?_
  have hh : V G mX10_lock 1 M (some (vI x9)) M9 M 0 [(0, vR v0), (1, vI v1), (2, vI v2), (3, vI v3), (4, vI v4)] [] := by
    refine V.aload_n (n := 0) dX10_lock_0 rfl rfl ?_
    refine V.iload_n (n := 1) dX10_lock_1 rfl rfl ?_
    refine V.callVr (d' := 0) (as := [vI v1]) (st := []) dX10_lock_2 meX10_voyageOf mlX10_162 imX10_voyageOf seX10_voyageOf clsX10 rfl (by omega) (Nat.le_of_ble_eq_true rfl) rfl rfl h (fun v hv => lift_X10_voyageOf hv) (fun w4 h => ?_)
    refine V.astore dX10_lock_5 (by decide) rfl rfl ?_
    refine V.iload_n (n := 4) dX10_lock_7 rfl rfl ?_
    refine V.i2l dX10_lock_8 rfl ?_
    refine V.callSi (d' := 0) (as := [vL v3.toInt64]) (st := []) dX10_lock_9 meX10_yearIndex mlX10_71 smX10_yearIndex rfl (by omega) (Nat.le_of_ble_eq_true rfl) rfl rfl h (fun v hv => lift_X10_yearIndex hv) (fun w5 h => ?_)
    refine V.istore dX10_lock_12 (by decide) rfl rfl ?_
    refine V.iload_n (n := 4) dX10_lock_14 rfl rfl ?_
    refine V.if_lt (q := 48) dX10_lock_15 (by decide) rfl h (fun h => ?_) (fun h => ?_)
    · exact V.sub [4, 6, 1, 0] rfl (lab_X10_lock_48 h)
    · refine V.iload_n (n := 4) dX10_lock_18 rfl rfl ?_
      refine V.bipush (x := 99) dX10_lock_19 (by decide) rfl ?_
      refine V.icmp_gt (q := 48) dX10_lock_21 (by decide) rfl h (fun h => ?_) (fun h => ?_)
      · exact V.sub [4, 6, 1, 0] rfl (lab_X10_lock_48 h)
      · refine V.iload (n := 0) dX10_lock_24 rfl rfl ?_
        refine V.iconst (x := (-1)) dX10_lock_26 (by decide) rfl ?_
        refine V.icmp_eq (q := 48) dX10_lock_27 (by decide) rfl h (fun h => ?_) (fun h => ?_)
        · exact V.sub [4, 6, 1, 0] rfl (lab_X10_lock_48 h)
        · refine V.iload (n := 6) dX10_lock_30 rfl rfl ?_
          refine V.iconst (x := 1) dX10_lock_32 (by decide) rfl ?_
          refine V.icmp_lt (q := 48) dX10_lock_33 (by decide) rfl h (fun h => ?_) (fun h => ?_)
          · exact V.sub [4, 6, 1, 0] rfl (lab_X10_lock_48 h)
          · refine V.iload (n := 6) dX10_lock_36 rfl rfl ?_
            refine V.sipush (x := 366) dX10_lock_38 (by decide) rfl ?_
            refine V.icmp_gt (q := 48) dX10_lock_41 (by decide) rfl h (fun h => ?_) (fun h => ?_)
            · exact V.sub [4, 6, 1, 0] rfl (lab_X10_lock_48 h)
            · refine V.iconst (x := 1) dX10_lock_44 (by decide) rfl ?_
              refine V.goto (q := 49) dX10_lock_45 (by decide) ?_
              exact V.sub [4, 6, 1, 0] rfl (lab_X10_lock_49 h)
  exact hh
def L_X10_bill (v0 : Option Nat) (v1 : Int32) (M : Mem) : Option (Int32 × Mem) :=
  (ck M 10 v0).bind fun _ => (L_X10_voyageOf v0 v1 M).bind fun w1 =>
  if w1.1 = none then
  (some ((-1 : Int32), w1.2))
  else
  ((fI w1.2 9 2 w1.1).bind fun x2 =>
  if ¬ x2 = 0 then
  ((fR w1.2 10 4 v0).bind fun x3 =>
  (ck w1.2 3 x3).bind fun _ => (L_X3_charge x3 w1.1 w1.2).bind fun w4 =>
  if ¬ w4.1 = 0 then
  ((fI w4.2 10 8 v0).bind fun x5 =>
  (pI w4.2 10 8 v0 (x5 + (1 : Int32))).bind fun M6 =>
  some (w4.1, M6))
  else
  ((fI w4.2 10 7 v0).bind fun x7 =>
  (pI w4.2 10 7 v0 (x7 + (1 : Int32))).bind fun M8 =>
  some (w4.1, M8)))
  else
  (some ((-1 : Int32), w1.2)))
set_option maxRecDepth 20000 in
set_option maxHeartbeats 4000000 in
theorem lift_X10_bill {G : Gt} {M M9 : Mem} {x9 : Int32} {v0 : Option Nat} {v1 : Int32} (h : L_X10_bill v0 v1 M = some (x9, M9)) : Mt G mX10_bill 7 [vR v0, vI v1] M (some (vI x9)) M9 := by
  unfold L_X10_bill at h
  refine Mt.of (by decide +kernel) (Nat.le_of_ble_eq_true rfl) ?_
  have hh : V G mX10_bill 7 M (some (vI x9)) M9 M 0 [(0, vR v0), (1, vI v1)] [] := by
    refine V.aload_n (n := 0) dX10_bill_0 rfl rfl ?_
    refine V.iload_n (n := 1) dX10_bill_1 rfl rfl ?_
    refine V.callVr (d' := 0) (as := [vI v1]) (st := []) dX10_bill_2 meX10_voyageOf mlX10_162 imX10_voyageOf seX10_voyageOf clsX10 rfl (by omega) (Nat.le_of_ble_eq_true rfl) rfl rfl h (fun v hv => lift_X10_voyageOf hv) (fun w1 h => ?_)
    refine V.astore_n dX10_bill_5 rfl (by decide) rfl rfl ?_
    refine V.aload_n (n := 0) dX10_bill_6 rfl rfl ?_
    refine V.ifnull (q := 17) dX10_bill_7 (by decide) rfl h (fun h => ?_) (fun h => ?_)
    · refine V.iconst (x := (-1)) dX10_bill_17 (by decide) rfl ?_
      exact V.iret dX10_bill_18 rfl h
    · refine V.aload_n (n := 0) dX10_bill_10 rfl rfl ?_
      refine V.getI dX10_bill_11 lkX10_166 rfl rfl h (fun x2 h => ?_)
      refine V.if_ne (q := 19) dX10_bill_14 (by decide) rfl h (fun h => ?_) (fun h => ?_)
      · refine V.aload_n (n := 1) dX10_bill_19 rfl rfl ?_
        refine V.getR dX10_bill_20 lkX10_44 rfl rfl h (fun x3 h => ?_)
        refine V.aload_n (n := 0) dX10_bill_23 rfl rfl ?_
        refine V.callVi (d' := 6) (as := [vR w1.1]) (st := []) dX10_bill_24 meX3_charge mlX10_173 imX3_charge seX3_charge clsX3 rfl (by omega) (Nat.le_of_ble_eq_true rfl) rfl rfl h (fun v hv => lift_X3_charge hv) (fun w4 h => ?_)
        refine V.istore_n dX10_bill_27 rfl (by decide) rfl rfl ?_
        refine V.iload_n (n := 0) dX10_bill_28 rfl rfl ?_
        refine V.if_ne (q := 45) dX10_bill_29 (by decide) rfl h (fun h => ?_) (fun h => ?_)
        · refine V.aload_n (n := 2) dX10_bill_45 rfl rfl ?_
          refine V.dup dX10_bill_46 rfl rfl ?_
          refine V.getI dX10_bill_47 lkX10_61 rfl rfl h (fun x5 h => ?_)
          refine V.iconst (x := 1) dX10_bill_50 (by decide) rfl ?_
          refine V.iadd dX10_bill_51 rfl ?_
          refine V.putI dX10_bill_52 lkX10_61 (Or.inl rfl) rfl rfl h (fun M6 h => ?_)
          refine V.iload_n (n := 0) dX10_bill_55 rfl rfl ?_
          exact V.iret dX10_bill_56 rfl h
        · refine V.aload_n (n := 2) dX10_bill_32 rfl rfl ?_
          refine V.dup dX10_bill_33 rfl rfl ?_
          refine V.getI dX10_bill_34 lkX10_58 rfl rfl h (fun x7 h => ?_)
          refine V.iconst (x := 1) dX10_bill_37 (by decide) rfl ?_
          refine V.iadd dX10_bill_38 rfl ?_
          refine V.putI dX10_bill_39 lkX10_58 (Or.inl rfl) rfl rfl h (fun M8 h => ?_)
          refine V.goto (q := 55) dX10_bill_42 (by decide) ?_
          refine V.iload_n (n := 0) dX10_bill_55 rfl rfl ?_
          exact V.iret dX10_bill_56 rfl h
      · refine V.iconst (x := (-1)) dX10_bill_17 (by decide) rfl ?_
        exact V.iret dX10_bill_18 rfl h
  exact hh
def L_X10_line (v0 : Option Nat) (v1 : Int32) (v2 : Int32) (M : Mem) : Option (Int64 × Mem) :=
  (ck M 10 v0).bind fun _ => (L_X10_voyageOf v0 v1 M).bind fun w1 =>
  if w1.1 = none then
  (some ((-2000000000000000 : Int64), w1.2))
  else
  (if v2 < 0 then
  (some ((-2000000000000000 : Int64), w1.2))
  else
  ((fI w1.2 9 8 w1.1).bind fun x2 =>
  if x2 < v2 then
  (some ((-2000000000000000 : Int64), w1.2))
  else
  ((fI w1.2 9 8 w1.1).bind fun x3 =>
  if ¬ x3 = 0 then
  (if ¬ v2 = 0 then
  ((fR w1.2 9 6 w1.1).bind fun x4 =>
  (aL w1.2 21 x4 (v2 - (1 : Int32))).bind fun x5 =>
  some (x5, w1.2))
  else
  ((fL w1.2 9 7 w1.1).bind fun x6 =>
  some (x6, w1.2)))
  else
  (some ((-2000000000000000 : Int64), w1.2)))))
set_option maxRecDepth 20000 in
set_option maxHeartbeats 4000000 in
theorem lift_X10_line {G : Gt} {M M9 : Mem} {x9 : Int64} {v0 : Option Nat} {v1 : Int32} {v2 : Int32} (h : L_X10_line v0 v1 v2 M = some (x9, M9)) : Mt G mX10_line 1 [vR v0, vI v1, vI v2] M (some (vL x9)) M9 := by
  unfold L_X10_line at h
  refine Mt.of (by decide +kernel) (Nat.le_of_ble_eq_true rfl) ?_
  have hh : V G mX10_line 1 M (some (vL x9)) M9 M 0 [(0, vR v0), (1, vI v1), (2, vI v2)] [] := by
    refine V.aload_n (n := 0) dX10_line_0 rfl rfl ?_
    refine V.iload_n (n := 1) dX10_line_1 rfl rfl ?_
    refine V.callVr (d' := 0) (as := [vI v1]) (st := []) dX10_line_2 meX10_voyageOf mlX10_162 imX10_voyageOf seX10_voyageOf clsX10 rfl (by omega) (Nat.le_of_ble_eq_true rfl) rfl rfl h (fun v hv => lift_X10_voyageOf hv) (fun w1 h => ?_)
    refine V.astore_n dX10_line_5 rfl (by decide) rfl rfl ?_
    refine V.aload_n (n := 0) dX10_line_6 rfl rfl ?_
    refine V.ifnull (q := 29) dX10_line_7 (by decide) rfl h (fun h => ?_) (fun h => ?_)
    · refine V.ldc2 (x := (-2000000000000000)) dX10_line_29 clX10_133 rfl ?_
      exact V.lret dX10_line_32 rfl h
    · refine V.iload_n (n := 3) dX10_line_10 rfl rfl ?_
      refine V.if_lt (q := 29) dX10_line_11 (by decide) rfl h (fun h => ?_) (fun h => ?_)
      · refine V.ldc2 (x := (-2000000000000000)) dX10_line_29 clX10_133 rfl ?_
        exact V.lret dX10_line_32 rfl h
      · refine V.iload_n (n := 3) dX10_line_14 rfl rfl ?_
        refine V.aload_n (n := 0) dX10_line_15 rfl rfl ?_
        refine V.getI dX10_line_16 lkX10_177 rfl rfl h (fun x2 h => ?_)
        refine V.icmp_gt (q := 29) dX10_line_19 (by decide) rfl h (fun h => ?_) (fun h => ?_)
        · refine V.ldc2 (x := (-2000000000000000)) dX10_line_29 clX10_133 rfl ?_
          exact V.lret dX10_line_32 rfl h
        · refine V.aload_n (n := 0) dX10_line_22 rfl rfl ?_
          refine V.getI dX10_line_23 lkX10_177 rfl rfl h (fun x3 h => ?_)
          refine V.if_ne (q := 33) dX10_line_26 (by decide) rfl h (fun h => ?_) (fun h => ?_)
          · refine V.iload_n (n := 3) dX10_line_33 rfl rfl ?_
            refine V.if_ne (q := 44) dX10_line_34 (by decide) rfl h (fun h => ?_) (fun h => ?_)
            · refine V.aload_n (n := 0) dX10_line_44 rfl rfl ?_
              refine V.getR dX10_line_45 lkX10_184 rfl rfl h (fun x4 h => ?_)
              refine V.iload_n (n := 3) dX10_line_48 rfl rfl ?_
              refine V.iconst (x := 1) dX10_line_49 (by decide) rfl ?_
              refine V.isub dX10_line_50 rfl ?_
              refine V.lald dX10_line_51 rfl h (fun x5 h => ?_)
              exact V.lret dX10_line_52 rfl h
            · refine V.aload_n (n := 0) dX10_line_37 rfl rfl ?_
              refine V.getL dX10_line_38 lkX10_180 rfl rfl h (fun x6 h => ?_)
              refine V.goto (q := 52) dX10_line_41 (by decide) ?_
              exact V.lret dX10_line_52 rfl h
          · refine V.ldc2 (x := (-2000000000000000)) dX10_line_29 clX10_133 rfl ?_
            exact V.lret dX10_line_32 rfl h
  exact hh
def L_X10_count (v0 : Option Nat) (v1 : Int32) (M : Mem) : Option (Int32 × Mem) :=
  if v1 = 0 then
  ((fR M 10 2 v0).bind fun x1 =>
  (fI M 1 3 x1).bind fun x2 =>
  some (x2, M))
  else
  if v1 = 1 then
  ((fR M 10 4 v0).bind fun x3 =>
  (fI M 3 8 x3).bind fun x4 =>
  some (x4, M))
  else
  if v1 = 2 then
  ((fI M 10 7 v0).bind fun x5 =>
  some (x5, M))
  else
  if v1 = 3 then
  ((fI M 10 8 v0).bind fun x6 =>
  some (x6, M))
  else
  if v1 = 4 then
  ((fI M 10 6 v0).bind fun x7 =>
  some (x7, M))
  else
  (some ((-1 : Int32), M))
set_option maxRecDepth 20000 in
set_option maxHeartbeats 4000000 in
theorem lift_X10_count {G : Gt} {M M9 : Mem} {x9 : Int32} {v0 : Option Nat} {v1 : Int32} (h : L_X10_count v0 v1 M = some (x9, M9)) : Mt G mX10_count 0 [vR v0, vI v1] M (some (vI x9)) M9 := by
  unfold L_X10_count at h
  refine Mt.of (by decide +kernel) (Nat.le_of_ble_eq_true rfl) ?_
  have hh : V G mX10_count 0 M (some (vI x9)) M9 M 0 [(0, vR v0), (1, vI v1)] [] := by
    refine V.iload_n (n := 1) dX10_count_0 rfl rfl ?_
    refine V.sw h (fun hx h => ?_) (fun n0 h => ?_)
    · refine V.swt hx ?_
      refine V.tableIn (q := 36) (x := 0) (off := 35) dX10_count_1 (by decide) (by decide) (by decide) (by decide) ?_
      refine V.aload_n (n := 0) dX10_count_36 rfl rfl ?_
      refine V.getR dX10_count_37 lkX10_28 rfl rfl h (fun x1 h => ?_)
      refine V.getI dX10_count_40 lkX10_187 rfl rfl h (fun x2 h => ?_)
      exact V.iret dX10_count_43 rfl h
    refine V.sw h (fun hx h => ?_) (fun n1 h => ?_)
    · refine V.swt hx ?_
      refine V.tableIn (q := 44) (x := 1) (off := 43) dX10_count_1 (by decide) (by decide) (by decide) (by decide) ?_
      refine V.aload_n (n := 0) dX10_count_44 rfl rfl ?_
      refine V.getR dX10_count_45 lkX10_44 rfl rfl h (fun x3 h => ?_)
      refine V.getI dX10_count_48 lkX10_151 rfl rfl h (fun x4 h => ?_)
      exact V.iret dX10_count_51 rfl h
    refine V.sw h (fun hx h => ?_) (fun n2 h => ?_)
    · refine V.swt hx ?_
      refine V.tableIn (q := 52) (x := 2) (off := 51) dX10_count_1 (by decide) (by decide) (by decide) (by decide) ?_
      refine V.aload_n (n := 0) dX10_count_52 rfl rfl ?_
      refine V.getI dX10_count_53 lkX10_58 rfl rfl h (fun x5 h => ?_)
      exact V.iret dX10_count_56 rfl h
    refine V.sw h (fun hx h => ?_) (fun n3 h => ?_)
    · refine V.swt hx ?_
      refine V.tableIn (q := 57) (x := 3) (off := 56) dX10_count_1 (by decide) (by decide) (by decide) (by decide) ?_
      refine V.aload_n (n := 0) dX10_count_57 rfl rfl ?_
      refine V.getI dX10_count_58 lkX10_61 rfl rfl h (fun x6 h => ?_)
      exact V.iret dX10_count_61 rfl h
    refine V.sw h (fun hx h => ?_) (fun n4 h => ?_)
    · refine V.swt hx ?_
      refine V.tableIn (q := 62) (x := 4) (off := 61) dX10_count_1 (by decide) (by decide) (by decide) (by decide) ?_
      refine V.aload_n (n := 0) dX10_count_62 rfl rfl ?_
      refine V.getI dX10_count_63 lkX10_54 rfl rfl h (fun x7 h => ?_)
      exact V.iret dX10_count_66 rfl h
    have e0 := sw_ne n0
    have e1 := sw_ne n1
    have e2 := sw_ne n2
    have e3 := sw_ne n3
    have e4 := sw_ne n4
    have t0 : (0 : Int32).toInt = 0 := by decide
    have t1 : (1 : Int32).toInt = 1 := by decide
    have t2 : (2 : Int32).toInt = 2 := by decide
    have t3 : (3 : Int32).toInt = 3 := by decide
    have t4 : (4 : Int32).toInt = 4 := by decide
    refine V.tableOut (q := 67) dX10_count_1 (by omega) (by decide) ?_
    refine V.iconst (x := (-1)) dX10_count_67 (by decide) rfl ?_
    exact V.iret dX10_count_68 rfl h
  exact hh
