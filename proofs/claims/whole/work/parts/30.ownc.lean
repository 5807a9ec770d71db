def L_X4_takeNewName (v0 : Option Nat) (M : Mem) : Option (Int64 × Mem) :=
  (ck M 4 v0).bind fun _ => (L_X4_place v0 M).bind fun w1 =>
  (ck w1.2 4 v0).bind fun _ => (L_X4_content v0 w1.2).bind fun w2 =>
  (ck w2.2 4 v0).bind fun _ => (L_X4_take v0 (2 : Int32) w2.2).bind fun w3 =>
  if w3.1 = 0 then
  (some (w2.1, w3.2))
  else
  ((fR w3.2 4 1 v0).bind fun x4 =>
  (ck w3.2 0 x4).bind fun _ => (L_X0_hasName x4 w2.1 w3.2).bind fun w5 =>
  if w5.1 = 0 then
  (some (w2.1, w5.2))
  else
  ((ck w5.2 4 v0).bind fun _ => (L_X4_note v0 (2 : Int32) w1.1 w5.2).bind fun w6 =>
  some (w2.1, w6.2)))
set_option maxRecDepth 20000 in
set_option maxHeartbeats 4000000 in
theorem lift_X4_takeNewName {G : Gt} {M M9 : Mem} {x9 : Int64} {v0 : Option Nat} (h : L_X4_takeNewName v0 M = some (x9, M9)) : Mt G mX4_takeNewName 2 [vR v0] M (some (vL x9)) M9 := by
  unfold L_X4_takeNewName at h
  refine Mt.of (by decide +kernel) (Nat.le_of_ble_eq_true rfl) ?_
  have hh : V G mX4_takeNewName 2 M (some (vL x9)) M9 M 0 [(0, vR v0)] [] := by
    refine V.aload_n (n := 0) dX4_takeNewName_0 rfl rfl ?_
    refine V.callVi (d' := 0) (as := []) (st := []) dX4_takeNewName_1 meX4_place mlX4_96 imX4_place seX4_place clsX4 rfl (by omega) (Nat.le_of_ble_eq_true rfl) rfl rfl h (fun v hv => lift_X4_place hv) (fun w1 h => ?_)
    refine V.istore_n dX4_takeNewName_4 rfl (by decide) rfl rfl ?_
    refine V.aload_n (n := 1) dX4_takeNewName_5 rfl rfl ?_
    refine V.callVl (d' := 0) (as := []) (st := []) dX4_takeNewName_6 meX4_content mlX4_99 imX4_content seX4_content clsX4 rfl (by omega) (Nat.le_of_ble_eq_true rfl) rfl rfl h (fun v hv => lift_X4_content hv) (fun w2 h => ?_)
    refine V.lstore_n dX4_takeNewName_9 rfl (by decide) rfl rfl ?_
    refine V.aload_n (n := 2) dX4_takeNewName_10 rfl rfl ?_
    refine V.iconst (x := 2) dX4_takeNewName_11 (by decide) rfl ?_
    refine V.callVi (d' := 1) (as := [vI (2 : Int32)]) (st := []) dX4_takeNewName_12 meX4_take mlX4_103 imX4_take seX4_take clsX4 rfl (by omega) (Nat.le_of_ble_eq_true rfl) rfl rfl h (fun v hv => lift_X4_take hv) (fun w3 h => ?_)
    refine V.if_eq (q := 35) dX4_takeNewName_15 (by decide) rfl h (fun h => ?_) (fun h => ?_)
    · refine V.lload_n (n := 0) dX4_takeNewName_35 rfl rfl ?_
      exact V.lret dX4_takeNewName_36 rfl h
    · refine V.aload_n (n := 2) dX4_takeNewName_18 rfl rfl ?_
      refine V.getR dX4_takeNewName_19 lkX4_18 rfl rfl h (fun x4 h => ?_)
      refine V.lload_n (n := 0) dX4_takeNewName_22 rfl rfl ?_
      refine V.callVi (d' := 1) (as := [vL w2.1]) (st := []) dX4_takeNewName_23 meX0_hasName mlX4_125 imX0_hasName seX0_hasName clsX0 rfl (by omega) (Nat.le_of_ble_eq_true rfl) rfl rfl h (fun v hv => lift_X0_hasName hv) (fun w5 h => ?_)
      refine V.if_eq (q := 35) dX4_takeNewName_26 (by decide) rfl h (fun h => ?_) (fun h => ?_)
      · refine V.lload_n (n := 0) dX4_takeNewName_35 rfl rfl ?_
        exact V.lret dX4_takeNewName_36 rfl h
      · refine V.aload_n (n := 2) dX4_takeNewName_29 rfl rfl ?_
        refine V.iconst (x := 2) dX4_takeNewName_30 (by decide) rfl ?_
        refine V.iload_n (n := 1) dX4_takeNewName_31 rfl rfl ?_
        refine V.callVv (d' := 0) (as := [vI (2 : Int32), vI w1.1]) (st := []) dX4_takeNewName_32 meX4_note mlX4_118 imX4_note seX4_note clsX4 rfl (by omega) (Nat.le_of_ble_eq_true rfl) rfl rfl h (fun v hv => lift_X4_note hv) (fun w6 h => ?_)
        refine V.lload_n (n := 0) dX4_takeNewName_35 rfl rfl ?_
        exact V.lret dX4_takeNewName_36 rfl h
  exact hh
def L_X4_takeMinus (v0 : Option Nat) (M : Mem) : Option (Int32 × Mem) :=
  (ck M 4 v0).bind fun _ => (L_X4_kind v0 M).bind fun w1 =>
  if w1.1 = (45 : Int32) then
  ((fI w1.2 4 2 v0).bind fun x2 =>
  (pI w1.2 4 2 v0 (x2 + (1 : Int32))).bind fun M3 =>
  (bz (1 : Int32)).bind fun _ => some ((1 : Int32), M3))
  else
  ((bz (0 : Int32)).bind fun _ => some ((0 : Int32), w1.2))
set_option maxRecDepth 20000 in
set_option maxHeartbeats 4000000 in
theorem lift_X4_takeMinus {G : Gt} {M M9 : Mem} {x9 : Int32} {v0 : Option Nat} (h : L_X4_takeMinus v0 M = some (x9, M9)) : Mt G mX4_takeMinus 1 [vR v0] M (some (vI x9)) M9 := by
  unfold L_X4_takeMinus at h
  refine Mt.of (by decide +kernel) (Nat.le_of_ble_eq_true rfl) ?_
  have hh : V G mX4_takeMinus 1 M (some (vI x9)) M9 M 0 [(0, vR v0)] [] := by
    refine V.aload_n (n := 0) dX4_takeMinus_0 rfl rfl ?_
    refine V.callVi (d' := 0) (as := []) (st := []) dX4_takeMinus_1 meX4_kind mlX4_53 imX4_kind seX4_kind clsX4 rfl (by omega) (Nat.le_of_ble_eq_true rfl) rfl rfl h (fun v hv => lift_X4_kind hv) (fun w1 h => ?_)
    refine V.bipush (x := 45) dX4_takeMinus_4 (by decide) rfl ?_
    refine V.icmp_eq (q := 11) dX4_takeMinus_6 (by decide) rfl h (fun h => ?_) (fun h => ?_)
    · refine V.aload_n (n := 0) dX4_takeMinus_11 rfl rfl ?_
      refine V.dup dX4_takeMinus_12 rfl rfl ?_
      refine V.getI dX4_takeMinus_13 lkX4_37 rfl rfl h (fun x2 h => ?_)
      refine V.iconst (x := 1) dX4_takeMinus_16 (by decide) rfl ?_
      refine V.iadd dX4_takeMinus_17 rfl ?_
      refine V.putI dX4_takeMinus_18 lkX4_37 (Or.inl rfl) rfl rfl h (fun M3 h => ?_)
      refine V.iconst (x := 1) dX4_takeMinus_21 (by decide) rfl ?_
      exact V.zret dX4_takeMinus_22 rfl h
    · refine V.iconst (x := 0) dX4_takeMinus_9 (by decide) rfl ?_
      exact V.zret dX4_takeMinus_10 rfl h
  exact hh
def L_X4_readNumberOrYear (v0 : Option Nat) (M : Mem) : Option (Int32 × Mem) :=
  (ck M 4 v0).bind fun _ => (L_X4_place v0 M).bind fun w1 =>
  (ck w1.2 4 v0).bind fun _ => (L_X4_content v0 w1.2).bind fun w2 =>
  (fI w2.2 4 2 v0).bind fun x3 =>
  (pI w2.2 4 2 v0 (x3 + (1 : Int32))).bind fun M4 =>
  (ck M4 4 v0).bind fun _ => (L_X4_kind v0 M4).bind fun w5 =>
  if w5.1 = (46 : Int32) then
  ((fI w5.2 4 2 v0).bind fun x6 =>
  (pI w5.2 4 2 v0 (x6 + (1 : Int32))).bind fun M7 =>
  (ck M7 4 v0).bind fun _ => (L_X4_leanOn v0 w2.1 w1.1 M7).bind fun w8 =>
  some (w8.1, w8.2))
  else
  ((fR w5.2 4 1 v0).bind fun x9 =>
  (ck w5.2 0 x9).bind fun _ => (L_X0_emit x9 (0 : Int32) w2.1 w5.2).bind fun w10 =>
  some ((-1 : Int32), w10.2))
set_option maxRecDepth 20000 in
set_option maxHeartbeats 4000000 in
theorem lift_X4_readNumberOrYear {G : Gt} {M M9 : Mem} {x9 : Int32} {v0 : Option Nat} (h : L_X4_readNumberOrYear v0 M = some (x9, M9)) : Mt G mX4_readNumberOrYear 2 [vR v0] M (some (vI x9)) M9 := by
  unfold L_X4_readNumberOrYear at h
  refine Mt.of (by decide +kernel) (Nat.le_of_ble_eq_true rfl) ?_
  have hh : V G mX4_readNumberOrYear 2 M (some (vI x9)) M9 M 0 [(0, vR v0)] [] := by
    refine V.aload_n (n := 0) dX4_readNumberOrYear_0 rfl rfl ?_
    refine V.callVi (d' := 0) (as := []) (st := []) dX4_readNumberOrYear_1 meX4_place mlX4_96 imX4_place seX4_place clsX4 rfl (by omega) (Nat.le_of_ble_eq_true rfl) rfl rfl h (fun v hv => lift_X4_place hv) (fun w1 h => ?_)
    refine V.istore_n dX4_readNumberOrYear_4 rfl (by decide) rfl rfl ?_
    refine V.aload_n (n := 1) dX4_readNumberOrYear_5 rfl rfl ?_
    refine V.callVl (d' := 0) (as := []) (st := []) dX4_readNumberOrYear_6 meX4_content mlX4_99 imX4_content seX4_content clsX4 rfl (by omega) (Nat.le_of_ble_eq_true rfl) rfl rfl h (fun v hv => lift_X4_content hv) (fun w2 h => ?_)
    refine V.lstore_n dX4_readNumberOrYear_9 rfl (by decide) rfl rfl ?_
    refine V.aload_n (n := 2) dX4_readNumberOrYear_10 rfl rfl ?_
    refine V.dup dX4_readNumberOrYear_11 rfl rfl ?_
    refine V.getI dX4_readNumberOrYear_12 lkX4_37 rfl rfl h (fun x3 h => ?_)
    refine V.iconst (x := 1) dX4_readNumberOrYear_15 (by decide) rfl ?_
    refine V.iadd dX4_readNumberOrYear_16 rfl ?_
    refine V.putI dX4_readNumberOrYear_17 lkX4_37 (Or.inl rfl) rfl rfl h (fun M4 h => ?_)
    refine V.aload_n (n := 2) dX4_readNumberOrYear_20 rfl rfl ?_
    refine V.callVi (d' := 0) (as := []) (st := []) dX4_readNumberOrYear_21 meX4_kind mlX4_53 imX4_kind seX4_kind clsX4 rfl (by omega) (Nat.le_of_ble_eq_true rfl) rfl rfl h (fun v hv => lift_X4_kind hv) (fun w5 h => ?_)
    refine V.bipush (x := 46) dX4_readNumberOrYear_24 (by decide) rfl ?_
    refine V.icmp_eq (q := 41) dX4_readNumberOrYear_26 (by decide) rfl h (fun h => ?_) (fun h => ?_)
    · refine V.aload_n (n := 2) dX4_readNumberOrYear_41 rfl rfl ?_
      refine V.dup dX4_readNumberOrYear_42 rfl rfl ?_
      refine V.getI dX4_readNumberOrYear_43 lkX4_37 rfl rfl h (fun x6 h => ?_)
      refine V.iconst (x := 1) dX4_readNumberOrYear_46 (by decide) rfl ?_
      refine V.iadd dX4_readNumberOrYear_47 rfl ?_
      refine V.putI dX4_readNumberOrYear_48 lkX4_37 (Or.inl rfl) rfl rfl h (fun M7 h => ?_)
      refine V.aload_n (n := 2) dX4_readNumberOrYear_51 rfl rfl ?_
      refine V.lload_n (n := 0) dX4_readNumberOrYear_52 rfl rfl ?_
      refine V.iload_n (n := 1) dX4_readNumberOrYear_53 rfl rfl ?_
      refine V.callVi (d' := 1) (as := [vL w2.1, vI w1.1]) (st := []) dX4_readNumberOrYear_54 meX4_leanOn mlX4_107 imX4_leanOn seX4_leanOn clsX4 rfl (by omega) (Nat.le_of_ble_eq_true rfl) rfl rfl h (fun v hv => lift_X4_leanOn hv) (fun w8 h => ?_)
      exact V.iret dX4_readNumberOrYear_57 rfl h
    · refine V.aload_n (n := 2) dX4_readNumberOrYear_29 rfl rfl ?_
      refine V.getR dX4_readNumberOrYear_30 lkX4_18 rfl rfl h (fun x9 h => ?_)
      refine V.iconst (x := 0) dX4_readNumberOrYear_33 (by decide) rfl ?_
      refine V.lload_n (n := 0) dX4_readNumberOrYear_34 rfl rfl ?_
      refine V.callVi (d' := 0) (as := [vI (0 : Int32), vL w2.1]) (st := []) dX4_readNumberOrYear_35 meX0_emit mlX4_67 imX0_emit seX0_emit clsX0 rfl (by omega) (Nat.le_of_ble_eq_true rfl) rfl rfl h (fun v hv => lift_X0_emit hv) (fun w10 h => ?_)
      refine V.pop dX4_readNumberOrYear_38 rfl rfl ?_
      refine V.iconst (x := (-1)) dX4_readNumberOrYear_39 (by decide) rfl ?_
      exact V.iret dX4_readNumberOrYear_40 rfl h
  exact hh
def L_X4_readConstName (v0 : Option Nat) (v1 : Int32) (M : Mem) : Option (Unit × Mem) :=
  (ck M 4 v0).bind fun _ => (L_X4_content v0 M).bind fun w1 =>
  (ck w1.2 4 v0).bind fun _ => (L_X4_take v0 (2 : Int32) w1.2).bind fun w2 =>
  if w2.1 = 0 then
  (some ((), w2.2))
  else
  ((fR w2.2 4 1 v0).bind fun x3 =>
  (ck w2.2 0 x3).bind fun _ => (L_X0_emitReference x3 (3 : Int32) v1 w1.1 w2.2).bind fun w4 =>
  some ((), w4.2))
set_option maxRecDepth 20000 in
set_option maxHeartbeats 4000000 in
theorem lift_X4_readConstName {G : Gt} {M M9 : Mem} {x9 : Unit} {v0 : Option Nat} {v1 : Int32} (h : L_X4_readConstName v0 v1 M = some (x9, M9)) : Mt G mX4_readConstName 2 [vR v0, vI v1] M none M9 := by
  unfold L_X4_readConstName at h
  refine Mt.of (by decide +kernel) (Nat.le_of_ble_eq_true rfl) ?_
  have hh : V G mX4_readConstName 2 M none M9 M 0 [(0, vR v0), (1, vI v1)] [] := by
    refine V.aload_n (n := 0) dX4_readConstName_0 rfl rfl ?_
    refine V.callVl (d' := 0) (as := []) (st := []) dX4_readConstName_1 meX4_content mlX4_99 imX4_content seX4_content clsX4 rfl (by omega) (Nat.le_of_ble_eq_true rfl) rfl rfl h (fun v hv => lift_X4_content hv) (fun w1 h => ?_)
    refine V.lstore_n dX4_readConstName_4 rfl (by decide) rfl rfl ?_
    refine V.aload_n (n := 1) dX4_readConstName_5 rfl rfl ?_
    refine V.iconst (x := 2) dX4_readConstName_6 (by decide) rfl ?_
    refine V.callVi (d' := 1) (as := [vI (2 : Int32)]) (st := []) dX4_readConstName_7 meX4_take mlX4_103 imX4_take seX4_take clsX4 rfl (by omega) (Nat.le_of_ble_eq_true rfl) rfl rfl h (fun v hv => lift_X4_take hv) (fun w2 h => ?_)
    refine V.if_eq (q := 23) dX4_readConstName_10 (by decide) rfl h (fun h => ?_) (fun h => ?_)
    · exact V.vret dX4_readConstName_23 rfl h
    · refine V.aload_n (n := 1) dX4_readConstName_13 rfl rfl ?_
      refine V.getR dX4_readConstName_14 lkX4_18 rfl rfl h (fun x3 h => ?_)
      refine V.iconst (x := 3) dX4_readConstName_17 (by decide) rfl ?_
      refine V.iload_n (n := 2) dX4_readConstName_18 rfl rfl ?_
      refine V.lload_n (n := 0) dX4_readConstName_19 rfl rfl ?_
      refine V.callVv (d' := 1) (as := [vI (3 : Int32), vI v1, vL w1.1]) (st := []) dX4_readConstName_20 meX0_emitReference mlX4_158 imX0_emitReference seX0_emitReference clsX0 rfl (by omega) (Nat.le_of_ble_eq_true rfl) rfl rfl h (fun v hv => lift_X0_emitReference hv) (fun w4 h => ?_)
      exact V.vret dX4_readConstName_23 rfl h
  exact hh
def J_X4_readConstantOperand_39 (v0 : Option Nat) (v1 : Int32) (M : Mem) : Option (Unit × Mem) :=
  if v1 = 0 then
  (some ((), M))
  else
  ((fR M 4 1 v0).bind fun x1 =>
  (ck M 0 x1).bind fun _ => (L_X0_emit x1 (5 : Int32) (0 : Int64) M).bind fun w2 =>
  some ((), w2.2))
set_option maxRecDepth 20000 in
set_option maxHeartbeats 4000000 in
theorem lab_X4_readConstantOperand_39 {G : Gt} {M0 M9 : Mem} {x9 : Unit} {v0 : Option Nat} {v1 : Int32} {M : Mem} (h : J_X4_readConstantOperand_39 v0 v1 M = some (x9, M9)) : V G mX4_readConstantOperand 3 M0 none M9 M 39 [(0, vR v0), (1, vI v1)] [] := by
  unfold J_X4_readConstantOperand_39 at h
  refine V.iload_n (n := 1) dX4_readConstantOperand_39 rfl rfl ?_
  refine V.if_eq (q := 53) dX4_readConstantOperand_40 (by decide) rfl h (fun h => ?_) (fun h => ?_)
  · exact V.vret dX4_readConstantOperand_53 rfl h
  · refine V.aload_n (n := 0) dX4_readConstantOperand_43 rfl rfl ?_
    refine V.getR dX4_readConstantOperand_44 lkX4_18 rfl rfl h (fun x1 h => ?_)
    refine V.iconst (x := 5) dX4_readConstantOperand_47 (by decide) rfl ?_
    refine V.lconst (x := 0) dX4_readConstantOperand_48 (by decide) rfl ?_
    refine V.callVi (d' := 0) (as := [vI (5 : Int32), vL (0 : Int64)]) (st := []) dX4_readConstantOperand_49 meX0_emit mlX4_67 imX0_emit seX0_emit clsX0 rfl (by omega) (Nat.le_of_ble_eq_true rfl) rfl rfl h (fun v hv => lift_X0_emit hv) (fun w2 h => ?_)
    refine V.pop dX4_readConstantOperand_52 rfl rfl ?_
    exact V.vret dX4_readConstantOperand_53 rfl h
def J_X4_readConstantOperand_28 (v0 : Option Nat) (v1 : Int32) (M : Mem) : Option (Unit × Mem) :=
  J_X4_readConstantOperand_39 v0 v1 M
set_option maxRecDepth 20000 in
set_option maxHeartbeats 4000000 in
theorem lab_X4_readConstantOperand_28 {G : Gt} {M0 M9 : Mem} {x9 : Unit} {v0 : Option Nat} {v1 : Int32} {M : Mem} (h : J_X4_readConstantOperand_28 v0 v1 M = some (x9, M9)) : V G mX4_readConstantOperand 3 M0 none M9 M 28 [(0, vR v0), (1, vI v1)] [] := by
  unfold J_X4_readConstantOperand_28 at h
  refine V.goto (q := 39) dX4_readConstantOperand_28 (by decide) ?_
  exact (lab_X4_readConstantOperand_39 h)
def L_X4_readConstantOperand (v0 : Option Nat) (M : Mem) : Option (Unit × Mem) :=
  (ck M 4 v0).bind fun _ => (L_X4_takeMinus v0 M).bind fun w3 =>
  (ck w3.2 4 v0).bind fun _ => (L_X4_kind v0 w3.2).bind fun w4 =>
  if ¬ w4.1 = (3 : Int32) then
  ((fI w4.2 4 3 v0).bind fun x5 =>
  (ck w4.2 4 v0).bind fun _ => (L_X4_readConstName v0 x5 w4.2).bind fun w6 =>
  J_X4_readConstantOperand_39 v0 w3.1 w6.2)
  else
  ((ck w4.2 4 v0).bind fun _ => (L_X4_readNumberOrYear v0 w4.2).bind fun w7 =>
  if w7.1 = (-1 : Int32) then
  (J_X4_readConstantOperand_28 v0 w3.1 w7.2)
  else
  ((ck w7.2 4 v0).bind fun _ => (L_X4_readConstName v0 w7.1 w7.2).bind fun w8 =>
  J_X4_readConstantOperand_28 v0 w3.1 w8.2))
set_option maxRecDepth 20000 in
set_option maxHeartbeats 4000000 in
theorem lift_X4_readConstantOperand {G : Gt} {M M9 : Mem} {x9 : Unit} {v0 : Option Nat} (h : L_X4_readConstantOperand v0 M = some (x9, M9)) : Mt G mX4_readConstantOperand 3 [vR v0] M none M9 := by
  unfold L_X4_readConstantOperand at h
  refine Mt.of (by decide +kernel) (Nat.le_of_ble_eq_true rfl) ?_
  have hh : V G mX4_readConstantOperand 3 M none M9 M 0 [(0, vR v0)] [] := by
    refine V.aload_n (n := 0) dX4_readConstantOperand_0 rfl rfl ?_
    refine V.callVi (d' := 1) (as := []) (st := []) dX4_readConstantOperand_1 meX4_takeMinus mlX4_148 imX4_takeMinus seX4_takeMinus clsX4 rfl (by omega) (Nat.le_of_ble_eq_true rfl) rfl rfl h (fun v hv => lift_X4_takeMinus hv) (fun w3 h => ?_)
    refine V.istore_n dX4_readConstantOperand_4 rfl (by decide) rfl rfl ?_
    refine V.aload_n (n := 1) dX4_readConstantOperand_5 rfl rfl ?_
    refine V.callVi (d' := 0) (as := []) (st := []) dX4_readConstantOperand_6 meX4_kind mlX4_53 imX4_kind seX4_kind clsX4 rfl (by omega) (Nat.le_of_ble_eq_true rfl) rfl rfl h (fun v hv => lift_X4_kind hv) (fun w4 h => ?_)
    refine V.iconst (x := 3) dX4_readConstantOperand_9 (by decide) rfl ?_
    refine V.icmp_ne (q := 31) dX4_readConstantOperand_10 (by decide) rfl h (fun h => ?_) (fun h => ?_)
    · refine V.aload_n (n := 1) dX4_readConstantOperand_31 rfl rfl ?_
      refine V.aload_n (n := 1) dX4_readConstantOperand_32 rfl rfl ?_
      refine V.getI dX4_readConstantOperand_33 lkX4_40 rfl rfl h (fun x5 h => ?_)
      refine V.callVv (d' := 2) (as := [vI x5]) (st := []) dX4_readConstantOperand_36 meX4_readConstName mlX4_155 imX4_readConstName seX4_readConstName clsX4 rfl (by omega) (Nat.le_of_ble_eq_true rfl) rfl rfl h (fun v hv => lift_X4_readConstName hv) (fun w6 h => ?_)
      exact V.sub [1, 0] rfl (lab_X4_readConstantOperand_39 h)
    · refine V.aload_n (n := 1) dX4_readConstantOperand_13 rfl rfl ?_
      refine V.callVi (d' := 2) (as := []) (st := []) dX4_readConstantOperand_14 meX4_readNumberOrYear mlX4_152 imX4_readNumberOrYear seX4_readNumberOrYear clsX4 rfl (by omega) (Nat.le_of_ble_eq_true rfl) rfl rfl h (fun v hv => lift_X4_readNumberOrYear hv) (fun w7 h => ?_)
      refine V.istore_n dX4_readConstantOperand_17 rfl (by decide) rfl rfl ?_
      refine V.iload_n (n := 0) dX4_readConstantOperand_18 rfl rfl ?_
      refine V.iconst (x := (-1)) dX4_readConstantOperand_19 (by decide) rfl ?_
      refine V.icmp_eq (q := 28) dX4_readConstantOperand_20 (by decide) rfl h (fun h => ?_) (fun h => ?_)
      · exact V.sub [2, 1] rfl (lab_X4_readConstantOperand_28 h)
      · refine V.aload_n (n := 2) dX4_readConstantOperand_23 rfl rfl ?_
        refine V.iload_n (n := 0) dX4_readConstantOperand_24 rfl rfl ?_
        refine V.callVv (d' := 2) (as := [vI w7.1]) (st := []) dX4_readConstantOperand_25 meX4_readConstName mlX4_155 imX4_readConstName seX4_readConstName clsX4 rfl (by omega) (Nat.le_of_ble_eq_true rfl) rfl rfl h (fun v hv => lift_X4_readConstName hv) (fun w8 h => ?_)
        exact V.sub [2, 1] rfl (lab_X4_readConstantOperand_28 h)
  exact hh
def J_X4_readConstantSum_114 (k_4 : Option Nat → Int32 → Int32 → Mem → Option (Unit × Mem)) (v0 : Option Nat) (v2 : Int32) (s0 : Int32) (M : Mem) : Option (Unit × Mem) :=
  (fI M 4 2 v0).bind fun x1 =>
  (pI M 4 2 v0 (x1 + (1 : Int32))).bind fun M2 =>
  k_4 v0 s0 (v2 + 1) M2
set_option maxRecDepth 20000 in
set_option maxHeartbeats 4000000 in
theorem lab_X4_readConstantSum_114 {G : Gt} {M0 M9 : Mem} {x9 : Unit} {k_4 : Option Nat → Int32 → Int32 → Mem → Option (Unit × Mem)} (hk_4 : ∀ (v0 : Option Nat) (v1 : Int32) (v2 : Int32) (Ma : Mem), k_4 v0 v1 v2 Ma = some (x9, M9) → V G mX4_readConstantSum 4 M0 none M9 Ma 4 [(0, vR v0), (1, vI v1), (2, vI v2)] []) {v0 : Option Nat} {v2 : Int32} {s0 : Int32} {M : Mem} (h : J_X4_readConstantSum_114 k_4 v0 v2 s0 M = some (x9, M9)) : V G mX4_readConstantSum 4 M0 none M9 M 114 [(0, vR v0), (2, vI v2)] [vI s0] := by
  unfold J_X4_readConstantSum_114 at h
  refine V.istore_n dX4_readConstantSum_114 rfl (by decide) rfl rfl ?_
  refine V.aload_n (n := 1) dX4_readConstantSum_115 rfl rfl ?_
  refine V.dup dX4_readConstantSum_116 rfl rfl ?_
  refine V.getI dX4_readConstantSum_117 lkX4_37 rfl rfl h (fun x1 h => ?_)
  refine V.iconst (x := 1) dX4_readConstantSum_120 (by decide) rfl ?_
  refine V.iadd dX4_readConstantSum_121 rfl ?_
  refine V.putI dX4_readConstantSum_122 lkX4_37 (Or.inl rfl) rfl rfl h (fun M2 h => ?_)
  refine V.iinc (n := 2) (x := v2 + 1) dX4_readConstantSum_125 rfl (by rfl) (by decide) rfl rfl ?_
  refine V.goto (q := 4) dX4_readConstantSum_128 (by decide) ?_
  exact V.sub [2, 1, 0] rfl (hk_4 _ _ _ _ h)
def J_X4_readConstantSum_98 (k_4 : Option Nat → Int32 → Int32 → Mem → Option (Unit × Mem)) (v0 : Option Nat) (v2 : Int32) (M : Mem) : Option (Unit × Mem) :=
  (ck M 4 v0).bind fun _ => (L_X4_kind v0 M).bind fun w3 =>
  if ¬ w3.1 = (43 : Int32) then
  (J_X4_readConstantSum_114 k_4 v0 v2 (7 : Int32) w3.2)
  else
  (J_X4_readConstantSum_114 k_4 v0 v2 (6 : Int32) w3.2)
set_option maxRecDepth 20000 in
set_option maxHeartbeats 4000000 in
theorem lab_X4_readConstantSum_98 {G : Gt} {M0 M9 : Mem} {x9 : Unit} {k_4 : Option Nat → Int32 → Int32 → Mem → Option (Unit × Mem)} (hk_4 : ∀ (v0 : Option Nat) (v1 : Int32) (v2 : Int32) (Ma : Mem), k_4 v0 v1 v2 Ma = some (x9, M9) → V G mX4_readConstantSum 4 M0 none M9 Ma 4 [(0, vR v0), (1, vI v1), (2, vI v2)] []) {v0 : Option Nat} {v2 : Int32} {M : Mem} (h : J_X4_readConstantSum_98 k_4 v0 v2 M = some (x9, M9)) : V G mX4_readConstantSum 4 M0 none M9 M 98 [(0, vR v0), (2, vI v2)] [] := by
  unfold J_X4_readConstantSum_98 at h
  refine V.aload_n (n := 0) dX4_readConstantSum_98 rfl rfl ?_
  refine V.callVi (d' := 0) (as := []) (st := []) dX4_readConstantSum_99 meX4_kind mlX4_53 imX4_kind seX4_kind clsX4 rfl (by omega) (Nat.le_of_ble_eq_true rfl) rfl rfl h (fun v hv => lift_X4_kind hv) (fun w3 h => ?_)
  refine V.bipush (x := 43) dX4_readConstantSum_102 (by decide) rfl ?_
  refine V.icmp_ne (q := 112) dX4_readConstantSum_104 (by decide) rfl h (fun h => ?_) (fun h => ?_)
  · refine V.bipush (x := 7) dX4_readConstantSum_112 (by decide) rfl ?_
    exact (lab_X4_readConstantSum_114 hk_4 h)
  · refine V.bipush (x := 6) dX4_readConstantSum_107 (by decide) rfl ?_
    refine V.goto (q := 114) dX4_readConstantSum_109 (by decide) ?_
    exact (lab_X4_readConstantSum_114 hk_4 h)
def J_X4_readConstantSum_79 (k_4 : Option Nat → Int32 → Int32 → Mem → Option (Unit × Mem)) (v0 : Option Nat) (v2 : Int32) (M : Mem) : Option (Unit × Mem) :=
  (ck M 4 v0).bind fun _ => (L_X4_kind v0 M).bind fun w4 =>
  if w4.1 = (43 : Int32) then
  (J_X4_readConstantSum_98 k_4 v0 v2 w4.2)
  else
  ((ck w4.2 4 v0).bind fun _ => (L_X4_kind v0 w4.2).bind fun w5 =>
  if w5.1 = (45 : Int32) then
  (J_X4_readConstantSum_98 k_4 v0 v2 w5.2)
  else
  (some ((), w5.2)))
set_option maxRecDepth 20000 in
set_option maxHeartbeats 4000000 in
theorem lab_X4_readConstantSum_79 {G : Gt} {M0 M9 : Mem} {x9 : Unit} {k_4 : Option Nat → Int32 → Int32 → Mem → Option (Unit × Mem)} (hk_4 : ∀ (v0 : Option Nat) (v1 : Int32) (v2 : Int32) (Ma : Mem), k_4 v0 v1 v2 Ma = some (x9, M9) → V G mX4_readConstantSum 4 M0 none M9 Ma 4 [(0, vR v0), (1, vI v1), (2, vI v2)] []) {v0 : Option Nat} {v2 : Int32} {M : Mem} (h : J_X4_readConstantSum_79 k_4 v0 v2 M = some (x9, M9)) : V G mX4_readConstantSum 4 M0 none M9 M 79 [(0, vR v0), (2, vI v2)] [] := by
  unfold J_X4_readConstantSum_79 at h
  refine V.aload_n (n := 0) dX4_readConstantSum_79 rfl rfl ?_
  refine V.callVi (d' := 0) (as := []) (st := []) dX4_readConstantSum_80 meX4_kind mlX4_53 imX4_kind seX4_kind clsX4 rfl (by omega) (Nat.le_of_ble_eq_true rfl) rfl rfl h (fun v hv => lift_X4_kind hv) (fun w4 h => ?_)
  refine V.bipush (x := 43) dX4_readConstantSum_83 (by decide) rfl ?_
  refine V.icmp_eq (q := 98) dX4_readConstantSum_85 (by decide) rfl h (fun h => ?_) (fun h => ?_)
  · exact (lab_X4_readConstantSum_98 hk_4 h)
  · refine V.aload_n (n := 0) dX4_readConstantSum_88 rfl rfl ?_
    refine V.callVi (d' := 0) (as := []) (st := []) dX4_readConstantSum_89 meX4_kind mlX4_53 imX4_kind seX4_kind clsX4 rfl (by omega) (Nat.le_of_ble_eq_true rfl) rfl rfl h (fun v hv => lift_X4_kind hv) (fun w5 h => ?_)
    refine V.bipush (x := 45) dX4_readConstantSum_92 (by decide) rfl ?_
    refine V.icmp_eq (q := 98) dX4_readConstantSum_94 (by decide) rfl h (fun h => ?_) (fun h => ?_)
    · exact (lab_X4_readConstantSum_98 hk_4 h)
    · exact V.vret dX4_readConstantSum_97 rfl h
def J_X4_readConstantSum_64 (k_4 : Option Nat → Int32 → Int32 → Mem → Option (Unit × Mem)) (v0 : Option Nat) (v1 : Int32) (v2 : Int32) (M : Mem) : Option (Unit × Mem) :=
  if v1 = (-1 : Int32) then
  (J_X4_readConstantSum_79 k_4 v0 v2 M)
  else
  ((fR M 4 1 v0).bind fun x6 =>
  (ck M 0 x6).bind fun _ => (L_X0_emit x6 v1 (0 : Int64) M).bind fun w7 =>
  J_X4_readConstantSum_79 k_4 v0 v2 w7.2)
set_option maxRecDepth 20000 in
set_option maxHeartbeats 4000000 in
theorem lab_X4_readConstantSum_64 {G : Gt} {M0 M9 : Mem} {x9 : Unit} {k_4 : Option Nat → Int32 → Int32 → Mem → Option (Unit × Mem)} (hk_4 : ∀ (v0 : Option Nat) (v1 : Int32) (v2 : Int32) (Ma : Mem), k_4 v0 v1 v2 Ma = some (x9, M9) → V G mX4_readConstantSum 4 M0 none M9 Ma 4 [(0, vR v0), (1, vI v1), (2, vI v2)] []) {v0 : Option Nat} {v1 : Int32} {v2 : Int32} {M : Mem} (h : J_X4_readConstantSum_64 k_4 v0 v1 v2 M = some (x9, M9)) : V G mX4_readConstantSum 4 M0 none M9 M 64 [(0, vR v0), (1, vI v1), (2, vI v2)] [] := by
  unfold J_X4_readConstantSum_64 at h
  refine V.iload_n (n := 1) dX4_readConstantSum_64 rfl rfl ?_
  refine V.iconst (x := (-1)) dX4_readConstantSum_65 (by decide) rfl ?_
  refine V.icmp_eq (q := 79) dX4_readConstantSum_66 (by decide) rfl h (fun h => ?_) (fun h => ?_)
  · exact V.sub [0, 2] rfl (lab_X4_readConstantSum_79 hk_4 h)
  · refine V.aload_n (n := 0) dX4_readConstantSum_69 rfl rfl ?_
    refine V.getR dX4_readConstantSum_70 lkX4_18 rfl rfl h (fun x6 h => ?_)
    refine V.iload_n (n := 1) dX4_readConstantSum_73 rfl rfl ?_
    refine V.lconst (x := 0) dX4_readConstantSum_74 (by decide) rfl ?_
    refine V.callVi (d' := 0) (as := [vI v1, vL (0 : Int64)]) (st := []) dX4_readConstantSum_75 meX0_emit mlX4_67 imX0_emit seX0_emit clsX0 rfl (by omega) (Nat.le_of_ble_eq_true rfl) rfl rfl h (fun v hv => lift_X0_emit hv) (fun w7 h => ?_)
    refine V.pop dX4_readConstantSum_78 rfl rfl ?_
    exact V.sub [0, 2] rfl (lab_X4_readConstantSum_79 hk_4 h)
def J_X4_readConstantSum_17 (k_4 : Option Nat → Int32 → Int32 → Mem → Option (Unit × Mem)) : Nat → Option Nat → Int32 → Int32 → Int32 → Mem → Option (Unit × Mem)
  | 0 => fun _ _ _ _ _ => none
  | n + 1 => fun v0 v1 v2 v3 M =>
  if (900 : Int32) < v3 then
  (J_X4_readConstantSum_64 k_4 v0 v1 v2 M)
  else
  ((ck M 4 v0).bind fun _ => (L_X4_kind v0 M).bind fun w8 =>
  if ¬ w8.1 = (42 : Int32) then
  (J_X4_readConstantSum_64 k_4 v0 v1 v2 w8.2)
  else
  ((fI w8.2 4 2 v0).bind fun x9 =>
  (pI w8.2 4 2 v0 (x9 + (1 : Int32))).bind fun M10 =>
  (ck M10 4 v0).bind fun _ => (L_X4_readConstantOperand v0 M10).bind fun w11 =>
  (fR w11.2 4 1 v0).bind fun x12 =>
  (ck w11.2 0 x12).bind fun _ => (L_X0_emit x12 (8 : Int32) (0 : Int64) w11.2).bind fun w13 =>
  J_X4_readConstantSum_17 k_4 n v0 v1 v2 (v3 + 1) w13.2))
set_option maxRecDepth 20000 in
set_option maxHeartbeats 4000000 in
theorem lab_X4_readConstantSum_17 {G : Gt} {M0 M9 : Mem} {x9 : Unit} {k_4 : Option Nat → Int32 → Int32 → Mem → Option (Unit × Mem)} (hk_4 : ∀ (v0 : Option Nat) (v1 : Int32) (v2 : Int32) (Ma : Mem), k_4 v0 v1 v2 Ma = some (x9, M9) → V G mX4_readConstantSum 4 M0 none M9 Ma 4 [(0, vR v0), (1, vI v1), (2, vI v2)] []) : ∀ (n : Nat) (v0 : Option Nat) (v1 : Int32) (v2 : Int32) (v3 : Int32) (M : Mem), J_X4_readConstantSum_17 k_4 n v0 v1 v2 v3 M = some (x9, M9) → V G mX4_readConstantSum 4 M0 none M9 M 17 [(0, vR v0), (1, vI v1), (2, vI v2), (3, vI v3)] [] := by
  intro n
  induction n with
  | zero => intro v0 v1 v2 v3 M h; exact nomatch h
  | succ n ih =>
    intro v0 v1 v2 v3 M h
    unfold J_X4_readConstantSum_17 at h
    refine V.iload_n (n := 3) dX4_readConstantSum_17 rfl rfl ?_
    refine V.sipush (x := 900) dX4_readConstantSum_18 (by decide) rfl ?_
    refine V.icmp_gt (q := 64) dX4_readConstantSum_21 (by decide) rfl h (fun h => ?_) (fun h => ?_)
    · exact V.sub [0, 1, 2] rfl (lab_X4_readConstantSum_64 hk_4 h)
    · refine V.aload_n (n := 0) dX4_readConstantSum_24 rfl rfl ?_
      refine V.callVi (d' := 0) (as := []) (st := []) dX4_readConstantSum_25 meX4_kind mlX4_53 imX4_kind seX4_kind clsX4 rfl (by omega) (Nat.le_of_ble_eq_true rfl) rfl rfl h (fun v hv => lift_X4_kind hv) (fun w8 h => ?_)
      refine V.bipush (x := 42) dX4_readConstantSum_28 (by decide) rfl ?_
      refine V.icmp_ne (q := 64) dX4_readConstantSum_30 (by decide) rfl h (fun h => ?_) (fun h => ?_)
      · exact V.sub [0, 1, 2] rfl (lab_X4_readConstantSum_64 hk_4 h)
      · refine V.aload_n (n := 0) dX4_readConstantSum_33 rfl rfl ?_
        refine V.dup dX4_readConstantSum_34 rfl rfl ?_
        refine V.getI dX4_readConstantSum_35 lkX4_37 rfl rfl h (fun x9 h => ?_)
        refine V.iconst (x := 1) dX4_readConstantSum_38 (by decide) rfl ?_
        refine V.iadd dX4_readConstantSum_39 rfl ?_
        refine V.putI dX4_readConstantSum_40 lkX4_37 (Or.inl rfl) rfl rfl h (fun M10 h => ?_)
        refine V.aload_n (n := 0) dX4_readConstantSum_43 rfl rfl ?_
        refine V.callVv (d' := 3) (as := []) (st := []) dX4_readConstantSum_44 meX4_readConstantOperand mlX4_145 imX4_readConstantOperand seX4_readConstantOperand clsX4 rfl (by omega) (Nat.le_of_ble_eq_true rfl) rfl rfl h (fun v hv => lift_X4_readConstantOperand hv) (fun w11 h => ?_)
        refine V.aload_n (n := 0) dX4_readConstantSum_47 rfl rfl ?_
        refine V.getR dX4_readConstantSum_48 lkX4_18 rfl rfl h (fun x12 h => ?_)
        refine V.bipush (x := 8) dX4_readConstantSum_51 (by decide) rfl ?_
        refine V.lconst (x := 0) dX4_readConstantSum_53 (by decide) rfl ?_
        refine V.callVi (d' := 0) (as := [vI (8 : Int32), vL (0 : Int64)]) (st := []) dX4_readConstantSum_54 meX0_emit mlX4_67 imX0_emit seX0_emit clsX0 rfl (by omega) (Nat.le_of_ble_eq_true rfl) rfl rfl h (fun v hv => lift_X0_emit hv) (fun w13 h => ?_)
        refine V.pop dX4_readConstantSum_57 rfl rfl ?_
        refine V.iinc (n := 3) (x := v3 + 1) dX4_readConstantSum_58 rfl (by rfl) (by decide) rfl rfl ?_
        refine V.goto (q := 17) dX4_readConstantSum_61 (by decide) ?_
        exact V.sub [1, 2, 3, 0] rfl (ih _ _ _ _ _ h)
def J_X4_readConstantSum_4 : Nat → Option Nat → Int32 → Int32 → Mem → Option (Unit × Mem)
  | 0 => fun _ _ _ _ => none
  | n + 1 => fun v0 v1 v2 M =>
  if (900 : Int32) < v2 then
  (some ((), M))
  else
  ((ck M 4 v0).bind fun _ => (L_X4_readConstantOperand v0 M).bind fun w14 =>
  J_X4_readConstantSum_17 (J_X4_readConstantSum_4 n) FU v0 v1 v2 (0 : Int32) w14.2)
set_option maxRecDepth 20000 in
set_option maxHeartbeats 4000000 in
theorem lab_X4_readConstantSum_4 {G : Gt} {M0 M9 : Mem} {x9 : Unit} : ∀ (n : Nat) (v0 : Option Nat) (v1 : Int32) (v2 : Int32) (M : Mem), J_X4_readConstantSum_4 n v0 v1 v2 M = some (x9, M9) → V G mX4_readConstantSum 4 M0 none M9 M 4 [(0, vR v0), (1, vI v1), (2, vI v2)] [] := by
  intro n
  induction n with
  | zero => intro v0 v1 v2 M h; exact nomatch h
  | succ n ih =>
    intro v0 v1 v2 M h
    unfold J_X4_readConstantSum_4 at h
    refine V.iload_n (n := 2) dX4_readConstantSum_4 rfl rfl ?_
    refine V.sipush (x := 900) dX4_readConstantSum_5 (by decide) rfl ?_
    refine V.icmp_gt (q := 131) dX4_readConstantSum_8 (by decide) rfl h (fun h => ?_) (fun h => ?_)
    · exact V.vret dX4_readConstantSum_131 rfl h
    · refine V.aload_n (n := 0) dX4_readConstantSum_11 rfl rfl ?_
      refine V.callVv (d' := 3) (as := []) (st := []) dX4_readConstantSum_12 meX4_readConstantOperand mlX4_145 imX4_readConstantOperand seX4_readConstantOperand clsX4 rfl (by omega) (Nat.le_of_ble_eq_true rfl) rfl rfl h (fun v hv => lift_X4_readConstantOperand hv) (fun w14 h => ?_)
      refine V.iconst (x := 0) dX4_readConstantSum_15 (by decide) rfl ?_
      refine V.istore_n dX4_readConstantSum_16 rfl (by decide) rfl rfl ?_
      exact V.sub [1, 2, 3, 0] rfl (lab_X4_readConstantSum_17 ih FU _ _ _ _ _ h)
def L_X4_readConstantSum (v0 : Option Nat) (M : Mem) : Option (Unit × Mem) :=
  J_X4_readConstantSum_4 FU v0 (-1 : Int32) (0 : Int32) M
set_option maxRecDepth 20000 in
set_option maxHeartbeats 4000000 in
theorem lift_X4_readConstantSum {G : Gt} {M M9 : Mem} {x9 : Unit} {v0 : Option Nat} (h : L_X4_readConstantSum v0 M = some (x9, M9)) : Mt G mX4_readConstantSum 4 [vR v0] M none M9 := by
  unfold L_X4_readConstantSum at h
  refine Mt.of (by decide +kernel) (Nat.le_of_ble_eq_true rfl) ?_
  have hh : V G mX4_readConstantSum 4 M none M9 M 0 [(0, vR v0)] [] := by
    refine V.iconst (x := (-1)) dX4_readConstantSum_0 (by decide) rfl ?_
    refine V.istore_n dX4_readConstantSum_1 rfl (by decide) rfl rfl ?_
    refine V.iconst (x := 0) dX4_readConstantSum_2 (by decide) rfl ?_
    refine V.istore_n dX4_readConstantSum_3 rfl (by decide) rfl rfl ?_
    exact V.sub [2, 1, 0] rfl (lab_X4_readConstantSum_4 FU _ _ _ _ h)
  exact hh
def J_X4_readConst_21 (v0 : Option Nat) (M : Mem) : Option (Unit × Mem) :=
  (fI M 4 2 v0).bind fun x1 =>
  (pI M 4 2 v0 (x1 + (1 : Int32))).bind fun M2 =>
  (ck M2 4 v0).bind fun _ => (L_X4_takeNewName v0 M2).bind fun w3 =>
  (ck w3.2 4 v0).bind fun _ => (L_X4_take v0 (61 : Int32) w3.2).bind fun w4 =>
  (fR w4.2 4 1 v0).bind fun x5 =>
  (ck w4.2 0 x5).bind fun _ => (L_X0_emit x5 (14 : Int32) (0 : Int64) w4.2).bind fun w6 =>
  (fR w6.2 4 1 v0).bind fun x7 =>
  (ck w6.2 0 x7).bind fun _ => (L_X0_addConst x7 w3.1 w6.2).bind fun w8 =>
  (ck w8.2 4 v0).bind fun _ => (L_X4_readConstantSum v0 w8.2).bind fun w9 =>
  (fR w9.2 4 1 v0).bind fun x10 =>
  (ck w9.2 0 x10).bind fun _ => (L_X0_emit x10 (20 : Int32) (0 : Int64) w9.2).bind fun w11 =>
  (fR w11.2 4 1 v0).bind fun x12 =>
  (ck w11.2 0 x12).bind fun _ => (L_X0_landHere x12 w6.1 w11.2).bind fun w13 =>
  (ck w13.2 4 v0).bind fun _ => (L_X4_take v0 (59 : Int32) w13.2).bind fun w14 =>
  some ((), w14.2)
set_option maxRecDepth 20000 in
set_option maxHeartbeats 4000000 in
theorem lab_X4_readConst_21 {G : Gt} {M0 M9 : Mem} {x9 : Unit} {v0 : Option Nat} {M : Mem} (h : J_X4_readConst_21 v0 M = some (x9, M9)) : V G mX4_readConst 5 M0 none M9 M 21 [(0, vR v0)] [] := by
  unfold J_X4_readConst_21 at h
  refine V.aload_n (n := 0) dX4_readConst_21 rfl rfl ?_
  refine V.dup dX4_readConst_22 rfl rfl ?_
  refine V.getI dX4_readConst_23 lkX4_37 rfl rfl h (fun x1 h => ?_)
  refine V.iconst (x := 1) dX4_readConst_26 (by decide) rfl ?_
  refine V.iadd dX4_readConst_27 rfl ?_
  refine V.putI dX4_readConst_28 lkX4_37 (Or.inl rfl) rfl rfl h (fun M2 h => ?_)
  refine V.aload_n (n := 0) dX4_readConst_31 rfl rfl ?_
  refine V.callVl (d' := 2) (as := []) (st := []) dX4_readConst_32 meX4_takeNewName mlX4_132 imX4_takeNewName seX4_takeNewName clsX4 rfl (by omega) (Nat.le_of_ble_eq_true rfl) rfl rfl h (fun v hv => lift_X4_takeNewName hv) (fun w3 h => ?_)
  refine V.lstore_n dX4_readConst_35 rfl (by decide) rfl rfl ?_
  refine V.aload_n (n := 1) dX4_readConst_36 rfl rfl ?_
  refine V.bipush (x := 61) dX4_readConst_37 (by decide) rfl ?_
  refine V.callVi (d' := 1) (as := [vI (61 : Int32)]) (st := []) dX4_readConst_39 meX4_take mlX4_103 imX4_take seX4_take clsX4 rfl (by omega) (Nat.le_of_ble_eq_true rfl) rfl rfl h (fun v hv => lift_X4_take hv) (fun w4 h => ?_)
  refine V.pop dX4_readConst_42 rfl rfl ?_
  refine V.aload_n (n := 1) dX4_readConst_43 rfl rfl ?_
  refine V.getR dX4_readConst_44 lkX4_18 rfl rfl h (fun x5 h => ?_)
  refine V.bipush (x := 14) dX4_readConst_47 (by decide) rfl ?_
  refine V.lconst (x := 0) dX4_readConst_49 (by decide) rfl ?_
  refine V.callVi (d' := 0) (as := [vI (14 : Int32), vL (0 : Int64)]) (st := []) dX4_readConst_50 meX0_emit mlX4_67 imX0_emit seX0_emit clsX0 rfl (by omega) (Nat.le_of_ble_eq_true rfl) rfl rfl h (fun v hv => lift_X0_emit hv) (fun w6 h => ?_)
  refine V.istore_n dX4_readConst_53 rfl (by decide) rfl rfl ?_
  refine V.aload_n (n := 2) dX4_readConst_54 rfl rfl ?_
  refine V.getR dX4_readConst_55 lkX4_18 rfl rfl h (fun x7 h => ?_)
  refine V.lload_n (n := 1) dX4_readConst_58 rfl rfl ?_
  refine V.callVv (d' := 0) (as := [vL w3.1]) (st := []) dX4_readConst_59 meX0_addConst mlX4_135 imX0_addConst seX0_addConst clsX0 rfl (by omega) (Nat.le_of_ble_eq_true rfl) rfl rfl h (fun v hv => lift_X0_addConst hv) (fun w8 h => ?_)
  refine V.aload_n (n := 2) dX4_readConst_62 rfl rfl ?_
  refine V.callVv (d' := 4) (as := []) (st := []) dX4_readConst_63 meX4_readConstantSum mlX4_139 imX4_readConstantSum seX4_readConstantSum clsX4 rfl (by omega) (Nat.le_of_ble_eq_true rfl) rfl rfl h (fun v hv => lift_X4_readConstantSum hv) (fun w9 h => ?_)
  refine V.aload_n (n := 2) dX4_readConst_66 rfl rfl ?_
  refine V.getR dX4_readConst_67 lkX4_18 rfl rfl h (fun x10 h => ?_)
  refine V.bipush (x := 20) dX4_readConst_70 (by decide) rfl ?_
  refine V.lconst (x := 0) dX4_readConst_72 (by decide) rfl ?_
  refine V.callVi (d' := 0) (as := [vI (20 : Int32), vL (0 : Int64)]) (st := []) dX4_readConst_73 meX0_emit mlX4_67 imX0_emit seX0_emit clsX0 rfl (by omega) (Nat.le_of_ble_eq_true rfl) rfl rfl h (fun v hv => lift_X0_emit hv) (fun w11 h => ?_)
  refine V.pop dX4_readConst_76 rfl rfl ?_
  refine V.aload_n (n := 2) dX4_readConst_77 rfl rfl ?_
  refine V.getR dX4_readConst_78 lkX4_18 rfl rfl h (fun x12 h => ?_)
  refine V.iload_n (n := 0) dX4_readConst_81 rfl rfl ?_
  refine V.callVv (d' := 0) (as := [vI w6.1]) (st := []) dX4_readConst_82 meX0_landHere mlX4_142 imX0_landHere seX0_landHere clsX0 rfl (by omega) (Nat.le_of_ble_eq_true rfl) rfl rfl h (fun v hv => lift_X0_landHere hv) (fun w13 h => ?_)
  refine V.aload_n (n := 2) dX4_readConst_85 rfl rfl ?_
  refine V.bipush (x := 59) dX4_readConst_86 (by decide) rfl ?_
  refine V.callVi (d' := 1) (as := [vI (59 : Int32)]) (st := []) dX4_readConst_88 meX4_take mlX4_103 imX4_take seX4_take clsX4 rfl (by omega) (Nat.le_of_ble_eq_true rfl) rfl rfl h (fun v hv => lift_X4_take hv) (fun w14 h => ?_)
  refine V.pop dX4_readConst_91 rfl rfl ?_
  exact V.vret dX4_readConst_92 rfl h
def L_X4_readConst (v0 : Option Nat) (M : Mem) : Option (Unit × Mem) :=
  (fR M 4 1 v0).bind fun x15 =>
  (fI M 0 9 x15).bind fun x16 =>
  if x16 < (8 : Int32) then
  (J_X4_readConst_21 v0 M)
  else
  ((ck M 4 v0).bind fun _ => (L_X4_place v0 M).bind fun w17 =>
  (ck w17.2 4 v0).bind fun _ => (L_X4_note v0 (5 : Int32) w17.1 w17.2).bind fun w18 =>
  J_X4_readConst_21 v0 w18.2)
set_option maxRecDepth 20000 in
set_option maxHeartbeats 4000000 in
theorem lift_X4_readConst {G : Gt} {M M9 : Mem} {x9 : Unit} {v0 : Option Nat} (h : L_X4_readConst v0 M = some (x9, M9)) : Mt G mX4_readConst 5 [vR v0] M none M9 := by
  unfold L_X4_readConst at h
  refine Mt.of (by decide +kernel) (Nat.le_of_ble_eq_true rfl) ?_
  have hh : V G mX4_readConst 5 M none M9 M 0 [(0, vR v0)] [] := by
    refine V.aload_n (n := 0) dX4_readConst_0 rfl rfl ?_
    refine V.getR dX4_readConst_1 lkX4_18 rfl rfl h (fun x15 h => ?_)
    refine V.getI dX4_readConst_4 lkX4_129 rfl rfl h (fun x16 h => ?_)
    refine V.bipush (x := 8) dX4_readConst_7 (by decide) rfl ?_
    refine V.icmp_lt (q := 21) dX4_readConst_9 (by decide) rfl h (fun h => ?_) (fun h => ?_)
    · exact (lab_X4_readConst_21 h)
    · refine V.aload_n (n := 0) dX4_readConst_12 rfl rfl ?_
      refine V.iconst (x := 5) dX4_readConst_13 (by decide) rfl ?_
      refine V.aload_n (n := 0) dX4_readConst_14 rfl rfl ?_
      refine V.callVi (d' := 0) (as := []) (st := [vI (5 : Int32), vR v0]) dX4_readConst_15 meX4_place mlX4_96 imX4_place seX4_place clsX4 rfl (by omega) (Nat.le_of_ble_eq_true rfl) rfl rfl h (fun v hv => lift_X4_place hv) (fun w17 h => ?_)
      refine V.callVv (d' := 0) (as := [vI (5 : Int32), vI w17.1]) (st := []) dX4_readConst_18 meX4_note mlX4_118 imX4_note seX4_note clsX4 rfl (by omega) (Nat.le_of_ble_eq_true rfl) rfl rfl h (fun v hv => lift_X4_note hv) (fun w18 h => ?_)
      exact (lab_X4_readConst_21 h)
  exact hh
def L_X4_readReference (rF : Option Nat → Int32 → Mem → Option (Unit × Mem)) (v0 : Option Nat) (v1 : Int32) (v2 : Int32) (M : Mem) : Option (Unit × Mem) :=
  (ck M 4 v0).bind fun _ => (L_X4_content v0 M).bind fun w1 =>
  (ck w1.2 4 v0).bind fun _ => (L_X4_take v0 (2 : Int32) w1.2).bind fun w2 =>
  if ¬ w2.1 = 0 then
  ((ck w2.2 4 v0).bind fun _ => (L_X4_kind v0 w2.2).bind fun w3 =>
  if w3.1 = (91 : Int32) then
  ((fI w3.2 4 2 v0).bind fun x4 =>
  (pI w3.2 4 2 v0 (x4 + (1 : Int32))).bind fun M5 =>
  (ck M5 4 v0).bind fun _ => (rF v0 (v2 + (1 : Int32)) M5).bind fun w6 =>
  (ck w6.2 4 v0).bind fun _ => (L_X4_take v0 (93 : Int32) w6.2).bind fun w7 =>
  (fR w7.2 4 1 v0).bind fun x8 =>
  (ck w7.2 0 x8).bind fun _ => (L_X0_emitReference x8 (4 : Int32) v1 w1.1 w7.2).bind fun w9 =>
  some ((), w9.2))
  else
  ((fR w3.2 4 1 v0).bind fun x10 =>
  (ck w3.2 0 x10).bind fun _ => (L_X0_emitReference x10 (3 : Int32) v1 w1.1 w3.2).bind fun w11 =>
  some ((), w11.2)))
  else
  (some ((), w2.2))
set_option maxRecDepth 20000 in
set_option maxHeartbeats 4000000 in
theorem lift_X4_readReference {G : Gt} {M M9 : Mem} {x9 : Unit} {v0 : Option Nat} {v1 : Int32} {v2 : Int32} {dr : Nat} {rF : Option Nat → Int32 → Mem → Option (Unit × Mem)} (hrF : ∀ (a0 : Option Nat) (a1 : Int32) (Ma : Mem) (v : Unit × Mem), rF a0 a1 Ma = some v → Mt G mX4_readChoice dr [vR a0, vI a1] Ma none v.2) (h : L_X4_readReference rF v0 v1 v2 M = some (x9, M9)) : Mt G mX4_readReference (dr + 2) [vR v0, vI v1, vI v2] M none M9 := by
  unfold L_X4_readReference at h
  refine Mt.of (by decide +kernel) (Nat.le_of_ble_eq_true rfl) ?_
  have hh : V G mX4_readReference (dr + 2) M none M9 M 0 [(0, vR v0), (1, vI v1), (2, vI v2)] [] := by
    refine V.aload_n (n := 0) dX4_readReference_0 rfl rfl ?_
    refine V.callVl (d' := 0) (as := []) (st := []) dX4_readReference_1 meX4_content mlX4_99 imX4_content seX4_content clsX4 rfl (by omega) (Nat.le_of_ble_eq_true rfl) rfl rfl h (fun v hv => lift_X4_content hv) (fun w1 h => ?_)
    refine V.lstore_n dX4_readReference_4 rfl (by decide) rfl rfl ?_
    refine V.aload_n (n := 1) dX4_readReference_5 rfl rfl ?_
    refine V.iconst (x := 2) dX4_readReference_6 (by decide) rfl ?_
    refine V.callVi (d' := 1) (as := [vI (2 : Int32)]) (st := []) dX4_readReference_7 meX4_take mlX4_103 imX4_take seX4_take clsX4 rfl (by omega) (Nat.le_of_ble_eq_true rfl) rfl rfl h (fun v hv => lift_X4_take hv) (fun w2 h => ?_)
    refine V.if_ne (q := 14) dX4_readReference_10 (by decide) rfl h (fun h => ?_) (fun h => ?_)
    · refine V.aload_n (n := 1) dX4_readReference_14 rfl rfl ?_
      refine V.callVi (d' := 0) (as := []) (st := []) dX4_readReference_15 meX4_kind mlX4_53 imX4_kind seX4_kind clsX4 rfl (by omega) (Nat.le_of_ble_eq_true rfl) rfl rfl h (fun v hv => lift_X4_kind hv) (fun w3 h => ?_)
      refine V.bipush (x := 91) dX4_readReference_18 (by decide) rfl ?_
      refine V.icmp_eq (q := 34) dX4_readReference_20 (by decide) rfl h (fun h => ?_) (fun h => ?_)
      · refine V.aload_n (n := 1) dX4_readReference_34 rfl rfl ?_
        refine V.dup dX4_readReference_35 rfl rfl ?_
        refine V.getI dX4_readReference_36 lkX4_37 rfl rfl h (fun x4 h => ?_)
        refine V.iconst (x := 1) dX4_readReference_39 (by decide) rfl ?_
        refine V.iadd dX4_readReference_40 rfl ?_
        refine V.putI dX4_readReference_41 lkX4_37 (Or.inl rfl) rfl rfl h (fun M5 h => ?_)
        refine V.aload_n (n := 1) dX4_readReference_44 rfl rfl ?_
        refine V.iload_n (n := 3) dX4_readReference_45 rfl rfl ?_
        refine V.iconst (x := 1) dX4_readReference_46 (by decide) rfl ?_
        refine V.iadd dX4_readReference_47 rfl ?_
        refine V.callVv (d' := dr) (as := [vI (v2 + (1 : Int32))]) (st := []) dX4_readReference_48 meX4_readChoice mlX4_166 imX4_readChoice seX4_readChoice clsX4 rfl (by omega) (Nat.le_of_ble_eq_true rfl) rfl rfl h (fun v hv => hrF _ _ _ v hv) (fun w6 h => ?_)
        refine V.aload_n (n := 1) dX4_readReference_51 rfl rfl ?_
        refine V.bipush (x := 93) dX4_readReference_52 (by decide) rfl ?_
        refine V.callVi (d' := 1) (as := [vI (93 : Int32)]) (st := []) dX4_readReference_54 meX4_take mlX4_103 imX4_take seX4_take clsX4 rfl (by omega) (Nat.le_of_ble_eq_true rfl) rfl rfl h (fun v hv => lift_X4_take hv) (fun w7 h => ?_)
        refine V.pop dX4_readReference_57 rfl rfl ?_
        refine V.aload_n (n := 1) dX4_readReference_58 rfl rfl ?_
        refine V.getR dX4_readReference_59 lkX4_18 rfl rfl h (fun x8 h => ?_)
        refine V.iconst (x := 4) dX4_readReference_62 (by decide) rfl ?_
        refine V.iload_n (n := 2) dX4_readReference_63 rfl rfl ?_
        refine V.lload_n (n := 0) dX4_readReference_64 rfl rfl ?_
        refine V.callVv (d' := 1) (as := [vI (4 : Int32), vI v1, vL w1.1]) (st := []) dX4_readReference_65 meX0_emitReference mlX4_158 imX0_emitReference seX0_emitReference clsX0 rfl (by omega) (Nat.le_of_ble_eq_true rfl) rfl rfl h (fun v hv => lift_X0_emitReference hv) (fun w9 h => ?_)
        exact V.vret dX4_readReference_68 rfl h
      · refine V.aload_n (n := 1) dX4_readReference_23 rfl rfl ?_
        refine V.getR dX4_readReference_24 lkX4_18 rfl rfl h (fun x10 h => ?_)
        refine V.iconst (x := 3) dX4_readReference_27 (by decide) rfl ?_
        refine V.iload_n (n := 2) dX4_readReference_28 rfl rfl ?_
        refine V.lload_n (n := 0) dX4_readReference_29 rfl rfl ?_
        refine V.callVv (d' := 1) (as := [vI (3 : Int32), vI v1, vL w1.1]) (st := []) dX4_readReference_30 meX0_emitReference mlX4_158 imX0_emitReference seX0_emitReference clsX0 rfl (by omega) (Nat.le_of_ble_eq_true rfl) rfl rfl h (fun v hv => lift_X0_emitReference hv) (fun w11 h => ?_)
        exact V.vret dX4_readReference_33 rfl h
    · exact V.vret dX4_readReference_13 rfl h
  exact hh
def J_X4_readSetting_29 (v0 : Option Nat) (v1 : Int32) (M : Mem) : Option (Unit × Mem) :=
  (fI M 4 2 v0).bind fun x1 =>
  (pI M 4 2 v0 (x1 + (1 : Int32))).bind fun M2 =>
  if ¬ v1 = (307 : Int32) then
  ((fR M2 4 1 v0).bind fun x3 =>
  (ck M2 0 x3).bind fun _ => (L_X0_emit x3 (2 : Int32) ((v1 - (308 : Int32)).toInt64) M2).bind fun w4 =>
  some ((), w4.2))
  else
  ((fR M2 4 1 v0).bind fun x5 =>
  (ck M2 0 x5).bind fun _ => (L_X0_emit x5 (1 : Int32) (0 : Int64) M2).bind fun w6 =>
  some ((), w6.2))
set_option maxRecDepth 20000 in
set_option maxHeartbeats 4000000 in
theorem lab_X4_readSetting_29 {G : Gt} {M0 M9 : Mem} {x9 : Unit} {v0 : Option Nat} {v1 : Int32} {M : Mem} (h : J_X4_readSetting_29 v0 v1 M = some (x9, M9)) : V G mX4_readSetting 1 M0 none M9 M 29 [(0, vR v0), (1, vI v1)] [] := by
  unfold J_X4_readSetting_29 at h
  refine V.aload_n (n := 0) dX4_readSetting_29 rfl rfl ?_
  refine V.dup dX4_readSetting_30 rfl rfl ?_
  refine V.getI dX4_readSetting_31 lkX4_37 rfl rfl h (fun x1 h => ?_)
  refine V.iconst (x := 1) dX4_readSetting_34 (by decide) rfl ?_
  refine V.iadd dX4_readSetting_35 rfl ?_
  refine V.putI dX4_readSetting_36 lkX4_37 (Or.inl rfl) rfl rfl h (fun M2 h => ?_)
  refine V.iload_n (n := 1) dX4_readSetting_39 rfl rfl ?_
  refine V.sipush (x := 307) dX4_readSetting_40 (by decide) rfl ?_
  refine V.icmp_ne (q := 59) dX4_readSetting_43 (by decide) rfl h (fun h => ?_) (fun h => ?_)
  · refine V.aload_n (n := 0) dX4_readSetting_59 rfl rfl ?_
    refine V.getR dX4_readSetting_60 lkX4_18 rfl rfl h (fun x3 h => ?_)
    refine V.iconst (x := 2) dX4_readSetting_63 (by decide) rfl ?_
    refine V.iload_n (n := 1) dX4_readSetting_64 rfl rfl ?_
    refine V.sipush (x := 308) dX4_readSetting_65 (by decide) rfl ?_
    refine V.isub dX4_readSetting_68 rfl ?_
    refine V.i2l dX4_readSetting_69 rfl ?_
    refine V.callVi (d' := 0) (as := [vI (2 : Int32), vL ((v1 - (308 : Int32)).toInt64)]) (st := []) dX4_readSetting_70 meX0_emit mlX4_67 imX0_emit seX0_emit clsX0 rfl (by omega) (Nat.le_of_ble_eq_true rfl) rfl rfl h (fun v hv => lift_X0_emit hv) (fun w4 h => ?_)
    refine V.pop dX4_readSetting_73 rfl rfl ?_
    exact V.vret dX4_readSetting_74 rfl h
  · refine V.aload_n (n := 0) dX4_readSetting_46 rfl rfl ?_
    refine V.getR dX4_readSetting_47 lkX4_18 rfl rfl h (fun x5 h => ?_)
    refine V.iconst (x := 1) dX4_readSetting_50 (by decide) rfl ?_
    refine V.lconst (x := 0) dX4_readSetting_51 (by decide) rfl ?_
    refine V.callVi (d' := 0) (as := [vI (1 : Int32), vL (0 : Int64)]) (st := []) dX4_readSetting_52 meX0_emit mlX4_67 imX0_emit seX0_emit clsX0 rfl (by omega) (Nat.le_of_ble_eq_true rfl) rfl rfl h (fun v hv => lift_X0_emit hv) (fun w6 h => ?_)
    refine V.pop dX4_readSetting_55 rfl rfl ?_
    refine V.goto (q := 74) dX4_readSetting_56 (by decide) ?_
    exact V.vret dX4_readSetting_74 rfl h
def J_X4_readSetting_16 (v0 : Option Nat) (v1 : Int32) (s0 : Int32) (s1 : Int32) (M : Mem) : Option (Unit × Mem) :=
  if s0 = s1 then
  (J_X4_readSetting_29 v0 v1 M)
  else
  ((ck M 4 v0).bind fun _ => (L_X4_place v0 M).bind fun w7 =>
  (ck w7.2 4 v0).bind fun _ => (L_X4_note v0 (6 : Int32) w7.1 w7.2).bind fun w8 =>
  J_X4_readSetting_29 v0 v1 w8.2)
set_option maxRecDepth 20000 in
set_option maxHeartbeats 4000000 in
theorem lab_X4_readSetting_16 {G : Gt} {M0 M9 : Mem} {x9 : Unit} {v0 : Option Nat} {v1 : Int32} {s0 : Int32} {s1 : Int32} {M : Mem} (h : J_X4_readSetting_16 v0 v1 s0 s1 M = some (x9, M9)) : V G mX4_readSetting 1 M0 none M9 M 16 [(0, vR v0), (1, vI v1)] [vI s1, vI s0] := by
  unfold J_X4_readSetting_16 at h
  refine V.icmp_eq (q := 29) dX4_readSetting_16 (by decide) rfl h (fun h => ?_) (fun h => ?_)
  · exact (lab_X4_readSetting_29 h)
  · refine V.aload_n (n := 0) dX4_readSetting_19 rfl rfl ?_
    refine V.bipush (x := 6) dX4_readSetting_20 (by decide) rfl ?_
    refine V.aload_n (n := 0) dX4_readSetting_22 rfl rfl ?_
    refine V.callVi (d' := 0) (as := []) (st := [vI (6 : Int32), vR v0]) dX4_readSetting_23 meX4_place mlX4_96 imX4_place seX4_place clsX4 rfl (by omega) (Nat.le_of_ble_eq_true rfl) rfl rfl h (fun v hv => lift_X4_place hv) (fun w7 h => ?_)
    refine V.callVv (d' := 0) (as := [vI (6 : Int32), vI w7.1]) (st := []) dX4_readSetting_26 meX4_note mlX4_118 imX4_note seX4_note clsX4 rfl (by omega) (Nat.le_of_ble_eq_true rfl) rfl rfl h (fun v hv => lift_X4_note hv) (fun w8 h => ?_)
    exact (lab_X4_readSetting_29 h)
def L_X4_readSetting (v0 : Option Nat) (v1 : Int32) (M : Mem) : Option (Unit × Mem) :=
  (fI M 4 4 v0).bind fun x9 =>
  if ¬ v1 = (307 : Int32) then
  (J_X4_readSetting_16 v0 v1 x9 (2 : Int32) M)
  else
  (J_X4_readSetting_16 v0 v1 x9 (1 : Int32) M)
set_option maxRecDepth 20000 in
set_option maxHeartbeats 4000000 in
theorem lift_X4_readSetting {G : Gt} {M M9 : Mem} {x9 : Unit} {v0 : Option Nat} {v1 : Int32} (h : L_X4_readSetting v0 v1 M = some (x9, M9)) : Mt G mX4_readSetting 1 [vR v0, vI v1] M none M9 := by
  unfold L_X4_readSetting at h
  refine Mt.of (by decide +kernel) (Nat.le_of_ble_eq_true rfl) ?_
  have hh : V G mX4_readSetting 1 M none M9 M 0 [(0, vR v0), (1, vI v1)] [] := by
    refine V.aload_n (n := 0) dX4_readSetting_0 rfl rfl ?_
    refine V.getI dX4_readSetting_1 lkX4_43 rfl rfl h (fun x9 h => ?_)
    refine V.iload_n (n := 1) dX4_readSetting_4 rfl rfl ?_
    refine V.sipush (x := 307) dX4_readSetting_5 (by decide) rfl ?_
    refine V.icmp_ne (q := 15) dX4_readSetting_8 (by decide) rfl h (fun h => ?_) (fun h => ?_)
    · refine V.iconst (x := 2) dX4_readSetting_15 (by decide) rfl ?_
      exact (lab_X4_readSetting_16 h)
    · refine V.iconst (x := 1) dX4_readSetting_11 (by decide) rfl ?_
      refine V.goto (q := 16) dX4_readSetting_12 (by decide) ?_
      exact (lab_X4_readSetting_16 h)
  exact hh
def J_X4_readOperand_101 (rF : Option Nat → Int32 → Mem → Option (Unit × Mem)) (v0 : Option Nat) (v2 : Int32) (M : Mem) : Option (Unit × Mem) :=
  if v2 = 0 then
  (some ((), M))
  else
  ((fR M 4 1 v0).bind fun x1 =>
  (ck M 0 x1).bind fun _ => (L_X0_emit x1 (5 : Int32) (0 : Int64) M).bind fun w2 =>
  some ((), w2.2))
set_option maxRecDepth 20000 in
set_option maxHeartbeats 4000000 in
theorem lab_X4_readOperand_101 {G : Gt} {M0 M9 : Mem} {x9 : Unit} {dr : Nat} {rF : Option Nat → Int32 → Mem → Option (Unit × Mem)} (hrF : ∀ (a0 : Option Nat) (a1 : Int32) (Ma : Mem) (v : Unit × Mem), rF a0 a1 Ma = some v → Mt G mX4_readChoice dr [vR a0, vI a1] Ma none v.2) {v0 : Option Nat} {v2 : Int32} {M : Mem} (h : J_X4_readOperand_101 rF v0 v2 M = some (x9, M9)) : V G mX4_readOperand (dr + 3) M0 none M9 M 101 [(0, vR v0), (2, vI v2)] [] := by
  unfold J_X4_readOperand_101 at h
  refine V.iload_n (n := 1) dX4_readOperand_101 rfl rfl ?_
  refine V.if_eq (q := 115) dX4_readOperand_102 (by decide) rfl h (fun h => ?_) (fun h => ?_)
  · exact V.vret dX4_readOperand_115 rfl h
  · refine V.aload_n (n := 0) dX4_readOperand_105 rfl rfl ?_
    refine V.getR dX4_readOperand_106 lkX4_18 rfl rfl h (fun x1 h => ?_)
    refine V.iconst (x := 5) dX4_readOperand_109 (by decide) rfl ?_
    refine V.lconst (x := 0) dX4_readOperand_110 (by decide) rfl ?_
    refine V.callVi (d' := 0) (as := [vI (5 : Int32), vL (0 : Int64)]) (st := []) dX4_readOperand_111 meX0_emit mlX4_67 imX0_emit seX0_emit clsX0 rfl (by omega) (Nat.le_of_ble_eq_true rfl) rfl rfl h (fun v hv => lift_X0_emit hv) (fun w2 h => ?_)
    refine V.pop dX4_readOperand_114 rfl rfl ?_
    exact V.vret dX4_readOperand_115 rfl h
def J_X4_readOperand_34 (rF : Option Nat → Int32 → Mem → Option (Unit × Mem)) (v0 : Option Nat) (v2 : Int32) (M : Mem) : Option (Unit × Mem) :=
  J_X4_readOperand_101 rF v0 v2 M
set_option maxRecDepth 20000 in
set_option maxHeartbeats 4000000 in
theorem lab_X4_readOperand_34 {G : Gt} {M0 M9 : Mem} {x9 : Unit} {dr : Nat} {rF : Option Nat → Int32 → Mem → Option (Unit × Mem)} (hrF : ∀ (a0 : Option Nat) (a1 : Int32) (Ma : Mem) (v : Unit × Mem), rF a0 a1 Ma = some v → Mt G mX4_readChoice dr [vR a0, vI a1] Ma none v.2) {v0 : Option Nat} {v2 : Int32} {M : Mem} (h : J_X4_readOperand_34 rF v0 v2 M = some (x9, M9)) : V G mX4_readOperand (dr + 3) M0 none M9 M 34 [(0, vR v0), (2, vI v2)] [] := by
  unfold J_X4_readOperand_34 at h
  refine V.goto (q := 101) dX4_readOperand_34 (by decide) ?_
  exact (lab_X4_readOperand_101 hrF h)
def J_X4_readOperand_92 (rF : Option Nat → Int32 → Mem → Option (Unit × Mem)) (v0 : Option Nat) (v1 : Int32) (v2 : Int32) (M : Mem) : Option (Unit × Mem) :=
  (fI M 4 3 v0).bind fun x3 =>
  (ck M 4 v0).bind fun _ => (L_X4_readReference rF v0 x3 v1 M).bind fun w4 =>
  J_X4_readOperand_101 rF v0 v2 w4.2
set_option maxRecDepth 20000 in
set_option maxHeartbeats 4000000 in
theorem lab_X4_readOperand_92 {G : Gt} {M0 M9 : Mem} {x9 : Unit} {dr : Nat} {rF : Option Nat → Int32 → Mem → Option (Unit × Mem)} (hrF : ∀ (a0 : Option Nat) (a1 : Int32) (Ma : Mem) (v : Unit × Mem), rF a0 a1 Ma = some v → Mt G mX4_readChoice dr [vR a0, vI a1] Ma none v.2) {v0 : Option Nat} {v1 : Int32} {v2 : Int32} {M : Mem} (h : J_X4_readOperand_92 rF v0 v1 v2 M = some (x9, M9)) : V G mX4_readOperand (dr + 3) M0 none M9 M 92 [(0, vR v0), (1, vI v1), (2, vI v2)] [] := by
  unfold J_X4_readOperand_92 at h
  refine V.aload_n (n := 0) dX4_readOperand_92 rfl rfl ?_
  refine V.aload_n (n := 0) dX4_readOperand_93 rfl rfl ?_
  refine V.getI dX4_readOperand_94 lkX4_40 rfl rfl h (fun x3 h => ?_)
  refine V.iload_n (n := 1) dX4_readOperand_97 rfl rfl ?_
  refine V.callVv (d' := dr + 2) (as := [vI x3, vI v1]) (st := []) dX4_readOperand_98 meX4_readReference mlX4_219 imX4_readReference seX4_readReference clsX4 rfl (by omega) (Nat.le_of_ble_eq_true rfl) rfl rfl h (fun v hv => lift_X4_readReference hrF hv) (fun w4 h => ?_)
  exact V.sub [0, 2] rfl (lab_X4_readOperand_101 hrF h)
def L_X4_readOperand (rF : Option Nat → Int32 → Mem → Option (Unit × Mem)) (v0 : Option Nat) (v1 : Int32) (M : Mem) : Option (Unit × Mem) :=
  (ck M 4 v0).bind fun _ => (L_X4_takeMinus v0 M).bind fun w5 =>
  (ck w5.2 4 v0).bind fun _ => (L_X4_kind v0 w5.2).bind fun w6 =>
  if ¬ w6.1 = (3 : Int32) then
  (if ¬ w6.1 = (40 : Int32) then
  (if w6.1 < (307 : Int32) then
  (J_X4_readOperand_92 rF v0 v1 w5.1 w6.2)
  else
  (if (311 : Int32) < w6.1 then
  (J_X4_readOperand_92 rF v0 v1 w5.1 w6.2)
  else
  ((ck w6.2 4 v0).bind fun _ => (L_X4_readSetting v0 w6.1 w6.2).bind fun w7 =>
  J_X4_readOperand_101 rF v0 w5.1 w7.2)))
  else
  ((fI w6.2 4 2 v0).bind fun x8 =>
  (pI w6.2 4 2 v0 (x8 + (1 : Int32))).bind fun M9 =>
  (ck M9 4 v0).bind fun _ => (rF v0 (v1 + (1 : Int32)) M9).bind fun w10 =>
  (ck w10.2 4 v0).bind fun _ => (L_X4_take v0 (41 : Int32) w10.2).bind fun w11 =>
  J_X4_readOperand_101 rF v0 w5.1 w11.2))
  else
  ((ck w6.2 4 v0).bind fun _ => (L_X4_readNumberOrYear v0 w6.2).bind fun w12 =>
  if w12.1 = (-1 : Int32) then
  (J_X4_readOperand_34 rF v0 w5.1 w12.2)
  else
  ((ck w12.2 4 v0).bind fun _ => (L_X4_readReference rF v0 w12.1 v1 w12.2).bind fun w13 =>
  J_X4_readOperand_34 rF v0 w5.1 w13.2))
set_option maxRecDepth 20000 in
set_option maxHeartbeats 4000000 in
theorem lift_X4_readOperand {G : Gt} {M M9 : Mem} {x9 : Unit} {v0 : Option Nat} {v1 : Int32} {dr : Nat} {rF : Option Nat → Int32 → Mem → Option (Unit × Mem)} (hrF : ∀ (a0 : Option Nat) (a1 : Int32) (Ma : Mem) (v : Unit × Mem), rF a0 a1 Ma = some v → Mt G mX4_readChoice dr [vR a0, vI a1] Ma none v.2) (h : L_X4_readOperand rF v0 v1 M = some (x9, M9)) : Mt G mX4_readOperand (dr + 3) [vR v0, vI v1] M none M9 := by
  unfold L_X4_readOperand at h
  refine Mt.of (by decide +kernel) (Nat.le_of_ble_eq_true rfl) ?_
  have hh : V G mX4_readOperand (dr + 3) M none M9 M 0 [(0, vR v0), (1, vI v1)] [] := by
    refine V.aload_n (n := 0) dX4_readOperand_0 rfl rfl ?_
    refine V.callVi (d' := 1) (as := []) (st := []) dX4_readOperand_1 meX4_takeMinus mlX4_148 imX4_takeMinus seX4_takeMinus clsX4 rfl (by omega) (Nat.le_of_ble_eq_true rfl) rfl rfl h (fun v hv => lift_X4_takeMinus hv) (fun w5 h => ?_)
    refine V.istore_n dX4_readOperand_4 rfl (by decide) rfl rfl ?_
    refine V.aload_n (n := 1) dX4_readOperand_5 rfl rfl ?_
    refine V.callVi (d' := 0) (as := []) (st := []) dX4_readOperand_6 meX4_kind mlX4_53 imX4_kind seX4_kind clsX4 rfl (by omega) (Nat.le_of_ble_eq_true rfl) rfl rfl h (fun v hv => lift_X4_kind hv) (fun w6 h => ?_)
    refine V.istore_n dX4_readOperand_9 rfl (by decide) rfl rfl ?_
    refine V.iload_n (n := 0) dX4_readOperand_10 rfl rfl ?_
    refine V.iconst (x := 3) dX4_readOperand_11 (by decide) rfl ?_
    refine V.icmp_ne (q := 37) dX4_readOperand_12 (by decide) rfl h (fun h => ?_) (fun h => ?_)
    · refine V.iload_n (n := 0) dX4_readOperand_37 rfl rfl ?_
      refine V.bipush (x := 40) dX4_readOperand_38 (by decide) rfl ?_
      refine V.icmp_ne (q := 70) dX4_readOperand_40 (by decide) rfl h (fun h => ?_) (fun h => ?_)
      · refine V.iload_n (n := 0) dX4_readOperand_70 rfl rfl ?_
        refine V.sipush (x := 307) dX4_readOperand_71 (by decide) rfl ?_
        refine V.icmp_lt (q := 92) dX4_readOperand_74 (by decide) rfl h (fun h => ?_) (fun h => ?_)
        · exact V.sub [2, 3, 1] rfl (lab_X4_readOperand_92 hrF h)
        · refine V.iload_n (n := 0) dX4_readOperand_77 rfl rfl ?_
          refine V.sipush (x := 311) dX4_readOperand_78 (by decide) rfl ?_
          refine V.icmp_gt (q := 92) dX4_readOperand_81 (by decide) rfl h (fun h => ?_) (fun h => ?_)
          · exact V.sub [2, 3, 1] rfl (lab_X4_readOperand_92 hrF h)
          · refine V.aload_n (n := 2) dX4_readOperand_84 rfl rfl ?_
            refine V.iload_n (n := 0) dX4_readOperand_85 rfl rfl ?_
            refine V.callVv (d' := 1) (as := [vI w6.1]) (st := []) dX4_readOperand_86 meX4_readSetting mlX4_222 imX4_readSetting seX4_readSetting clsX4 rfl (by omega) (Nat.le_of_ble_eq_true rfl) rfl rfl h (fun v hv => lift_X4_readSetting hv) (fun w7 h => ?_)
            refine V.goto (q := 101) dX4_readOperand_89 (by decide) ?_
            exact V.sub [2, 1] rfl (lab_X4_readOperand_101 hrF h)
      · refine V.aload_n (n := 2) dX4_readOperand_43 rfl rfl ?_
        refine V.dup dX4_readOperand_44 rfl rfl ?_
        refine V.getI dX4_readOperand_45 lkX4_37 rfl rfl h (fun x8 h => ?_)
        refine V.iconst (x := 1) dX4_readOperand_48 (by decide) rfl ?_
        refine V.iadd dX4_readOperand_49 rfl ?_
        refine V.putI dX4_readOperand_50 lkX4_37 (Or.inl rfl) rfl rfl h (fun M9 h => ?_)
        refine V.aload_n (n := 2) dX4_readOperand_53 rfl rfl ?_
        refine V.iload_n (n := 3) dX4_readOperand_54 rfl rfl ?_
        refine V.iconst (x := 1) dX4_readOperand_55 (by decide) rfl ?_
        refine V.iadd dX4_readOperand_56 rfl ?_
        refine V.callVv (d' := dr) (as := [vI (v1 + (1 : Int32))]) (st := []) dX4_readOperand_57 meX4_readChoice mlX4_166 imX4_readChoice seX4_readChoice clsX4 rfl (by omega) (Nat.le_of_ble_eq_true rfl) rfl rfl h (fun v hv => hrF _ _ _ v hv) (fun w10 h => ?_)
        refine V.aload_n (n := 2) dX4_readOperand_60 rfl rfl ?_
        refine V.bipush (x := 41) dX4_readOperand_61 (by decide) rfl ?_
        refine V.callVi (d' := 1) (as := [vI (41 : Int32)]) (st := []) dX4_readOperand_63 meX4_take mlX4_103 imX4_take seX4_take clsX4 rfl (by omega) (Nat.le_of_ble_eq_true rfl) rfl rfl h (fun v hv => lift_X4_take hv) (fun w11 h => ?_)
        refine V.pop dX4_readOperand_66 rfl rfl ?_
        refine V.goto (q := 101) dX4_readOperand_67 (by decide) ?_
        exact V.sub [2, 1] rfl (lab_X4_readOperand_101 hrF h)
    · refine V.aload_n (n := 2) dX4_readOperand_15 rfl rfl ?_
      refine V.callVi (d' := 2) (as := []) (st := []) dX4_readOperand_16 meX4_readNumberOrYear mlX4_152 imX4_readNumberOrYear seX4_readNumberOrYear clsX4 rfl (by omega) (Nat.le_of_ble_eq_true rfl) rfl rfl h (fun v hv => lift_X4_readNumberOrYear hv) (fun w12 h => ?_)
      refine V.istore dX4_readOperand_19 (by decide) rfl rfl ?_
      refine V.iload (n := 0) dX4_readOperand_21 rfl rfl ?_
      refine V.iconst (x := (-1)) dX4_readOperand_23 (by decide) rfl ?_
      refine V.icmp_eq (q := 34) dX4_readOperand_24 (by decide) rfl h (fun h => ?_) (fun h => ?_)
      · exact V.sub [3, 2] rfl (lab_X4_readOperand_34 hrF h)
      · refine V.aload_n (n := 3) dX4_readOperand_27 rfl rfl ?_
        refine V.iload (n := 0) dX4_readOperand_28 rfl rfl ?_
        refine V.iload_n (n := 4) dX4_readOperand_30 rfl rfl ?_
        refine V.callVv (d' := dr + 2) (as := [vI w12.1, vI v1]) (st := []) dX4_readOperand_31 meX4_readReference mlX4_219 imX4_readReference seX4_readReference clsX4 rfl (by omega) (Nat.le_of_ble_eq_true rfl) rfl rfl h (fun v hv => lift_X4_readReference hrF hv) (fun w13 h => ?_)
        exact V.sub [3, 2] rfl (lab_X4_readOperand_34 hrF h)
  exact hh
def L_X4_factor (v0 : Int32) (M : Mem) : Option (Int32 × Mem) :=
  if v0 = 37 then
  (some ((10 : Int32), M))
  else
  if v0 = 42 then
  (some ((8 : Int32), M))
  else
  if v0 = 47 then
  (some ((9 : Int32), M))
  else
  (some ((-1 : Int32), M))
set_option maxRecDepth 20000 in
set_option maxHeartbeats 4000000 in
theorem lift_X4_factor {G : Gt} {M M9 : Mem} {x9 : Int32} {v0 : Int32} (h : L_X4_factor v0 M = some (x9, M9)) : Mt G mX4_factor 0 [vI v0] M (some (vI x9)) M9 := by
  unfold L_X4_factor at h
  refine Mt.of (by decide +kernel) (Nat.le_of_ble_eq_true rfl) ?_
  have hh : V G mX4_factor 0 M (some (vI x9)) M9 M 0 [(0, vI v0)] [] := by
    refine V.iload_n (n := 0) dX4_factor_0 rfl rfl ?_
    refine V.sw h (fun hx h => ?_) (fun n37 h => ?_)
    · refine V.swt hx ?_
      refine V.lookup (q := 42) (x := 37) (off := 41) dX4_factor_1 (by decide) (by decide) (by decide) ?_
      refine V.bipush (x := 10) dX4_factor_42 (by decide) rfl ?_
      exact V.iret dX4_factor_44 rfl h
    refine V.sw h (fun hx h => ?_) (fun n42 h => ?_)
    · refine V.swt hx ?_
      refine V.lookup (q := 36) (x := 42) (off := 35) dX4_factor_1 (by decide) (by decide) (by decide) ?_
      refine V.bipush (x := 8) dX4_factor_36 (by decide) rfl ?_
      exact V.iret dX4_factor_38 rfl h
    refine V.sw h (fun hx h => ?_) (fun n47 h => ?_)
    · refine V.swt hx ?_
      refine V.lookup (q := 39) (x := 47) (off := 38) dX4_factor_1 (by decide) (by decide) (by decide) ?_
      refine V.bipush (x := 9) dX4_factor_39 (by decide) rfl ?_
      exact V.iret dX4_factor_41 rfl h
    have e37 := sw_ne n37
    have e42 := sw_ne n42
    have e47 := sw_ne n47
    have t37 : (37 : Int32).toInt = 37 := by decide
    have t42 : (42 : Int32).toInt = 42 := by decide
    have t47 : (47 : Int32).toInt = 47 := by decide
    rw [t37] at e37
    rw [t42] at e42
    rw [t47] at e47
    refine V.lookup (q := 45) (off := 44) dX4_factor_1 (by decide) (by simp [Op.lookupswitch.offset, Ne.symm e37, e37, Ne.symm e42, e42, Ne.symm e47, e47]) (by decide) ?_
    refine V.iconst (x := (-1)) dX4_factor_45 (by decide) rfl ?_
    exact V.iret dX4_factor_46 rfl h
  exact hh
def J_X4_readProduct_15 (rF : Option Nat → Int32 → Mem → Option (Unit × Mem)) : Nat → Option Nat → Int32 → Int32 → Int32 → Mem → Option (Unit × Mem)
  | 0 => fun _ _ _ _ _ => none
  | n + 1 => fun v0 v1 v2 v3 M =>
  if (900 : Int32) ≤ v3 then
  (some ((), M))
  else
  (if v2 = (-1 : Int32) then
  (some ((), M))
  else
  ((fI M 4 2 v0).bind fun x1 =>
  (pI M 4 2 v0 (x1 + (1 : Int32))).bind fun M2 =>
  (ck M2 4 v0).bind fun _ => (L_X4_readOperand rF v0 v1 M2).bind fun w3 =>
  (fR w3.2 4 1 v0).bind fun x4 =>
  (ck w3.2 0 x4).bind fun _ => (L_X0_emit x4 v2 (0 : Int64) w3.2).bind fun w5 =>
  (ck w5.2 4 v0).bind fun _ => (L_X4_kind v0 w5.2).bind fun w6 =>
  (L_X4_factor w6.1 w6.2).bind fun w7 =>
  J_X4_readProduct_15 rF n v0 v1 w7.1 (v3 + 1) w7.2))
set_option maxRecDepth 20000 in
set_option maxHeartbeats 4000000 in
theorem lab_X4_readProduct_15 {G : Gt} {M0 M9 : Mem} {x9 : Unit} {dr : Nat} {rF : Option Nat → Int32 → Mem → Option (Unit × Mem)} (hrF : ∀ (a0 : Option Nat) (a1 : Int32) (Ma : Mem) (v : Unit × Mem), rF a0 a1 Ma = some v → Mt G mX4_readChoice dr [vR a0, vI a1] Ma none v.2) : ∀ (n : Nat) (v0 : Option Nat) (v1 : Int32) (v2 : Int32) (v3 : Int32) (M : Mem), J_X4_readProduct_15 rF n v0 v1 v2 v3 M = some (x9, M9) → V G mX4_readProduct (dr + 4) M0 none M9 M 15 [(0, vR v0), (1, vI v1), (2, vI v2), (3, vI v3)] [] := by
  intro n
  induction n with
  | zero => intro v0 v1 v2 v3 M h; exact nomatch h
  | succ n ih =>
    intro v0 v1 v2 v3 M h
    unfold J_X4_readProduct_15 at h
    refine V.iload_n (n := 3) dX4_readProduct_15 rfl rfl ?_
    refine V.sipush (x := 900) dX4_readProduct_16 (by decide) rfl ?_
    refine V.icmp_ge (q := 66) dX4_readProduct_19 (by decide) rfl h (fun h => ?_) (fun h => ?_)
    · exact V.vret dX4_readProduct_66 rfl h
    · refine V.iload_n (n := 2) dX4_readProduct_22 rfl rfl ?_
      refine V.iconst (x := (-1)) dX4_readProduct_23 (by decide) rfl ?_
      refine V.icmp_eq (q := 66) dX4_readProduct_24 (by decide) rfl h (fun h => ?_) (fun h => ?_)
      · exact V.vret dX4_readProduct_66 rfl h
      · refine V.aload_n (n := 0) dX4_readProduct_27 rfl rfl ?_
        refine V.dup dX4_readProduct_28 rfl rfl ?_
        refine V.getI dX4_readProduct_29 lkX4_37 rfl rfl h (fun x1 h => ?_)
        refine V.iconst (x := 1) dX4_readProduct_32 (by decide) rfl ?_
        refine V.iadd dX4_readProduct_33 rfl ?_
        refine V.putI dX4_readProduct_34 lkX4_37 (Or.inl rfl) rfl rfl h (fun M2 h => ?_)
        refine V.aload_n (n := 0) dX4_readProduct_37 rfl rfl ?_
        refine V.iload_n (n := 1) dX4_readProduct_38 rfl rfl ?_
        refine V.callVv (d' := dr + 3) (as := [vI v1]) (st := []) dX4_readProduct_39 meX4_readOperand mlX4_213 imX4_readOperand seX4_readOperand clsX4 rfl (by omega) (Nat.le_of_ble_eq_true rfl) rfl rfl h (fun v hv => lift_X4_readOperand hrF hv) (fun w3 h => ?_)
        refine V.aload_n (n := 0) dX4_readProduct_42 rfl rfl ?_
        refine V.getR dX4_readProduct_43 lkX4_18 rfl rfl h (fun x4 h => ?_)
        refine V.iload_n (n := 2) dX4_readProduct_46 rfl rfl ?_
        refine V.lconst (x := 0) dX4_readProduct_47 (by decide) rfl ?_
        refine V.callVi (d' := 0) (as := [vI v2, vL (0 : Int64)]) (st := []) dX4_readProduct_48 meX0_emit mlX4_67 imX0_emit seX0_emit clsX0 rfl (by omega) (Nat.le_of_ble_eq_true rfl) rfl rfl h (fun v hv => lift_X0_emit hv) (fun w5 h => ?_)
        refine V.pop dX4_readProduct_51 rfl rfl ?_
        refine V.aload_n (n := 0) dX4_readProduct_52 rfl rfl ?_
        refine V.callVi (d' := 0) (as := []) (st := []) dX4_readProduct_53 meX4_kind mlX4_53 imX4_kind seX4_kind clsX4 rfl (by omega) (Nat.le_of_ble_eq_true rfl) rfl rfl h (fun v hv => lift_X4_kind hv) (fun w6 h => ?_)
        refine V.callSi (d' := 0) (as := [vI w6.1]) (st := []) dX4_readProduct_56 meX4_factor mlX4_216 smX4_factor rfl (by omega) (Nat.le_of_ble_eq_true rfl) rfl rfl h (fun v hv => lift_X4_factor hv) (fun w7 h => ?_)
        refine V.istore_n dX4_readProduct_59 rfl (by decide) rfl rfl ?_
        refine V.iinc (n := 3) (x := v3 + 1) dX4_readProduct_60 rfl (by rfl) (by decide) rfl rfl ?_
        refine V.goto (q := 15) dX4_readProduct_63 (by decide) ?_
        exact V.sub [2, 3, 1, 0] rfl (ih _ _ _ _ _ h)
def L_X4_readProduct (rF : Option Nat → Int32 → Mem → Option (Unit × Mem)) (v0 : Option Nat) (v1 : Int32) (M : Mem) : Option (Unit × Mem) :=
  (ck M 4 v0).bind fun _ => (L_X4_readOperand rF v0 v1 M).bind fun w8 =>
  (ck w8.2 4 v0).bind fun _ => (L_X4_kind v0 w8.2).bind fun w9 =>
  (L_X4_factor w9.1 w9.2).bind fun w10 =>
  J_X4_readProduct_15 rF FU v0 v1 w10.1 (0 : Int32) w10.2
set_option maxRecDepth 20000 in
set_option maxHeartbeats 4000000 in
theorem lift_X4_readProduct {G : Gt} {M M9 : Mem} {x9 : Unit} {v0 : Option Nat} {v1 : Int32} {dr : Nat} {rF : Option Nat → Int32 → Mem → Option (Unit × Mem)} (hrF : ∀ (a0 : Option Nat) (a1 : Int32) (Ma : Mem) (v : Unit × Mem), rF a0 a1 Ma = some v → Mt G mX4_readChoice dr [vR a0, vI a1] Ma none v.2) (h : L_X4_readProduct rF v0 v1 M = some (x9, M9)) : Mt G mX4_readProduct (dr + 4) [vR v0, vI v1] M none M9 := by
  unfold L_X4_readProduct at h
  refine Mt.of (by decide +kernel) (Nat.le_of_ble_eq_true rfl) ?_
  have hh : V G mX4_readProduct (dr + 4) M none M9 M 0 [(0, vR v0), (1, vI v1)] [] := by
    refine V.aload_n (n := 0) dX4_readProduct_0 rfl rfl ?_
    refine V.iload_n (n := 1) dX4_readProduct_1 rfl rfl ?_
    refine V.callVv (d' := dr + 3) (as := [vI v1]) (st := []) dX4_readProduct_2 meX4_readOperand mlX4_213 imX4_readOperand seX4_readOperand clsX4 rfl (by omega) (Nat.le_of_ble_eq_true rfl) rfl rfl h (fun v hv => lift_X4_readOperand hrF hv) (fun w8 h => ?_)
    refine V.aload_n (n := 0) dX4_readProduct_5 rfl rfl ?_
    refine V.callVi (d' := 0) (as := []) (st := []) dX4_readProduct_6 meX4_kind mlX4_53 imX4_kind seX4_kind clsX4 rfl (by omega) (Nat.le_of_ble_eq_true rfl) rfl rfl h (fun v hv => lift_X4_kind hv) (fun w9 h => ?_)
    refine V.callSi (d' := 0) (as := [vI w9.1]) (st := []) dX4_readProduct_9 meX4_factor mlX4_216 smX4_factor rfl (by omega) (Nat.le_of_ble_eq_true rfl) rfl rfl h (fun v hv => lift_X4_factor hv) (fun w10 h => ?_)
    refine V.istore_n dX4_readProduct_12 rfl (by decide) rfl rfl ?_
    refine V.iconst (x := 0) dX4_readProduct_13 (by decide) rfl ?_
    refine V.istore_n dX4_readProduct_14 rfl (by decide) rfl rfl ?_
    exact V.sub [2, 3, 1, 0] rfl (lab_X4_readProduct_15 hrF FU _ _ _ _ _ h)
  exact hh
def J_X4_readSum_48 (rF : Option Nat → Int32 → Mem → Option (Unit × Mem)) (k_7 : Option Nat → Int32 → Int32 → Mem → Option (Unit × Mem)) (v0 : Option Nat) (v1 : Int32) (v2 : Int32) (s0 : Int32) (M : Mem) : Option (Unit × Mem) :=
  (fI M 4 2 v0).bind fun x1 =>
  (pI M 4 2 v0 (x1 + (1 : Int32))).bind fun M2 =>
  (ck M2 4 v0).bind fun _ => (L_X4_readProduct rF v0 v1 M2).bind fun w3 =>
  (fR w3.2 4 1 v0).bind fun x4 =>
  (ck w3.2 0 x4).bind fun _ => (L_X0_emit x4 s0 (0 : Int64) w3.2).bind fun w5 =>
  k_7 v0 v1 (v2 + 1) w5.2
set_option maxRecDepth 20000 in
set_option maxHeartbeats 4000000 in
theorem lab_X4_readSum_48 {G : Gt} {M0 M9 : Mem} {x9 : Unit} {dr : Nat} {rF : Option Nat → Int32 → Mem → Option (Unit × Mem)} (hrF : ∀ (a0 : Option Nat) (a1 : Int32) (Ma : Mem) (v : Unit × Mem), rF a0 a1 Ma = some v → Mt G mX4_readChoice dr [vR a0, vI a1] Ma none v.2) {k_7 : Option Nat → Int32 → Int32 → Mem → Option (Unit × Mem)} (hk_7 : ∀ (v0 : Option Nat) (v1 : Int32) (v2 : Int32) (Ma : Mem), k_7 v0 v1 v2 Ma = some (x9, M9) → V G mX4_readSum (dr + 5) M0 none M9 Ma 7 [(0, vR v0), (1, vI v1), (2, vI v2)] []) {v0 : Option Nat} {v1 : Int32} {v2 : Int32} {s0 : Int32} {M : Mem} (h : J_X4_readSum_48 rF k_7 v0 v1 v2 s0 M = some (x9, M9)) : V G mX4_readSum (dr + 5) M0 none M9 M 48 [(0, vR v0), (1, vI v1), (2, vI v2)] [vI s0] := by
  unfold J_X4_readSum_48 at h
  refine V.istore_n dX4_readSum_48 rfl (by decide) rfl rfl ?_
  refine V.aload_n (n := 1) dX4_readSum_49 rfl rfl ?_
  refine V.dup dX4_readSum_50 rfl rfl ?_
  refine V.getI dX4_readSum_51 lkX4_37 rfl rfl h (fun x1 h => ?_)
  refine V.iconst (x := 1) dX4_readSum_54 (by decide) rfl ?_
  refine V.iadd dX4_readSum_55 rfl ?_
  refine V.putI dX4_readSum_56 lkX4_37 (Or.inl rfl) rfl rfl h (fun M2 h => ?_)
  refine V.aload_n (n := 1) dX4_readSum_59 rfl rfl ?_
  refine V.iload_n (n := 2) dX4_readSum_60 rfl rfl ?_
  refine V.callVv (d' := dr + 4) (as := [vI v1]) (st := []) dX4_readSum_61 meX4_readProduct mlX4_210 imX4_readProduct seX4_readProduct clsX4 rfl (by omega) (Nat.le_of_ble_eq_true rfl) rfl rfl h (fun v hv => lift_X4_readProduct hrF hv) (fun w3 h => ?_)
  refine V.aload_n (n := 1) dX4_readSum_64 rfl rfl ?_
  refine V.getR dX4_readSum_65 lkX4_18 rfl rfl h (fun x4 h => ?_)
  refine V.iload_n (n := 0) dX4_readSum_68 rfl rfl ?_
  refine V.lconst (x := 0) dX4_readSum_69 (by decide) rfl ?_
  refine V.callVi (d' := 0) (as := [vI s0, vL (0 : Int64)]) (st := []) dX4_readSum_70 meX0_emit mlX4_67 imX0_emit seX0_emit clsX0 rfl (by omega) (Nat.le_of_ble_eq_true rfl) rfl rfl h (fun v hv => lift_X0_emit hv) (fun w5 h => ?_)
  refine V.pop dX4_readSum_73 rfl rfl ?_
  refine V.iinc (n := 3) (x := v2 + 1) dX4_readSum_74 rfl (by rfl) (by decide) rfl rfl ?_
  refine V.goto (q := 7) dX4_readSum_77 (by decide) ?_
  exact V.sub [2, 3, 0] rfl (hk_7 _ _ _ _ h)
def J_X4_readSum_32 (rF : Option Nat → Int32 → Mem → Option (Unit × Mem)) (k_7 : Option Nat → Int32 → Int32 → Mem → Option (Unit × Mem)) (v0 : Option Nat) (v1 : Int32) (v2 : Int32) (M : Mem) : Option (Unit × Mem) :=
  (ck M 4 v0).bind fun _ => (L_X4_kind v0 M).bind fun w6 =>
  if ¬ w6.1 = (43 : Int32) then
  (J_X4_readSum_48 rF k_7 v0 v1 v2 (7 : Int32) w6.2)
  else
  (J_X4_readSum_48 rF k_7 v0 v1 v2 (6 : Int32) w6.2)
set_option maxRecDepth 20000 in
set_option maxHeartbeats 4000000 in
theorem lab_X4_readSum_32 {G : Gt} {M0 M9 : Mem} {x9 : Unit} {dr : Nat} {rF : Option Nat → Int32 → Mem → Option (Unit × Mem)} (hrF : ∀ (a0 : Option Nat) (a1 : Int32) (Ma : Mem) (v : Unit × Mem), rF a0 a1 Ma = some v → Mt G mX4_readChoice dr [vR a0, vI a1] Ma none v.2) {k_7 : Option Nat → Int32 → Int32 → Mem → Option (Unit × Mem)} (hk_7 : ∀ (v0 : Option Nat) (v1 : Int32) (v2 : Int32) (Ma : Mem), k_7 v0 v1 v2 Ma = some (x9, M9) → V G mX4_readSum (dr + 5) M0 none M9 Ma 7 [(0, vR v0), (1, vI v1), (2, vI v2)] []) {v0 : Option Nat} {v1 : Int32} {v2 : Int32} {M : Mem} (h : J_X4_readSum_32 rF k_7 v0 v1 v2 M = some (x9, M9)) : V G mX4_readSum (dr + 5) M0 none M9 M 32 [(0, vR v0), (1, vI v1), (2, vI v2)] [] := by
  unfold J_X4_readSum_32 at h
  refine V.aload_n (n := 0) dX4_readSum_32 rfl rfl ?_
  refine V.callVi (d' := 0) (as := []) (st := []) dX4_readSum_33 meX4_kind mlX4_53 imX4_kind seX4_kind clsX4 rfl (by omega) (Nat.le_of_ble_eq_true rfl) rfl rfl h (fun v hv => lift_X4_kind hv) (fun w6 h => ?_)
  refine V.bipush (x := 43) dX4_readSum_36 (by decide) rfl ?_
  refine V.icmp_ne (q := 46) dX4_readSum_38 (by decide) rfl h (fun h => ?_) (fun h => ?_)
  · refine V.bipush (x := 7) dX4_readSum_46 (by decide) rfl ?_
    exact (lab_X4_readSum_48 hrF hk_7 h)
  · refine V.bipush (x := 6) dX4_readSum_41 (by decide) rfl ?_
    refine V.goto (q := 48) dX4_readSum_43 (by decide) ?_
    exact (lab_X4_readSum_48 hrF hk_7 h)
def J_X4_readSum_7 (rF : Option Nat → Int32 → Mem → Option (Unit × Mem)) : Nat → Option Nat → Int32 → Int32 → Mem → Option (Unit × Mem)
  | 0 => fun _ _ _ _ => none
  | n + 1 => fun v0 v1 v2 M =>
  if (900 : Int32) ≤ v2 then
  (some ((), M))
  else
  ((ck M 4 v0).bind fun _ => (L_X4_kind v0 M).bind fun w7 =>
  if w7.1 = (43 : Int32) then
  (J_X4_readSum_32 rF (J_X4_readSum_7 rF n) v0 v1 v2 w7.2)
  else
  ((ck w7.2 4 v0).bind fun _ => (L_X4_kind v0 w7.2).bind fun w8 =>
  if ¬ w8.1 = (45 : Int32) then
  (some ((), w8.2))
  else
  (J_X4_readSum_32 rF (J_X4_readSum_7 rF n) v0 v1 v2 w8.2)))
set_option maxRecDepth 20000 in
set_option maxHeartbeats 4000000 in
theorem lab_X4_readSum_7 {G : Gt} {M0 M9 : Mem} {x9 : Unit} {dr : Nat} {rF : Option Nat → Int32 → Mem → Option (Unit × Mem)} (hrF : ∀ (a0 : Option Nat) (a1 : Int32) (Ma : Mem) (v : Unit × Mem), rF a0 a1 Ma = some v → Mt G mX4_readChoice dr [vR a0, vI a1] Ma none v.2) : ∀ (n : Nat) (v0 : Option Nat) (v1 : Int32) (v2 : Int32) (M : Mem), J_X4_readSum_7 rF n v0 v1 v2 M = some (x9, M9) → V G mX4_readSum (dr + 5) M0 none M9 M 7 [(0, vR v0), (1, vI v1), (2, vI v2)] [] := by
  intro n
  induction n with
  | zero => intro v0 v1 v2 M h; exact nomatch h
  | succ n ih =>
    intro v0 v1 v2 M h
    unfold J_X4_readSum_7 at h
    refine V.iload_n (n := 2) dX4_readSum_7 rfl rfl ?_
    refine V.sipush (x := 900) dX4_readSum_8 (by decide) rfl ?_
    refine V.icmp_ge (q := 80) dX4_readSum_11 (by decide) rfl h (fun h => ?_) (fun h => ?_)
    · exact V.vret dX4_readSum_80 rfl h
    · refine V.aload_n (n := 0) dX4_readSum_14 rfl rfl ?_
      refine V.callVi (d' := 0) (as := []) (st := []) dX4_readSum_15 meX4_kind mlX4_53 imX4_kind seX4_kind clsX4 rfl (by omega) (Nat.le_of_ble_eq_true rfl) rfl rfl h (fun v hv => lift_X4_kind hv) (fun w7 h => ?_)
      refine V.bipush (x := 43) dX4_readSum_18 (by decide) rfl ?_
      refine V.icmp_eq (q := 32) dX4_readSum_20 (by decide) rfl h (fun h => ?_) (fun h => ?_)
      · exact (lab_X4_readSum_32 hrF ih h)
      · refine V.aload_n (n := 0) dX4_readSum_23 rfl rfl ?_
        refine V.callVi (d' := 0) (as := []) (st := []) dX4_readSum_24 meX4_kind mlX4_53 imX4_kind seX4_kind clsX4 rfl (by omega) (Nat.le_of_ble_eq_true rfl) rfl rfl h (fun v hv => lift_X4_kind hv) (fun w8 h => ?_)
        refine V.bipush (x := 45) dX4_readSum_27 (by decide) rfl ?_
        refine V.icmp_ne (q := 80) dX4_readSum_29 (by decide) rfl h (fun h => ?_) (fun h => ?_)
        · exact V.vret dX4_readSum_80 rfl h
        · exact (lab_X4_readSum_32 hrF ih h)
def L_X4_readSum (rF : Option Nat → Int32 → Mem → Option (Unit × Mem)) (v0 : Option Nat) (v1 : Int32) (M : Mem) : Option (Unit × Mem) :=
  (ck M 4 v0).bind fun _ => (L_X4_readProduct rF v0 v1 M).bind fun w9 =>
  J_X4_readSum_7 rF FU v0 v1 (0 : Int32) w9.2
set_option maxRecDepth 20000 in
set_option maxHeartbeats 4000000 in
theorem lift_X4_readSum {G : Gt} {M M9 : Mem} {x9 : Unit} {v0 : Option Nat} {v1 : Int32} {dr : Nat} {rF : Option Nat → Int32 → Mem → Option (Unit × Mem)} (hrF : ∀ (a0 : Option Nat) (a1 : Int32) (Ma : Mem) (v : Unit × Mem), rF a0 a1 Ma = some v → Mt G mX4_readChoice dr [vR a0, vI a1] Ma none v.2) (h : L_X4_readSum rF v0 v1 M = some (x9, M9)) : Mt G mX4_readSum (dr + 5) [vR v0, vI v1] M none M9 := by
  unfold L_X4_readSum at h
  refine Mt.of (by decide +kernel) (Nat.le_of_ble_eq_true rfl) ?_
  have hh : V G mX4_readSum (dr + 5) M none M9 M 0 [(0, vR v0), (1, vI v1)] [] := by
    refine V.aload_n (n := 0) dX4_readSum_0 rfl rfl ?_
    refine V.iload_n (n := 1) dX4_readSum_1 rfl rfl ?_
    refine V.callVv (d' := dr + 4) (as := [vI v1]) (st := []) dX4_readSum_2 meX4_readProduct mlX4_210 imX4_readProduct seX4_readProduct clsX4 rfl (by omega) (Nat.le_of_ble_eq_true rfl) rfl rfl h (fun v hv => lift_X4_readProduct hrF hv) (fun w9 h => ?_)
    refine V.iconst (x := 0) dX4_readSum_5 (by decide) rfl ?_
    refine V.istore_n dX4_readSum_6 rfl (by decide) rfl rfl ?_
    exact V.sub [1, 2, 0] rfl (lab_X4_readSum_7 hrF FU _ _ _ _ h)
  exact hh
def L_X4_comparison (v0 : Int32) (M : Mem) : Option (Int32 × Mem) :=
  if v0 = 60 then
  (some ((12 : Int32), M))
  else
  if v0 = 61 then
  (some ((11 : Int32), M))
  else
  if v0 = 62 then
  (some ((13 : Int32), M))
  else
  (some ((-1 : Int32), M))
set_option maxRecDepth 20000 in
set_option maxHeartbeats 4000000 in
theorem lift_X4_comparison {G : Gt} {M M9 : Mem} {x9 : Int32} {v0 : Int32} (h : L_X4_comparison v0 M = some (x9, M9)) : Mt G mX4_comparison 0 [vI v0] M (some (vI x9)) M9 := by
  unfold L_X4_comparison at h
  refine Mt.of (by decide +kernel) (Nat.le_of_ble_eq_true rfl) ?_
  have hh : V G mX4_comparison 0 M (some (vI x9)) M9 M 0 [(0, vI v0)] [] := by
    refine V.iload_n (n := 0) dX4_comparison_0 rfl rfl ?_
    refine V.sw h (fun hx h => ?_) (fun n60 h => ?_)
    · refine V.swt hx ?_
      refine V.tableIn (q := 31) (x := 60) (off := 30) dX4_comparison_1 (by decide) (by decide) (by decide) (by decide) ?_
      refine V.bipush (x := 12) dX4_comparison_31 (by decide) rfl ?_
      exact V.iret dX4_comparison_33 rfl h
    refine V.sw h (fun hx h => ?_) (fun n61 h => ?_)
    · refine V.swt hx ?_
      refine V.tableIn (q := 28) (x := 61) (off := 27) dX4_comparison_1 (by decide) (by decide) (by decide) (by decide) ?_
      refine V.bipush (x := 11) dX4_comparison_28 (by decide) rfl ?_
      exact V.iret dX4_comparison_30 rfl h
    refine V.sw h (fun hx h => ?_) (fun n62 h => ?_)
    · refine V.swt hx ?_
      refine V.tableIn (q := 34) (x := 62) (off := 33) dX4_comparison_1 (by decide) (by decide) (by decide) (by decide) ?_
      refine V.bipush (x := 13) dX4_comparison_34 (by decide) rfl ?_
      exact V.iret dX4_comparison_36 rfl h
    have e60 := sw_ne n60
    have e61 := sw_ne n61
    have e62 := sw_ne n62
    have t60 : (60 : Int32).toInt = 60 := by decide
    have t61 : (61 : Int32).toInt = 61 := by decide
    have t62 : (62 : Int32).toInt = 62 := by decide
    refine V.tableOut (q := 37) dX4_comparison_1 (by omega) (by decide) ?_
    refine V.iconst (x := (-1)) dX4_comparison_37 (by decide) rfl ?_
    exact V.iret dX4_comparison_38 rfl h
  exact hh
def J_X4_readChoice_54 (rF : Option Nat → Int32 → Mem → Option (Unit × Mem)) (v0 : Option Nat) (v1 : Int32) (M : Mem) : Option (Unit × Mem) :=
  (ck M 4 v0).bind fun _ => (L_X4_kind v0 M).bind fun w1 =>
  if w1.1 = (63 : Int32) then
  ((fI w1.2 4 2 v0).bind fun x2 =>
  (pI w1.2 4 2 v0 (x2 + (1 : Int32))).bind fun M3 =>
  (fR M3 4 1 v0).bind fun x4 =>
  (ck M3 0 x4).bind fun _ => (L_X0_emit x4 (15 : Int32) (0 : Int64) M3).bind fun w5 =>
  (ck w5.2 4 v0).bind fun _ => (rF v0 (v1 + (1 : Int32)) w5.2).bind fun w6 =>
  (ck w6.2 4 v0).bind fun _ => (L_X4_take v0 (58 : Int32) w6.2).bind fun w7 =>
  (fR w7.2 4 1 v0).bind fun x8 =>
  (ck w7.2 0 x8).bind fun _ => (L_X0_emit x8 (14 : Int32) (0 : Int64) w7.2).bind fun w9 =>
  (fR w9.2 4 1 v0).bind fun x10 =>
  (ck w9.2 0 x10).bind fun _ => (L_X0_landHere x10 w5.1 w9.2).bind fun w11 =>
  (ck w11.2 4 v0).bind fun _ => (rF v0 (v1 + (1 : Int32)) w11.2).bind fun w12 =>
  (fR w12.2 4 1 v0).bind fun x13 =>
  (ck w12.2 0 x13).bind fun _ => (L_X0_landHere x13 w9.1 w12.2).bind fun w14 =>
  some ((), w14.2))
  else
  (some ((), w1.2))
set_option maxRecDepth 20000 in
set_option maxHeartbeats 4000000 in
theorem lab_X4_readChoice_54 {G : Gt} {M0 M9 : Mem} {x9 : Unit} {dr : Nat} {rF : Option Nat → Int32 → Mem → Option (Unit × Mem)} (hrF : ∀ (a0 : Option Nat) (a1 : Int32) (Ma : Mem) (v : Unit × Mem), rF a0 a1 Ma = some v → Mt G mX4_readChoice dr [vR a0, vI a1] Ma none v.2) {v0 : Option Nat} {v1 : Int32} {M : Mem} (h : J_X4_readChoice_54 rF v0 v1 M = some (x9, M9)) : V G mX4_readChoice (dr + 6) M0 none M9 M 54 [(0, vR v0), (1, vI v1)] [] := by
  unfold J_X4_readChoice_54 at h
  refine V.aload_n (n := 0) dX4_readChoice_54 rfl rfl ?_
  refine V.callVi (d' := 0) (as := []) (st := []) dX4_readChoice_55 meX4_kind mlX4_53 imX4_kind seX4_kind clsX4 rfl (by omega) (Nat.le_of_ble_eq_true rfl) rfl rfl h (fun v hv => lift_X4_kind hv) (fun w1 h => ?_)
  refine V.bipush (x := 63) dX4_readChoice_58 (by decide) rfl ?_
  refine V.icmp_eq (q := 64) dX4_readChoice_60 (by decide) rfl h (fun h => ?_) (fun h => ?_)
  · refine V.aload_n (n := 0) dX4_readChoice_64 rfl rfl ?_
    refine V.dup dX4_readChoice_65 rfl rfl ?_
    refine V.getI dX4_readChoice_66 lkX4_37 rfl rfl h (fun x2 h => ?_)
    refine V.iconst (x := 1) dX4_readChoice_69 (by decide) rfl ?_
    refine V.iadd dX4_readChoice_70 rfl ?_
    refine V.putI dX4_readChoice_71 lkX4_37 (Or.inl rfl) rfl rfl h (fun M3 h => ?_)
    refine V.aload_n (n := 0) dX4_readChoice_74 rfl rfl ?_
    refine V.getR dX4_readChoice_75 lkX4_18 rfl rfl h (fun x4 h => ?_)
    refine V.bipush (x := 15) dX4_readChoice_78 (by decide) rfl ?_
    refine V.lconst (x := 0) dX4_readChoice_80 (by decide) rfl ?_
    refine V.callVi (d' := 0) (as := [vI (15 : Int32), vL (0 : Int64)]) (st := []) dX4_readChoice_81 meX0_emit mlX4_67 imX0_emit seX0_emit clsX0 rfl (by omega) (Nat.le_of_ble_eq_true rfl) rfl rfl h (fun v hv => lift_X0_emit hv) (fun w5 h => ?_)
    refine V.istore_n dX4_readChoice_84 rfl (by decide) rfl rfl ?_
    refine V.aload_n (n := 1) dX4_readChoice_85 rfl rfl ?_
    refine V.iload_n (n := 2) dX4_readChoice_86 rfl rfl ?_
    refine V.iconst (x := 1) dX4_readChoice_87 (by decide) rfl ?_
    refine V.iadd dX4_readChoice_88 rfl ?_
    refine V.callVv (d' := dr) (as := [vI (v1 + (1 : Int32))]) (st := []) dX4_readChoice_89 meX4_readChoice mlX4_166 imX4_readChoice seX4_readChoice clsX4 rfl (by omega) (Nat.le_of_ble_eq_true rfl) rfl rfl h (fun v hv => hrF _ _ _ v hv) (fun w6 h => ?_)
    refine V.aload_n (n := 1) dX4_readChoice_92 rfl rfl ?_
    refine V.bipush (x := 58) dX4_readChoice_93 (by decide) rfl ?_
    refine V.callVi (d' := 1) (as := [vI (58 : Int32)]) (st := []) dX4_readChoice_95 meX4_take mlX4_103 imX4_take seX4_take clsX4 rfl (by omega) (Nat.le_of_ble_eq_true rfl) rfl rfl h (fun v hv => lift_X4_take hv) (fun w7 h => ?_)
    refine V.pop dX4_readChoice_98 rfl rfl ?_
    refine V.aload_n (n := 1) dX4_readChoice_99 rfl rfl ?_
    refine V.getR dX4_readChoice_100 lkX4_18 rfl rfl h (fun x8 h => ?_)
    refine V.bipush (x := 14) dX4_readChoice_103 (by decide) rfl ?_
    refine V.lconst (x := 0) dX4_readChoice_105 (by decide) rfl ?_
    refine V.callVi (d' := 0) (as := [vI (14 : Int32), vL (0 : Int64)]) (st := []) dX4_readChoice_106 meX0_emit mlX4_67 imX0_emit seX0_emit clsX0 rfl (by omega) (Nat.le_of_ble_eq_true rfl) rfl rfl h (fun v hv => lift_X0_emit hv) (fun w9 h => ?_)
    refine V.istore dX4_readChoice_109 (by decide) rfl rfl ?_
    refine V.aload_n (n := 2) dX4_readChoice_111 rfl rfl ?_
    refine V.getR dX4_readChoice_112 lkX4_18 rfl rfl h (fun x10 h => ?_)
    refine V.iload_n (n := 1) dX4_readChoice_115 rfl rfl ?_
    refine V.callVv (d' := 0) (as := [vI w5.1]) (st := []) dX4_readChoice_116 meX0_landHere mlX4_142 imX0_landHere seX0_landHere clsX0 rfl (by omega) (Nat.le_of_ble_eq_true rfl) rfl rfl h (fun v hv => lift_X0_landHere hv) (fun w11 h => ?_)
    refine V.aload_n (n := 2) dX4_readChoice_119 rfl rfl ?_
    refine V.iload_n (n := 3) dX4_readChoice_120 rfl rfl ?_
    refine V.iconst (x := 1) dX4_readChoice_121 (by decide) rfl ?_
    refine V.iadd dX4_readChoice_122 rfl ?_
    refine V.callVv (d' := dr) (as := [vI (v1 + (1 : Int32))]) (st := []) dX4_readChoice_123 meX4_readChoice mlX4_166 imX4_readChoice seX4_readChoice clsX4 rfl (by omega) (Nat.le_of_ble_eq_true rfl) rfl rfl h (fun v hv => hrF _ _ _ v hv) (fun w12 h => ?_)
    refine V.aload_n (n := 2) dX4_readChoice_126 rfl rfl ?_
    refine V.getR dX4_readChoice_127 lkX4_18 rfl rfl h (fun x13 h => ?_)
    refine V.iload (n := 0) dX4_readChoice_130 rfl rfl ?_
    refine V.callVv (d' := 0) (as := [vI w9.1]) (st := []) dX4_readChoice_132 meX0_landHere mlX4_142 imX0_landHere seX0_landHere clsX0 rfl (by omega) (Nat.le_of_ble_eq_true rfl) rfl rfl h (fun v hv => lift_X0_landHere hv) (fun w14 h => ?_)
    exact V.vret dX4_readChoice_135 rfl h
  · exact V.vret dX4_readChoice_63 rfl h
def B_X4_readChoice (rF : Option Nat → Int32 → Mem → Option (Unit × Mem)) (v0 : Option Nat) (v1 : Int32) (M : Mem) : Option (Unit × Mem) :=
  if v1 ≤ (12 : Int32) then
  ((ck M 4 v0).bind fun _ => (L_X4_readSum rF v0 v1 M).bind fun w15 =>
  (ck w15.2 4 v0).bind fun _ => (L_X4_kind v0 w15.2).bind fun w16 =>
  (L_X4_comparison w16.1 w16.2).bind fun w17 =>
  if w17.1 = (-1 : Int32) then
  (J_X4_readChoice_54 rF v0 v1 w17.2)
  else
  ((fI w17.2 4 2 v0).bind fun x18 =>
  (pI w17.2 4 2 v0 (x18 + (1 : Int32))).bind fun M19 =>
  (ck M19 4 v0).bind fun _ => (L_X4_readSum rF v0 v1 M19).bind fun w20 =>
  (fR w20.2 4 1 v0).bind fun x21 =>
  (ck w20.2 0 x21).bind fun _ => (L_X0_emit x21 w17.1 (0 : Int64) w20.2).bind fun w22 =>
  J_X4_readChoice_54 rF v0 v1 w22.2))
  else
  ((ck M 4 v0).bind fun _ => (L_X4_reject v0 M).bind fun w23 =>
  some ((), w23.2))
set_option maxRecDepth 20000 in
set_option maxHeartbeats 4000000 in
theorem liftB_X4_readChoice {G : Gt} {M M9 : Mem} {x9 : Unit} {v0 : Option Nat} {v1 : Int32} {dr : Nat} {rF : Option Nat → Int32 → Mem → Option (Unit × Mem)} (hrF : ∀ (a0 : Option Nat) (a1 : Int32) (Ma : Mem) (v : Unit × Mem), rF a0 a1 Ma = some v → Mt G mX4_readChoice dr [vR a0, vI a1] Ma none v.2) (h : B_X4_readChoice rF v0 v1 M = some (x9, M9)) : Mt G mX4_readChoice (dr + 6) [vR v0, vI v1] M none M9 := by
  unfold B_X4_readChoice at h
  refine Mt.of (by decide +kernel) (Nat.le_of_ble_eq_true rfl) ?_
  have hh : V G mX4_readChoice (dr + 6) M none M9 M 0 [(0, vR v0), (1, vI v1)] [] := by
    refine V.iload_n (n := 1) dX4_readChoice_0 rfl rfl ?_
    refine V.bipush (x := 12) dX4_readChoice_1 (by decide) rfl ?_
    refine V.icmp_le (q := 11) dX4_readChoice_3 (by decide) rfl h (fun h => ?_) (fun h => ?_)
    · refine V.aload_n (n := 0) dX4_readChoice_11 rfl rfl ?_
      refine V.iload_n (n := 1) dX4_readChoice_12 rfl rfl ?_
      refine V.callVv (d' := dr + 5) (as := [vI v1]) (st := []) dX4_readChoice_13 meX4_readSum mlX4_203 imX4_readSum seX4_readSum clsX4 rfl (by omega) (Nat.le_of_ble_eq_true rfl) rfl rfl h (fun v hv => lift_X4_readSum hrF hv) (fun w15 h => ?_)
      refine V.aload_n (n := 0) dX4_readChoice_16 rfl rfl ?_
      refine V.callVi (d' := 0) (as := []) (st := []) dX4_readChoice_17 meX4_kind mlX4_53 imX4_kind seX4_kind clsX4 rfl (by omega) (Nat.le_of_ble_eq_true rfl) rfl rfl h (fun v hv => lift_X4_kind hv) (fun w16 h => ?_)
      refine V.callSi (d' := 0) (as := [vI w16.1]) (st := []) dX4_readChoice_20 meX4_comparison mlX4_206 smX4_comparison rfl (by omega) (Nat.le_of_ble_eq_true rfl) rfl rfl h (fun v hv => lift_X4_comparison hv) (fun w17 h => ?_)
      refine V.istore_n dX4_readChoice_23 rfl (by decide) rfl rfl ?_
      refine V.iload_n (n := 0) dX4_readChoice_24 rfl rfl ?_
      refine V.iconst (x := (-1)) dX4_readChoice_25 (by decide) rfl ?_
      refine V.icmp_eq (q := 54) dX4_readChoice_26 (by decide) rfl h (fun h => ?_) (fun h => ?_)
      · exact V.sub [1, 2] rfl (lab_X4_readChoice_54 hrF h)
      · refine V.aload_n (n := 1) dX4_readChoice_29 rfl rfl ?_
        refine V.dup dX4_readChoice_30 rfl rfl ?_
        refine V.getI dX4_readChoice_31 lkX4_37 rfl rfl h (fun x18 h => ?_)
        refine V.iconst (x := 1) dX4_readChoice_34 (by decide) rfl ?_
        refine V.iadd dX4_readChoice_35 rfl ?_
        refine V.putI dX4_readChoice_36 lkX4_37 (Or.inl rfl) rfl rfl h (fun M19 h => ?_)
        refine V.aload_n (n := 1) dX4_readChoice_39 rfl rfl ?_
        refine V.iload_n (n := 2) dX4_readChoice_40 rfl rfl ?_
        refine V.callVv (d' := dr + 5) (as := [vI v1]) (st := []) dX4_readChoice_41 meX4_readSum mlX4_203 imX4_readSum seX4_readSum clsX4 rfl (by omega) (Nat.le_of_ble_eq_true rfl) rfl rfl h (fun v hv => lift_X4_readSum hrF hv) (fun w20 h => ?_)
        refine V.aload_n (n := 1) dX4_readChoice_44 rfl rfl ?_
        refine V.getR dX4_readChoice_45 lkX4_18 rfl rfl h (fun x21 h => ?_)
        refine V.iload_n (n := 0) dX4_readChoice_48 rfl rfl ?_
        refine V.lconst (x := 0) dX4_readChoice_49 (by decide) rfl ?_
        refine V.callVi (d' := 0) (as := [vI w17.1, vL (0 : Int64)]) (st := []) dX4_readChoice_50 meX0_emit mlX4_67 imX0_emit seX0_emit clsX0 rfl (by omega) (Nat.le_of_ble_eq_true rfl) rfl rfl h (fun v hv => lift_X0_emit hv) (fun w22 h => ?_)
        refine V.pop dX4_readChoice_53 rfl rfl ?_
        exact V.sub [1, 2] rfl (lab_X4_readChoice_54 hrF h)
    · refine V.aload_n (n := 0) dX4_readChoice_6 rfl rfl ?_
      refine V.callVv (d' := 0) (as := []) (st := []) dX4_readChoice_7 meX4_reject mlX4_93 imX4_reject seX4_reject clsX4 rfl (by omega) (Nat.le_of_ble_eq_true rfl) rfl rfl h (fun v hv => lift_X4_reject hv) (fun w23 h => ?_)
      exact V.vret dX4_readChoice_10 rfl h
  exact hh
def L_X4_readChoice : Nat → Option Nat → Int32 → Mem → Option (Unit × Mem)
  | 0 => fun _ _ _ => none
  | n + 1 => B_X4_readChoice (L_X4_readChoice n)
theorem lift_X4_readChoice {G : Gt} : ∀ (n : Nat) {M M9 : Mem} {x9 : Unit} {v0 : Option Nat} {v1 : Int32} (h : L_X4_readChoice n v0 v1 M = some (x9, M9)), Mt G mX4_readChoice (6 * n) [vR v0, vI v1] M none M9
  | 0 => fun h => nomatch h
  | n + 1 => fun h => liftB_X4_readChoice (dr := 6 * n) (rF := L_X4_readChoice n) (fun _ _ _ _ hv => lift_X4_readChoice n hv) h
def J_X4_readRule_20 (v0 : Option Nat) (M : Mem) : Option (Unit × Mem) :=
  (fI M 4 2 v0).bind fun x1 =>
  (pI M 4 2 v0 (x1 + (1 : Int32))).bind fun M2 =>
  (fR M2 4 1 v0).bind fun x3 =>
  (ck M2 0 x3).bind fun _ => (L_X0_emit x3 (14 : Int32) (0 : Int64) M2).bind fun w4 =>
  (fR w4.2 4 1 v0).bind fun x5 =>
  (fR w4.2 4 1 v0).bind fun x6 =>
  (fI w4.2 0 6 x6).bind fun x7 =>
  (pI w4.2 0 3 x5 x7).bind fun M8 =>
  (pI M8 4 4 v0 (2 : Int32)).bind fun M9 =>
  (ck M9 4 v0).bind fun _ => (L_X4_readChoice 14 v0 (1 : Int32) M9).bind fun w10 =>
  (pI w10.2 4 4 v0 (0 : Int32)).bind fun M11 =>
  (fR M11 4 1 v0).bind fun x12 =>
  (ck M11 0 x12).bind fun _ => (L_X0_emit x12 (20 : Int32) (0 : Int64) M11).bind fun w13 =>
  (fR w13.2 4 1 v0).bind fun x14 =>
  (ck w13.2 0 x14).bind fun _ => (L_X0_landHere x14 w4.1 w13.2).bind fun w15 =>
  (ck w15.2 4 v0).bind fun _ => (L_X4_take v0 (59 : Int32) w15.2).bind fun w16 =>
  some ((), w16.2)
set_option maxRecDepth 20000 in
set_option maxHeartbeats 4000000 in
theorem lab_X4_readRule_20 {G : Gt} {M0 M9 : Mem} {x9 : Unit} {v0 : Option Nat} {M : Mem} (h : J_X4_readRule_20 v0 M = some (x9, M9)) : V G mX4_readRule 85 M0 none M9 M 20 [(0, vR v0)] [] := by
  unfold J_X4_readRule_20 at h
  refine V.aload_n (n := 0) dX4_readRule_20 rfl rfl ?_
  refine V.dup dX4_readRule_21 rfl rfl ?_
  refine V.getI dX4_readRule_22 lkX4_37 rfl rfl h (fun x1 h => ?_)
  refine V.iconst (x := 1) dX4_readRule_25 (by decide) rfl ?_
  refine V.iadd dX4_readRule_26 rfl ?_
  refine V.putI dX4_readRule_27 lkX4_37 (Or.inl rfl) rfl rfl h (fun M2 h => ?_)
  refine V.aload_n (n := 0) dX4_readRule_30 rfl rfl ?_
  refine V.getR dX4_readRule_31 lkX4_18 rfl rfl h (fun x3 h => ?_)
  refine V.bipush (x := 14) dX4_readRule_34 (by decide) rfl ?_
  refine V.lconst (x := 0) dX4_readRule_36 (by decide) rfl ?_
  refine V.callVi (d' := 0) (as := [vI (14 : Int32), vL (0 : Int64)]) (st := []) dX4_readRule_37 meX0_emit mlX4_67 imX0_emit seX0_emit clsX0 rfl (by omega) (Nat.le_of_ble_eq_true rfl) rfl rfl h (fun v hv => lift_X0_emit hv) (fun w4 h => ?_)
  refine V.istore_n dX4_readRule_40 rfl (by decide) rfl rfl ?_
  refine V.aload_n (n := 1) dX4_readRule_41 rfl rfl ?_
  refine V.getR dX4_readRule_42 lkX4_18 rfl rfl h (fun x5 h => ?_)
  refine V.aload_n (n := 1) dX4_readRule_45 rfl rfl ?_
  refine V.getR dX4_readRule_46 lkX4_18 rfl rfl h (fun x6 h => ?_)
  refine V.getI dX4_readRule_49 lkX4_165 rfl rfl h (fun x7 h => ?_)
  refine V.putI dX4_readRule_52 lkX4_162 (Or.inl rfl) rfl rfl h (fun M8 h => ?_)
  refine V.aload_n (n := 1) dX4_readRule_55 rfl rfl ?_
  refine V.iconst (x := 2) dX4_readRule_56 (by decide) rfl ?_
  refine V.putI dX4_readRule_57 lkX4_43 (Or.inl rfl) rfl rfl h (fun M9 h => ?_)
  refine V.aload_n (n := 1) dX4_readRule_60 rfl rfl ?_
  refine V.iconst (x := 1) dX4_readRule_61 (by decide) rfl ?_
  refine V.callVv (d' := 6 * 14) (as := [vI (1 : Int32)]) (st := []) dX4_readRule_62 meX4_readChoice mlX4_166 imX4_readChoice seX4_readChoice clsX4 rfl (by omega) (Nat.le_of_ble_eq_true rfl) rfl rfl h (fun v hv => lift_X4_readChoice 14 hv) (fun w10 h => ?_)
  refine V.aload_n (n := 1) dX4_readRule_65 rfl rfl ?_
  refine V.iconst (x := 0) dX4_readRule_66 (by decide) rfl ?_
  refine V.putI dX4_readRule_67 lkX4_43 (Or.inl rfl) rfl rfl h (fun M11 h => ?_)
  refine V.aload_n (n := 1) dX4_readRule_70 rfl rfl ?_
  refine V.getR dX4_readRule_71 lkX4_18 rfl rfl h (fun x12 h => ?_)
  refine V.bipush (x := 20) dX4_readRule_74 (by decide) rfl ?_
  refine V.lconst (x := 0) dX4_readRule_76 (by decide) rfl ?_
  refine V.callVi (d' := 0) (as := [vI (20 : Int32), vL (0 : Int64)]) (st := []) dX4_readRule_77 meX0_emit mlX4_67 imX0_emit seX0_emit clsX0 rfl (by omega) (Nat.le_of_ble_eq_true rfl) rfl rfl h (fun v hv => lift_X0_emit hv) (fun w13 h => ?_)
  refine V.pop dX4_readRule_80 rfl rfl ?_
  refine V.aload_n (n := 1) dX4_readRule_81 rfl rfl ?_
  refine V.getR dX4_readRule_82 lkX4_18 rfl rfl h (fun x14 h => ?_)
  refine V.iload_n (n := 0) dX4_readRule_85 rfl rfl ?_
  refine V.callVv (d' := 0) (as := [vI w4.1]) (st := []) dX4_readRule_86 meX0_landHere mlX4_142 imX0_landHere seX0_landHere clsX0 rfl (by omega) (Nat.le_of_ble_eq_true rfl) rfl rfl h (fun v hv => lift_X0_landHere hv) (fun w15 h => ?_)
  refine V.aload_n (n := 1) dX4_readRule_89 rfl rfl ?_
  refine V.bipush (x := 59) dX4_readRule_90 (by decide) rfl ?_
  refine V.callVi (d' := 1) (as := [vI (59 : Int32)]) (st := []) dX4_readRule_92 meX4_take mlX4_103 imX4_take seX4_take clsX4 rfl (by omega) (Nat.le_of_ble_eq_true rfl) rfl rfl h (fun v hv => lift_X4_take hv) (fun w16 h => ?_)
  refine V.pop dX4_readRule_95 rfl rfl ?_
  exact V.vret dX4_readRule_96 rfl h
def L_X4_readRule (v0 : Option Nat) (M : Mem) : Option (Unit × Mem) :=
  (fR M 4 1 v0).bind fun x17 =>
  (fI M 0 3 x17).bind fun x18 =>
  if x18 = (-1 : Int32) then
  (J_X4_readRule_20 v0 M)
  else
  ((ck M 4 v0).bind fun _ => (L_X4_place v0 M).bind fun w19 =>
  (ck w19.2 4 v0).bind fun _ => (L_X4_note v0 (2 : Int32) w19.1 w19.2).bind fun w20 =>
  J_X4_readRule_20 v0 w20.2)
set_option maxRecDepth 20000 in
set_option maxHeartbeats 4000000 in
theorem lift_X4_readRule {G : Gt} {M M9 : Mem} {x9 : Unit} {v0 : Option Nat} (h : L_X4_readRule v0 M = some (x9, M9)) : Mt G mX4_readRule 85 [vR v0] M none M9 := by
  unfold L_X4_readRule at h
  refine Mt.of (by decide +kernel) (Nat.le_of_ble_eq_true rfl) ?_
  have hh : V G mX4_readRule 85 M none M9 M 0 [(0, vR v0)] [] := by
    refine V.aload_n (n := 0) dX4_readRule_0 rfl rfl ?_
    refine V.getR dX4_readRule_1 lkX4_18 rfl rfl h (fun x17 h => ?_)
    refine V.getI dX4_readRule_4 lkX4_162 rfl rfl h (fun x18 h => ?_)
    refine V.iconst (x := (-1)) dX4_readRule_7 (by decide) rfl ?_
    refine V.icmp_eq (q := 20) dX4_readRule_8 (by decide) rfl h (fun h => ?_) (fun h => ?_)
    · exact (lab_X4_readRule_20 h)
    · refine V.aload_n (n := 0) dX4_readRule_11 rfl rfl ?_
      refine V.iconst (x := 2) dX4_readRule_12 (by decide) rfl ?_
      refine V.aload_n (n := 0) dX4_readRule_13 rfl rfl ?_
      refine V.callVi (d' := 0) (as := []) (st := [vI (2 : Int32), vR v0]) dX4_readRule_14 meX4_place mlX4_96 imX4_place seX4_place clsX4 rfl (by omega) (Nat.le_of_ble_eq_true rfl) rfl rfl h (fun v hv => lift_X4_place hv) (fun w19 h => ?_)
      refine V.callVv (d' := 0) (as := [vI (2 : Int32), vI w19.1]) (st := []) dX4_readRule_17 meX4_note mlX4_118 imX4_note seX4_note clsX4 rfl (by omega) (Nat.le_of_ble_eq_true rfl) rfl rfl h (fun v hv => lift_X4_note hv) (fun w20 h => ?_)
      exact (lab_X4_readRule_20 h)
  exact hh
def J_X4_takeNumber_35 (v0 : Option Nat) (v3 : Int32) (v4 : Int64) (M : Mem) : Option (Int64 × Mem) :=
  (ck M 4 v0).bind fun _ => (L_X4_note v0 (4 : Int32) v3 M).bind fun w1 =>
  some (v4, w1.2)
set_option maxRecDepth 20000 in
set_option maxHeartbeats 4000000 in
theorem lab_X4_takeNumber_35 {G : Gt} {M0 M9 : Mem} {x9 : Int64} {v0 : Option Nat} {v3 : Int32} {v4 : Int64} {M : Mem} (h : J_X4_takeNumber_35 v0 v3 v4 M = some (x9, M9)) : V G mX4_takeNumber 2 M0 (some (vL x9)) M9 M 35 [(0, vR v0), (3, vI v3), (4, vL v4)] [] := by
  unfold J_X4_takeNumber_35 at h
  refine V.aload_n (n := 0) dX4_takeNumber_35 rfl rfl ?_
  refine V.iconst (x := 4) dX4_takeNumber_36 (by decide) rfl ?_
  refine V.iload_n (n := 1) dX4_takeNumber_37 rfl rfl ?_
  refine V.callVv (d' := 0) (as := [vI (4 : Int32), vI v3]) (st := []) dX4_takeNumber_38 meX4_note mlX4_118 imX4_note seX4_note clsX4 rfl (by omega) (Nat.le_of_ble_eq_true rfl) rfl rfl h (fun v hv => lift_X4_note hv) (fun w1 h => ?_)
  refine V.lload (n := 2) dX4_takeNumber_41 rfl rfl ?_
  exact V.lret dX4_takeNumber_43 rfl h
def L_X4_takeNumber (v0 : Option Nat) (v1 : Int32) (v2 : Int32) (M : Mem) : Option (Int64 × Mem) :=
  (ck M 4 v0).bind fun _ => (L_X4_place v0 M).bind fun w2 =>
  (ck w2.2 4 v0).bind fun _ => (L_X4_content v0 w2.2).bind fun w3 =>
  (ck w3.2 4 v0).bind fun _ => (L_X4_take v0 (3 : Int32) w3.2).bind fun w4 =>
  if w4.1 = 0 then
  (some (w3.1, w4.2))
  else
  (if w3.1 < v1.toInt64 then
  (J_X4_takeNumber_35 v0 w2.1 w3.1 w4.2)
  else
  (if w3.1 ≤ v2.toInt64 then
  (some (w3.1, w4.2))
  else
  (J_X4_takeNumber_35 v0 w2.1 w3.1 w4.2)))
set_option maxRecDepth 20000 in
set_option maxHeartbeats 4000000 in
theorem lift_X4_takeNumber {G : Gt} {M M9 : Mem} {x9 : Int64} {v0 : Option Nat} {v1 : Int32} {v2 : Int32} (h : L_X4_takeNumber v0 v1 v2 M = some (x9, M9)) : Mt G mX4_takeNumber 2 [vR v0, vI v1, vI v2] M (some (vL x9)) M9 := by
  unfold L_X4_takeNumber at h
  refine Mt.of (by decide +kernel) (Nat.le_of_ble_eq_true rfl) ?_
  have hh : V G mX4_takeNumber 2 M (some (vL x9)) M9 M 0 [(0, vR v0), (1, vI v1), (2, vI v2)] [] := by
    refine V.aload_n (n := 0) dX4_takeNumber_0 rfl rfl ?_
    refine V.callVi (d' := 0) (as := []) (st := []) dX4_takeNumber_1 meX4_place mlX4_96 imX4_place seX4_place clsX4 rfl (by omega) (Nat.le_of_ble_eq_true rfl) rfl rfl h (fun v hv => lift_X4_place hv) (fun w2 h => ?_)
    refine V.istore_n dX4_takeNumber_4 rfl (by decide) rfl rfl ?_
    refine V.aload_n (n := 1) dX4_takeNumber_5 rfl rfl ?_
    refine V.callVl (d' := 0) (as := []) (st := []) dX4_takeNumber_6 meX4_content mlX4_99 imX4_content seX4_content clsX4 rfl (by omega) (Nat.le_of_ble_eq_true rfl) rfl rfl h (fun v hv => lift_X4_content hv) (fun w3 h => ?_)
    refine V.lstore dX4_takeNumber_9 (by decide) rfl rfl ?_
    refine V.aload_n (n := 2) dX4_takeNumber_11 rfl rfl ?_
    refine V.iconst (x := 3) dX4_takeNumber_12 (by decide) rfl ?_
    refine V.callVi (d' := 1) (as := [vI (3 : Int32)]) (st := []) dX4_takeNumber_13 meX4_take mlX4_103 imX4_take seX4_take clsX4 rfl (by omega) (Nat.le_of_ble_eq_true rfl) rfl rfl h (fun v hv => lift_X4_take hv) (fun w4 h => ?_)
    refine V.if_eq (q := 41) dX4_takeNumber_16 (by decide) rfl h (fun h => ?_) (fun h => ?_)
    · refine V.lload (n := 0) dX4_takeNumber_41 rfl rfl ?_
      exact V.lret dX4_takeNumber_43 rfl h
    · refine V.lload (n := 0) dX4_takeNumber_19 rfl rfl ?_
      refine V.iload_n (n := 3) dX4_takeNumber_21 rfl rfl ?_
      refine V.i2l dX4_takeNumber_22 rfl ?_
      refine V.lif_lt (q := 35) dX4_takeNumber_23 rfl dX4_takeNumber_24 (by decide) rfl h (fun h => ?_) (fun h => ?_)
      · exact V.sub [2, 1, 0] rfl (lab_X4_takeNumber_35 h)
      · refine V.lload (n := 0) dX4_takeNumber_27 rfl rfl ?_
        refine V.iload_n (n := 4) dX4_takeNumber_29 rfl rfl ?_
        refine V.i2l dX4_takeNumber_30 rfl ?_
        refine V.lif_le (q := 41) dX4_takeNumber_31 rfl dX4_takeNumber_32 (by decide) rfl h (fun h => ?_) (fun h => ?_)
        · refine V.lload (n := 0) dX4_takeNumber_41 rfl rfl ?_
          exact V.lret dX4_takeNumber_43 rfl h
        · exact V.sub [2, 1, 0] rfl (lab_X4_takeNumber_35 h)
  exact hh
def J_X4_readTable_23 (v0 : Option Nat) (v1 : Int32) (M : Mem) : Option (Unit × Mem) :=
  (fI M 4 2 v0).bind fun x1 =>
  (pI M 4 2 v0 (x1 + (1 : Int32))).bind fun M2 =>
  (ck M2 4 v0).bind fun _ => (L_X4_takeNewName v0 M2).bind fun w3 =>
  (ck w3.2 4 v0).bind fun _ => (L_X4_takeNumber v0 (1 : Int32) (12 : Int32) w3.2).bind fun w4 =>
  (ck w4.2 4 v0).bind fun _ => (L_X4_take v0 (61 : Int32) w4.2).bind fun w5 =>
  (fR w5.2 4 1 v0).bind fun x6 =>
  (ck w5.2 0 x6).bind fun _ => (L_X0_addTable x6 w3.1 w4.1 w5.2).bind fun w7 =>
  (fR w7.2 4 1 v0).bind fun x8 =>
  (ck w7.2 0 x8).bind fun _ => (L_X0_emit x8 (17 : Int32) (0 : Int64) w7.2).bind fun w9 =>
  (fR w9.2 4 1 v0).bind fun x10 =>
  (fI w9.2 0 6 x10).bind fun x11 =>
  (pI w9.2 4 4 v0 (1 : Int32)).bind fun M12 =>
  (ck M12 4 v0).bind fun _ => (L_X4_readChoice 14 v0 (1 : Int32) M12).bind fun w13 =>
  (pI w13.2 4 4 v0 (0 : Int32)).bind fun M14 =>
  (fR M14 4 1 v0).bind fun x15 =>
  (ck M14 0 x15).bind fun _ => (L_X0_emit x15 (18 : Int32) ((x11.toInt64 * (8 : Int64)) + v1.toInt64) M14).bind fun w16 =>
  (ck w16.2 4 v0).bind fun _ => (L_X4_take v0 (59 : Int32) w16.2).bind fun w17 =>
  some ((), w17.2)
set_option maxRecDepth 20000 in
set_option maxHeartbeats 4000000 in
theorem lab_X4_readTable_23 {G : Gt} {M0 M9 : Mem} {x9 : Unit} {v0 : Option Nat} {v1 : Int32} {M : Mem} (h : J_X4_readTable_23 v0 v1 M = some (x9, M9)) : V G mX4_readTable 85 M0 none M9 M 23 [(0, vR v0), (1, vI v1)] [] := by
  unfold J_X4_readTable_23 at h
  refine V.aload_n (n := 0) dX4_readTable_23 rfl rfl ?_
  refine V.dup dX4_readTable_24 rfl rfl ?_
  refine V.getI dX4_readTable_25 lkX4_37 rfl rfl h (fun x1 h => ?_)
  refine V.iconst (x := 1) dX4_readTable_28 (by decide) rfl ?_
  refine V.iadd dX4_readTable_29 rfl ?_
  refine V.putI dX4_readTable_30 lkX4_37 (Or.inl rfl) rfl rfl h (fun M2 h => ?_)
  refine V.aload_n (n := 0) dX4_readTable_33 rfl rfl ?_
  refine V.callVl (d' := 2) (as := []) (st := []) dX4_readTable_34 meX4_takeNewName mlX4_132 imX4_takeNewName seX4_takeNewName clsX4 rfl (by omega) (Nat.le_of_ble_eq_true rfl) rfl rfl h (fun v hv => lift_X4_takeNewName hv) (fun w3 h => ?_)
  refine V.lstore_n dX4_readTable_37 rfl (by decide) rfl rfl ?_
  refine V.aload_n (n := 1) dX4_readTable_38 rfl rfl ?_
  refine V.iconst (x := 1) dX4_readTable_39 (by decide) rfl ?_
  refine V.bipush (x := 12) dX4_readTable_40 (by decide) rfl ?_
  refine V.callVl (d' := 2) (as := [vI (1 : Int32), vI (12 : Int32)]) (st := []) dX4_readTable_42 meX4_takeNumber mlX4_184 imX4_takeNumber seX4_takeNumber clsX4 rfl (by omega) (Nat.le_of_ble_eq_true rfl) rfl rfl h (fun v hv => lift_X4_takeNumber hv) (fun w4 h => ?_)
  refine V.lstore dX4_readTable_45 (by decide) rfl rfl ?_
  refine V.aload_n (n := 2) dX4_readTable_47 rfl rfl ?_
  refine V.bipush (x := 61) dX4_readTable_48 (by decide) rfl ?_
  refine V.callVi (d' := 1) (as := [vI (61 : Int32)]) (st := []) dX4_readTable_50 meX4_take mlX4_103 imX4_take seX4_take clsX4 rfl (by omega) (Nat.le_of_ble_eq_true rfl) rfl rfl h (fun v hv => lift_X4_take hv) (fun w5 h => ?_)
  refine V.pop dX4_readTable_53 rfl rfl ?_
  refine V.aload_n (n := 2) dX4_readTable_54 rfl rfl ?_
  refine V.getR dX4_readTable_55 lkX4_18 rfl rfl h (fun x6 h => ?_)
  refine V.lload_n (n := 1) dX4_readTable_58 rfl rfl ?_
  refine V.lload (n := 0) dX4_readTable_59 rfl rfl ?_
  refine V.callVv (d' := 0) (as := [vL w3.1, vL w4.1]) (st := []) dX4_readTable_61 meX0_addTable mlX4_188 imX0_addTable seX0_addTable clsX0 rfl (by omega) (Nat.le_of_ble_eq_true rfl) rfl rfl h (fun v hv => lift_X0_addTable hv) (fun w7 h => ?_)
  refine V.aload_n (n := 2) dX4_readTable_64 rfl rfl ?_
  refine V.getR dX4_readTable_65 lkX4_18 rfl rfl h (fun x8 h => ?_)
  refine V.bipush (x := 17) dX4_readTable_68 (by decide) rfl ?_
  refine V.lconst (x := 0) dX4_readTable_70 (by decide) rfl ?_
  refine V.callVi (d' := 0) (as := [vI (17 : Int32), vL (0 : Int64)]) (st := []) dX4_readTable_71 meX0_emit mlX4_67 imX0_emit seX0_emit clsX0 rfl (by omega) (Nat.le_of_ble_eq_true rfl) rfl rfl h (fun v hv => lift_X0_emit hv) (fun w9 h => ?_)
  refine V.pop dX4_readTable_74 rfl rfl ?_
  refine V.aload_n (n := 2) dX4_readTable_75 rfl rfl ?_
  refine V.getR dX4_readTable_76 lkX4_18 rfl rfl h (fun x10 h => ?_)
  refine V.getI dX4_readTable_79 lkX4_165 rfl rfl h (fun x11 h => ?_)
  refine V.istore dX4_readTable_82 (by decide) rfl rfl ?_
  refine V.aload_n (n := 3) dX4_readTable_84 rfl rfl ?_
  refine V.iconst (x := 1) dX4_readTable_85 (by decide) rfl ?_
  refine V.putI dX4_readTable_86 lkX4_43 (Or.inl rfl) rfl rfl h (fun M12 h => ?_)
  refine V.aload_n (n := 3) dX4_readTable_89 rfl rfl ?_
  refine V.iconst (x := 1) dX4_readTable_90 (by decide) rfl ?_
  refine V.callVv (d' := 6 * 14) (as := [vI (1 : Int32)]) (st := []) dX4_readTable_91 meX4_readChoice mlX4_166 imX4_readChoice seX4_readChoice clsX4 rfl (by omega) (Nat.le_of_ble_eq_true rfl) rfl rfl h (fun v hv => lift_X4_readChoice 14 hv) (fun w13 h => ?_)
  refine V.aload_n (n := 3) dX4_readTable_94 rfl rfl ?_
  refine V.iconst (x := 0) dX4_readTable_95 (by decide) rfl ?_
  refine V.putI dX4_readTable_96 lkX4_43 (Or.inl rfl) rfl rfl h (fun M14 h => ?_)
  refine V.aload_n (n := 3) dX4_readTable_99 rfl rfl ?_
  refine V.getR dX4_readTable_100 lkX4_18 rfl rfl h (fun x15 h => ?_)
  refine V.bipush (x := 18) dX4_readTable_103 (by decide) rfl ?_
  refine V.iload (n := 0) dX4_readTable_105 rfl rfl ?_
  refine V.i2l dX4_readTable_107 rfl ?_
  refine V.ldc2 (x := (8)) dX4_readTable_108 clX4_192 rfl ?_
  refine V.lmul dX4_readTable_111 rfl ?_
  refine V.iload_n (n := 4) dX4_readTable_112 rfl rfl ?_
  refine V.i2l dX4_readTable_113 rfl ?_
  refine V.ladd dX4_readTable_114 rfl ?_
  refine V.callVi (d' := 0) (as := [vI (18 : Int32), vL ((x11.toInt64 * (8 : Int64)) + v1.toInt64)]) (st := []) dX4_readTable_115 meX0_emit mlX4_67 imX0_emit seX0_emit clsX0 rfl (by omega) (Nat.le_of_ble_eq_true rfl) rfl rfl h (fun v hv => lift_X0_emit hv) (fun w16 h => ?_)
  refine V.pop dX4_readTable_118 rfl rfl ?_
  refine V.aload_n (n := 3) dX4_readTable_119 rfl rfl ?_
  refine V.bipush (x := 59) dX4_readTable_120 (by decide) rfl ?_
  refine V.callVi (d' := 1) (as := [vI (59 : Int32)]) (st := []) dX4_readTable_122 meX4_take mlX4_103 imX4_take seX4_take clsX4 rfl (by omega) (Nat.le_of_ble_eq_true rfl) rfl rfl h (fun v hv => lift_X4_take hv) (fun w17 h => ?_)
  refine V.pop dX4_readTable_125 rfl rfl ?_
  exact V.vret dX4_readTable_126 rfl h
def L_X4_readTable (v0 : Option Nat) (M : Mem) : Option (Unit × Mem) :=
  (fR M 4 1 v0).bind fun x18 =>
  (fI M 0 12 x18).bind fun x19 =>
  if x19 < (6 : Int32) then
  (J_X4_readTable_23 v0 x19 M)
  else
  ((ck M 4 v0).bind fun _ => (L_X4_place v0 M).bind fun w20 =>
  (ck w20.2 4 v0).bind fun _ => (L_X4_note v0 (5 : Int32) w20.1 w20.2).bind fun w21 =>
  J_X4_readTable_23 v0 x19 w21.2)
set_option maxRecDepth 20000 in
set_option maxHeartbeats 4000000 in
theorem lift_X4_readTable {G : Gt} {M M9 : Mem} {x9 : Unit} {v0 : Option Nat} (h : L_X4_readTable v0 M = some (x9, M9)) : Mt G mX4_readTable 85 [vR v0] M none M9 := by
  unfold L_X4_readTable at h
  refine Mt.of (by decide +kernel) (Nat.le_of_ble_eq_true rfl) ?_
  have hh : V G mX4_readTable 85 M none M9 M 0 [(0, vR v0)] [] := by
    refine V.aload_n (n := 0) dX4_readTable_0 rfl rfl ?_
    refine V.getR dX4_readTable_1 lkX4_18 rfl rfl h (fun x18 h => ?_)
    refine V.getI dX4_readTable_4 lkX4_181 rfl rfl h (fun x19 h => ?_)
    refine V.istore_n dX4_readTable_7 rfl (by decide) rfl rfl ?_
    refine V.iload_n (n := 0) dX4_readTable_8 rfl rfl ?_
    refine V.bipush (x := 6) dX4_readTable_9 (by decide) rfl ?_
    refine V.icmp_lt (q := 23) dX4_readTable_11 (by decide) rfl h (fun h => ?_) (fun h => ?_)
    · exact V.sub [1, 0] rfl (lab_X4_readTable_23 h)
    · refine V.aload_n (n := 1) dX4_readTable_14 rfl rfl ?_
      refine V.iconst (x := 5) dX4_readTable_15 (by decide) rfl ?_
      refine V.aload_n (n := 1) dX4_readTable_16 rfl rfl ?_
      refine V.callVi (d' := 0) (as := []) (st := [vI (5 : Int32), vR v0]) dX4_readTable_17 meX4_place mlX4_96 imX4_place seX4_place clsX4 rfl (by omega) (Nat.le_of_ble_eq_true rfl) rfl rfl h (fun v hv => lift_X4_place hv) (fun w20 h => ?_)
      refine V.callVv (d' := 0) (as := [vI (5 : Int32), vI w20.1]) (st := []) dX4_readTable_20 meX4_note mlX4_118 imX4_note seX4_note clsX4 rfl (by omega) (Nat.le_of_ble_eq_true rfl) rfl rfl h (fun v hv => lift_X4_note hv) (fun w21 h => ?_)
      exact V.sub [1, 0] rfl (lab_X4_readTable_23 h)
  exact hh
def L_X4_readCheck (v0 : Option Nat) (M : Mem) : Option (Unit × Mem) :=
  (fI M 4 2 v0).bind fun x1 =>
  (pI M 4 2 v0 (x1 + (1 : Int32))).bind fun M2 =>
  (ck M2 4 v0).bind fun _ => (L_X4_readChoice 14 v0 (1 : Int32) M2).bind fun w3 =>
  (ck w3.2 4 v0).bind fun _ => (L_X4_take v0 (58 : Int32) w3.2).bind fun w4 =>
  (ck w4.2 4 v0).bind fun _ => (L_X4_takeNumber v0 (1 : Int32) (800 : Int32) w4.2).bind fun w5 =>
  (fR w5.2 4 1 v0).bind fun x6 =>
  (ck w5.2 0 x6).bind fun _ => (L_X0_emit x6 (19 : Int32) w5.1 w5.2).bind fun w7 =>
  (ck w7.2 4 v0).bind fun _ => (L_X4_take v0 (59 : Int32) w7.2).bind fun w8 =>
  some ((), w8.2)
set_option maxRecDepth 20000 in
set_option maxHeartbeats 4000000 in
theorem lift_X4_readCheck {G : Gt} {M M9 : Mem} {x9 : Unit} {v0 : Option Nat} (h : L_X4_readCheck v0 M = some (x9, M9)) : Mt G mX4_readCheck 85 [vR v0] M none M9 := by
  unfold L_X4_readCheck at h
  refine Mt.of (by decide +kernel) (Nat.le_of_ble_eq_true rfl) ?_
  have hh : V G mX4_readCheck 85 M none M9 M 0 [(0, vR v0)] [] := by
    refine V.aload_n (n := 0) dX4_readCheck_0 rfl rfl ?_
    refine V.dup dX4_readCheck_1 rfl rfl ?_
    refine V.getI dX4_readCheck_2 lkX4_37 rfl rfl h (fun x1 h => ?_)
    refine V.iconst (x := 1) dX4_readCheck_5 (by decide) rfl ?_
    refine V.iadd dX4_readCheck_6 rfl ?_
    refine V.putI dX4_readCheck_7 lkX4_37 (Or.inl rfl) rfl rfl h (fun M2 h => ?_)
    refine V.aload_n (n := 0) dX4_readCheck_10 rfl rfl ?_
    refine V.iconst (x := 1) dX4_readCheck_11 (by decide) rfl ?_
    refine V.callVv (d' := 6 * 14) (as := [vI (1 : Int32)]) (st := []) dX4_readCheck_12 meX4_readChoice mlX4_166 imX4_readChoice seX4_readChoice clsX4 rfl (by omega) (Nat.le_of_ble_eq_true rfl) rfl rfl h (fun v hv => lift_X4_readChoice 14 hv) (fun w3 h => ?_)
    refine V.aload_n (n := 0) dX4_readCheck_15 rfl rfl ?_
    refine V.bipush (x := 58) dX4_readCheck_16 (by decide) rfl ?_
    refine V.callVi (d' := 1) (as := [vI (58 : Int32)]) (st := []) dX4_readCheck_18 meX4_take mlX4_103 imX4_take seX4_take clsX4 rfl (by omega) (Nat.le_of_ble_eq_true rfl) rfl rfl h (fun v hv => lift_X4_take hv) (fun w4 h => ?_)
    refine V.pop dX4_readCheck_21 rfl rfl ?_
    refine V.aload_n (n := 0) dX4_readCheck_22 rfl rfl ?_
    refine V.iconst (x := 1) dX4_readCheck_23 (by decide) rfl ?_
    refine V.sipush (x := 800) dX4_readCheck_24 (by decide) rfl ?_
    refine V.callVl (d' := 2) (as := [vI (1 : Int32), vI (800 : Int32)]) (st := []) dX4_readCheck_27 meX4_takeNumber mlX4_184 imX4_takeNumber seX4_takeNumber clsX4 rfl (by omega) (Nat.le_of_ble_eq_true rfl) rfl rfl h (fun v hv => lift_X4_takeNumber hv) (fun w5 h => ?_)
    refine V.lstore_n dX4_readCheck_30 rfl (by decide) rfl rfl ?_
    refine V.aload_n (n := 1) dX4_readCheck_31 rfl rfl ?_
    refine V.getR dX4_readCheck_32 lkX4_18 rfl rfl h (fun x6 h => ?_)
    refine V.bipush (x := 19) dX4_readCheck_35 (by decide) rfl ?_
    refine V.lload_n (n := 0) dX4_readCheck_37 rfl rfl ?_
    refine V.callVi (d' := 0) (as := [vI (19 : Int32), vL w5.1]) (st := []) dX4_readCheck_38 meX0_emit mlX4_67 imX0_emit seX0_emit clsX0 rfl (by omega) (Nat.le_of_ble_eq_true rfl) rfl rfl h (fun v hv => lift_X0_emit hv) (fun w7 h => ?_)
    refine V.pop dX4_readCheck_41 rfl rfl ?_
    refine V.aload_n (n := 1) dX4_readCheck_42 rfl rfl ?_
    refine V.bipush (x := 59) dX4_readCheck_43 (by decide) rfl ?_
    refine V.callVi (d' := 1) (as := [vI (59 : Int32)]) (st := []) dX4_readCheck_45 meX4_take mlX4_103 imX4_take seX4_take clsX4 rfl (by omega) (Nat.le_of_ble_eq_true rfl) rfl rfl h (fun v hv => lift_X4_take hv) (fun w8 h => ?_)
    refine V.pop dX4_readCheck_48 rfl rfl ?_
    exact V.vret dX4_readCheck_49 rfl h
  exact hh
def J_X4_readSteps_2 (rF : Option Nat → Int32 → Mem → Option (Unit × Mem)) : Nat → Option Nat → Int32 → Int32 → Mem → Option (Unit × Mem)
  | 0 => fun _ _ _ _ => none
  | n + 1 => fun v0 v1 v2 M =>
  if (900 : Int32) < v2 then
  (some ((), M))
  else
  ((ck M 4 v0).bind fun _ => (L_X4_kind v0 M).bind fun w1 =>
  if w1.1 = (125 : Int32) then
  (some ((), w1.2))
  else
  ((fI w1.2 4 5 v0).bind fun x2 =>
  if ¬ x2 = 0 then
  (some ((), w1.2))
  else
  ((ck w1.2 4 v0).bind fun _ => (rF v0 v1 w1.2).bind fun w3 =>
  J_X4_readSteps_2 rF n v0 v1 (v2 + 1) w3.2)))
set_option maxRecDepth 20000 in
set_option maxHeartbeats 4000000 in
theorem lab_X4_readSteps_2 {G : Gt} {M0 M9 : Mem} {x9 : Unit} {dr : Nat} {rF : Option Nat → Int32 → Mem → Option (Unit × Mem)} (hrF : ∀ (a0 : Option Nat) (a1 : Int32) (Ma : Mem) (v : Unit × Mem), rF a0 a1 Ma = some v → Mt G mX4_readStep dr [vR a0, vI a1] Ma none v.2) : ∀ (n : Nat) (v0 : Option Nat) (v1 : Int32) (v2 : Int32) (M : Mem), J_X4_readSteps_2 rF n v0 v1 v2 M = some (x9, M9) → V G mX4_readSteps (dr + 1) M0 none M9 M 2 [(0, vR v0), (1, vI v1), (2, vI v2)] [] := by
  intro n
  induction n with
  | zero => intro v0 v1 v2 M h; exact nomatch h
  | succ n ih =>
    intro v0 v1 v2 M h
    unfold J_X4_readSteps_2 at h
    refine V.iload_n (n := 2) dX4_readSteps_2 rfl rfl ?_
    refine V.sipush (x := 900) dX4_readSteps_3 (by decide) rfl ?_
    refine V.icmp_gt (q := 36) dX4_readSteps_6 (by decide) rfl h (fun h => ?_) (fun h => ?_)
    · exact V.vret dX4_readSteps_36 rfl h
    · refine V.aload_n (n := 0) dX4_readSteps_9 rfl rfl ?_
      refine V.callVi (d' := 0) (as := []) (st := []) dX4_readSteps_10 meX4_kind mlX4_53 imX4_kind seX4_kind clsX4 rfl (by omega) (Nat.le_of_ble_eq_true rfl) rfl rfl h (fun v hv => lift_X4_kind hv) (fun w1 h => ?_)
      refine V.bipush (x := 125) dX4_readSteps_13 (by decide) rfl ?_
      refine V.icmp_eq (q := 36) dX4_readSteps_15 (by decide) rfl h (fun h => ?_) (fun h => ?_)
      · exact V.vret dX4_readSteps_36 rfl h
      · refine V.aload_n (n := 0) dX4_readSteps_18 rfl rfl ?_
        refine V.getI dX4_readSteps_19 lkX4_46 rfl rfl h (fun x2 h => ?_)
        refine V.if_ne (q := 36) dX4_readSteps_22 (by decide) rfl h (fun h => ?_) (fun h => ?_)
        · exact V.vret dX4_readSteps_36 rfl h
        · refine V.aload_n (n := 0) dX4_readSteps_25 rfl rfl ?_
          refine V.iload_n (n := 1) dX4_readSteps_26 rfl rfl ?_
          refine V.callVv (d' := dr) (as := [vI v1]) (st := []) dX4_readSteps_27 meX4_readStep mlX4_63 imX4_readStep seX4_readStep clsX4 rfl (by omega) (Nat.le_of_ble_eq_true rfl) rfl rfl h (fun v hv => hrF _ _ _ v hv) (fun w3 h => ?_)
          refine V.iinc (n := 2) (x := v2 + 1) dX4_readSteps_30 rfl (by rfl) (by decide) rfl rfl ?_
          refine V.goto (q := 2) dX4_readSteps_33 (by decide) ?_
          exact V.sub [1, 2, 0] rfl (ih _ _ _ _ h)
def L_X4_readSteps (rF : Option Nat → Int32 → Mem → Option (Unit × Mem)) (v0 : Option Nat) (v1 : Int32) (M : Mem) : Option (Unit × Mem) :=
  J_X4_readSteps_2 rF FU v0 v1 (0 : Int32) M
set_option maxRecDepth 20000 in
set_option maxHeartbeats 4000000 in
theorem lift_X4_readSteps {G : Gt} {M M9 : Mem} {x9 : Unit} {v0 : Option Nat} {v1 : Int32} {dr : Nat} {rF : Option Nat → Int32 → Mem → Option (Unit × Mem)} (hrF : ∀ (a0 : Option Nat) (a1 : Int32) (Ma : Mem) (v : Unit × Mem), rF a0 a1 Ma = some v → Mt G mX4_readStep dr [vR a0, vI a1] Ma none v.2) (h : L_X4_readSteps rF v0 v1 M = some (x9, M9)) : Mt G mX4_readSteps (dr + 1) [vR v0, vI v1] M none M9 := by
  unfold L_X4_readSteps at h
  refine Mt.of (by decide +kernel) (Nat.le_of_ble_eq_true rfl) ?_
  have hh : V G mX4_readSteps (dr + 1) M none M9 M 0 [(0, vR v0), (1, vI v1)] [] := by
    refine V.iconst (x := 0) dX4_readSteps_0 (by decide) rfl ?_
    refine V.istore_n dX4_readSteps_1 rfl (by decide) rfl rfl ?_
    exact V.sub [1, 2, 0] rfl (lab_X4_readSteps_2 hrF FU _ _ _ _ h)
  exact hh
def L_X4_readTry (rF : Option Nat → Int32 → Mem → Option (Unit × Mem)) (v0 : Option Nat) (v1 : Int32) (M : Mem) : Option (Unit × Mem) :=
  (fI M 4 2 v0).bind fun x1 =>
  (pI M 4 2 v0 (x1 + (1 : Int32))).bind fun M2 =>
  (ck M2 4 v0).bind fun _ => (L_X4_take v0 (123 : Int32) M2).bind fun w3 =>
  (fR w3.2 4 1 v0).bind fun x4 =>
  (ck w3.2 0 x4).bind fun _ => (L_X0_openTry x4 w3.2).bind fun w5 =>
  (ck w5.2 4 v0).bind fun _ => (L_X4_readSteps rF v0 v1 w5.2).bind fun w6 =>
  (ck w6.2 4 v0).bind fun _ => (L_X4_take v0 (125 : Int32) w6.2).bind fun w7 =>
  (fR w7.2 4 1 v0).bind fun x8 =>
  (ck w7.2 0 x8).bind fun _ => (L_X0_emit x8 (14 : Int32) (0 : Int64) w7.2).bind fun w9 =>
  (fR w9.2 4 1 v0).bind fun x10 =>
  (ck w9.2 0 x10).bind fun _ => (L_X0_closeTry x10 w5.1 w9.2).bind fun w11 =>
  (ck w11.2 4 v0).bind fun _ => (L_X4_take v0 (306 : Int32) w11.2).bind fun w12 =>
  (ck w12.2 4 v0).bind fun _ => (L_X4_take v0 (123 : Int32) w12.2).bind fun w13 =>
  (ck w13.2 4 v0).bind fun _ => (L_X4_readSteps rF v0 v1 w13.2).bind fun w14 =>
  (ck w14.2 4 v0).bind fun _ => (L_X4_take v0 (125 : Int32) w14.2).bind fun w15 =>
  (fR w15.2 4 1 v0).bind fun x16 =>
  (ck w15.2 0 x16).bind fun _ => (L_X0_landHere x16 w9.1 w15.2).bind fun w17 =>
  some ((), w17.2)
set_option maxRecDepth 20000 in
set_option maxHeartbeats 4000000 in
theorem lift_X4_readTry {G : Gt} {M M9 : Mem} {x9 : Unit} {v0 : Option Nat} {v1 : Int32} {dr : Nat} {rF : Option Nat → Int32 → Mem → Option (Unit × Mem)} (hrF : ∀ (a0 : Option Nat) (a1 : Int32) (Ma : Mem) (v : Unit × Mem), rF a0 a1 Ma = some v → Mt G mX4_readStep dr [vR a0, vI a1] Ma none v.2) (h : L_X4_readTry rF v0 v1 M = some (x9, M9)) : Mt G mX4_readTry (dr + 2) [vR v0, vI v1] M none M9 := by
  unfold L_X4_readTry at h
  refine Mt.of (by decide +kernel) (Nat.le_of_ble_eq_true rfl) ?_
  have hh : V G mX4_readTry (dr + 2) M none M9 M 0 [(0, vR v0), (1, vI v1)] [] := by
    refine V.aload_n (n := 0) dX4_readTry_0 rfl rfl ?_
    refine V.dup dX4_readTry_1 rfl rfl ?_
    refine V.getI dX4_readTry_2 lkX4_37 rfl rfl h (fun x1 h => ?_)
    refine V.iconst (x := 1) dX4_readTry_5 (by decide) rfl ?_
    refine V.iadd dX4_readTry_6 rfl ?_
    refine V.putI dX4_readTry_7 lkX4_37 (Or.inl rfl) rfl rfl h (fun M2 h => ?_)
    refine V.aload_n (n := 0) dX4_readTry_10 rfl rfl ?_
    refine V.bipush (x := 123) dX4_readTry_11 (by decide) rfl ?_
    refine V.callVi (d' := 1) (as := [vI (123 : Int32)]) (st := []) dX4_readTry_13 meX4_take mlX4_103 imX4_take seX4_take clsX4 rfl (by omega) (Nat.le_of_ble_eq_true rfl) rfl rfl h (fun v hv => lift_X4_take hv) (fun w3 h => ?_)
    refine V.pop dX4_readTry_16 rfl rfl ?_
    refine V.aload_n (n := 0) dX4_readTry_17 rfl rfl ?_
    refine V.getR dX4_readTry_18 lkX4_18 rfl rfl h (fun x4 h => ?_)
    refine V.callVi (d' := 0) (as := []) (st := []) dX4_readTry_21 meX0_openTry mlX4_194 imX0_openTry seX0_openTry clsX0 rfl (by omega) (Nat.le_of_ble_eq_true rfl) rfl rfl h (fun v hv => lift_X0_openTry hv) (fun w5 h => ?_)
    refine V.istore_n dX4_readTry_24 rfl (by decide) rfl rfl ?_
    refine V.aload_n (n := 1) dX4_readTry_25 rfl rfl ?_
    refine V.iload_n (n := 2) dX4_readTry_26 rfl rfl ?_
    refine V.callVv (d' := dr + 1) (as := [vI v1]) (st := []) dX4_readTry_27 meX4_readSteps mlX4_197 imX4_readSteps seX4_readSteps clsX4 rfl (by omega) (Nat.le_of_ble_eq_true rfl) rfl rfl h (fun v hv => lift_X4_readSteps hrF hv) (fun w6 h => ?_)
    refine V.aload_n (n := 1) dX4_readTry_30 rfl rfl ?_
    refine V.bipush (x := 125) dX4_readTry_31 (by decide) rfl ?_
    refine V.callVi (d' := 1) (as := [vI (125 : Int32)]) (st := []) dX4_readTry_33 meX4_take mlX4_103 imX4_take seX4_take clsX4 rfl (by omega) (Nat.le_of_ble_eq_true rfl) rfl rfl h (fun v hv => lift_X4_take hv) (fun w7 h => ?_)
    refine V.pop dX4_readTry_36 rfl rfl ?_
    refine V.aload_n (n := 1) dX4_readTry_37 rfl rfl ?_
    refine V.getR dX4_readTry_38 lkX4_18 rfl rfl h (fun x8 h => ?_)
    refine V.bipush (x := 14) dX4_readTry_41 (by decide) rfl ?_
    refine V.lconst (x := 0) dX4_readTry_43 (by decide) rfl ?_
    refine V.callVi (d' := 0) (as := [vI (14 : Int32), vL (0 : Int64)]) (st := []) dX4_readTry_44 meX0_emit mlX4_67 imX0_emit seX0_emit clsX0 rfl (by omega) (Nat.le_of_ble_eq_true rfl) rfl rfl h (fun v hv => lift_X0_emit hv) (fun w9 h => ?_)
    refine V.istore_n dX4_readTry_47 rfl (by decide) rfl rfl ?_
    refine V.aload_n (n := 2) dX4_readTry_48 rfl rfl ?_
    refine V.getR dX4_readTry_49 lkX4_18 rfl rfl h (fun x10 h => ?_)
    refine V.iload_n (n := 1) dX4_readTry_52 rfl rfl ?_
    refine V.callVv (d' := 0) (as := [vI w5.1]) (st := []) dX4_readTry_53 meX0_closeTry mlX4_200 imX0_closeTry seX0_closeTry clsX0 rfl (by omega) (Nat.le_of_ble_eq_true rfl) rfl rfl h (fun v hv => lift_X0_closeTry hv) (fun w11 h => ?_)
    refine V.aload_n (n := 2) dX4_readTry_56 rfl rfl ?_
    refine V.sipush (x := 306) dX4_readTry_57 (by decide) rfl ?_
    refine V.callVi (d' := 1) (as := [vI (306 : Int32)]) (st := []) dX4_readTry_60 meX4_take mlX4_103 imX4_take seX4_take clsX4 rfl (by omega) (Nat.le_of_ble_eq_true rfl) rfl rfl h (fun v hv => lift_X4_take hv) (fun w12 h => ?_)
    refine V.pop dX4_readTry_63 rfl rfl ?_
    refine V.aload_n (n := 2) dX4_readTry_64 rfl rfl ?_
    refine V.bipush (x := 123) dX4_readTry_65 (by decide) rfl ?_
    refine V.callVi (d' := 1) (as := [vI (123 : Int32)]) (st := []) dX4_readTry_67 meX4_take mlX4_103 imX4_take seX4_take clsX4 rfl (by omega) (Nat.le_of_ble_eq_true rfl) rfl rfl h (fun v hv => lift_X4_take hv) (fun w13 h => ?_)
    refine V.pop dX4_readTry_70 rfl rfl ?_
    refine V.aload_n (n := 2) dX4_readTry_71 rfl rfl ?_
    refine V.iload_n (n := 3) dX4_readTry_72 rfl rfl ?_
    refine V.callVv (d' := dr + 1) (as := [vI v1]) (st := []) dX4_readTry_73 meX4_readSteps mlX4_197 imX4_readSteps seX4_readSteps clsX4 rfl (by omega) (Nat.le_of_ble_eq_true rfl) rfl rfl h (fun v hv => lift_X4_readSteps hrF hv) (fun w14 h => ?_)
    refine V.aload_n (n := 2) dX4_readTry_76 rfl rfl ?_
    refine V.bipush (x := 125) dX4_readTry_77 (by decide) rfl ?_
    refine V.callVi (d' := 1) (as := [vI (125 : Int32)]) (st := []) dX4_readTry_79 meX4_take mlX4_103 imX4_take seX4_take clsX4 rfl (by omega) (Nat.le_of_ble_eq_true rfl) rfl rfl h (fun v hv => lift_X4_take hv) (fun w15 h => ?_)
    refine V.pop dX4_readTry_82 rfl rfl ?_
    refine V.aload_n (n := 2) dX4_readTry_83 rfl rfl ?_
    refine V.getR dX4_readTry_84 lkX4_18 rfl rfl h (fun x16 h => ?_)
    refine V.iload_n (n := 0) dX4_readTry_87 rfl rfl ?_
    refine V.callVv (d' := 0) (as := [vI w9.1]) (st := []) dX4_readTry_88 meX0_landHere mlX4_142 imX0_landHere seX0_landHere clsX0 rfl (by omega) (Nat.le_of_ble_eq_true rfl) rfl rfl h (fun v hv => lift_X0_landHere hv) (fun w17 h => ?_)
    exact V.vret dX4_readTry_91 rfl h
  exact hh
