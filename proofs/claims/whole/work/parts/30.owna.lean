def L_X0_init (v0 : Option Nat) (M : Mem) : Option (Unit × Mem) :=
  if v0 = none then none else
  (nA M 20 (1024 : Int32)).bind fun M1 =>
  (pR M1 0 4 v0 (some (nc M))).bind fun M2 =>
  (nA M2 21 (1024 : Int32)).bind fun M3 =>
  (pR M3 0 5 v0 (some (nc M2))).bind fun M4 =>
  (nA M4 21 (8 : Int32)).bind fun M5 =>
  (pR M5 0 7 v0 (some (nc M4))).bind fun M6 =>
  (nA M6 20 (8 : Int32)).bind fun M7 =>
  (pR M7 0 8 v0 (some (nc M6))).bind fun M8 =>
  (nA M8 21 (6 : Int32)).bind fun M9 =>
  (pR M9 0 10 v0 (some (nc M8))).bind fun M10 =>
  (nA M10 20 (6 : Int32)).bind fun M11 =>
  (pR M11 0 11 v0 (some (nc M10))).bind fun M12 =>
  (nA M12 20 (40 : Int32)).bind fun M13 =>
  (pR M13 0 13 v0 (some (nc M12))).bind fun M14 =>
  (nA M14 20 (40 : Int32)).bind fun M15 =>
  (pR M15 0 14 v0 (some (nc M14))).bind fun M16 =>
  (nA M16 20 (40 : Int32)).bind fun M17 =>
  (pR M17 0 15 v0 (some (nc M16))).bind fun M18 =>
  some ((), M18)
set_option maxRecDepth 20000 in
set_option maxHeartbeats 4000000 in
theorem lift_X0_init {G : Gt} {M M9 : Mem} {x9 : Unit} {v0 : Option Nat} (h : L_X0_init v0 M = some (x9, M9)) : Mt G mX0_init 1 [vR v0] M none M9 := by
  unfold L_X0_init at h
  refine Mt.of (by decide +kernel) (Nat.le_of_ble_eq_true rfl) ?_
  have hh : V G mX0_init 1 M none M9 M 0 [(0, vR v0)] [] := by
    refine V.aload_n (n := 0) dX0_init_0 rfl rfl ?_
    refine V.objInitR dX0_init_1 oiX0_3 oim oic (by omega) rfl h (fun h => ?_)
    refine V.aload_n (n := 0) dX0_init_4 rfl rfl ?_
    refine V.sipush (x := 1024) dX0_init_5 (by decide) rfl ?_
    refine V.newa (k := 20) dX0_init_8 rfl ac20 (by decide) (by decide) rfl h (fun M1 h => ?_)
    refine V.putR dX0_init_10 lkX0_9 (Or.inr ⟨rfl, rfl⟩) rfl rfl h (fun M2 h => ?_)
    refine V.aload_n (n := 0) dX0_init_13 rfl rfl ?_
    refine V.sipush (x := 1024) dX0_init_14 (by decide) rfl ?_
    refine V.newa (k := 21) dX0_init_17 rfl ac21 (by decide) (by decide) rfl h (fun M3 h => ?_)
    refine V.putR dX0_init_19 lkX0_15 (Or.inr ⟨rfl, rfl⟩) rfl rfl h (fun M4 h => ?_)
    refine V.aload_n (n := 0) dX0_init_22 rfl rfl ?_
    refine V.bipush (x := 8) dX0_init_23 (by decide) rfl ?_
    refine V.newa (k := 21) dX0_init_25 rfl ac21 (by decide) (by decide) rfl h (fun M5 h => ?_)
    refine V.putR dX0_init_27 lkX0_19 (Or.inr ⟨rfl, rfl⟩) rfl rfl h (fun M6 h => ?_)
    refine V.aload_n (n := 0) dX0_init_30 rfl rfl ?_
    refine V.bipush (x := 8) dX0_init_31 (by decide) rfl ?_
    refine V.newa (k := 20) dX0_init_33 rfl ac20 (by decide) (by decide) rfl h (fun M7 h => ?_)
    refine V.putR dX0_init_35 lkX0_22 (Or.inr ⟨rfl, rfl⟩) rfl rfl h (fun M8 h => ?_)
    refine V.aload_n (n := 0) dX0_init_38 rfl rfl ?_
    refine V.bipush (x := 6) dX0_init_39 (by decide) rfl ?_
    refine V.newa (k := 21) dX0_init_41 rfl ac21 (by decide) (by decide) rfl h (fun M9 h => ?_)
    refine V.putR dX0_init_43 lkX0_25 (Or.inr ⟨rfl, rfl⟩) rfl rfl h (fun M10 h => ?_)
    refine V.aload_n (n := 0) dX0_init_46 rfl rfl ?_
    refine V.bipush (x := 6) dX0_init_47 (by decide) rfl ?_
    refine V.newa (k := 20) dX0_init_49 rfl ac20 (by decide) (by decide) rfl h (fun M11 h => ?_)
    refine V.putR dX0_init_51 lkX0_28 (Or.inr ⟨rfl, rfl⟩) rfl rfl h (fun M12 h => ?_)
    refine V.aload_n (n := 0) dX0_init_54 rfl rfl ?_
    refine V.bipush (x := 40) dX0_init_55 (by decide) rfl ?_
    refine V.newa (k := 20) dX0_init_57 rfl ac20 (by decide) (by decide) rfl h (fun M13 h => ?_)
    refine V.putR dX0_init_59 lkX0_31 (Or.inr ⟨rfl, rfl⟩) rfl rfl h (fun M14 h => ?_)
    refine V.aload_n (n := 0) dX0_init_62 rfl rfl ?_
    refine V.bipush (x := 40) dX0_init_63 (by decide) rfl ?_
    refine V.newa (k := 20) dX0_init_65 rfl ac20 (by decide) (by decide) rfl h (fun M15 h => ?_)
    refine V.putR dX0_init_67 lkX0_34 (Or.inr ⟨rfl, rfl⟩) rfl rfl h (fun M16 h => ?_)
    refine V.aload_n (n := 0) dX0_init_70 rfl rfl ?_
    refine V.bipush (x := 40) dX0_init_71 (by decide) rfl ?_
    refine V.newa (k := 20) dX0_init_73 rfl ac20 (by decide) (by decide) rfl h (fun M17 h => ?_)
    refine V.putR dX0_init_75 lkX0_37 (Or.inr ⟨rfl, rfl⟩) rfl rfl h (fun M18 h => ?_)
    exact V.vret dX0_init_78 rfl h
  exact hh
def L_X0_clear (v0 : Option Nat) (M : Mem) : Option (Unit × Mem) :=
  (pI M 0 0 v0 (-1 : Int32)).bind fun M1 =>
  (pI M1 0 1 v0 (0 : Int32)).bind fun M2 =>
  (pI M2 0 2 v0 (0 : Int32)).bind fun M3 =>
  (pI M3 0 3 v0 (-1 : Int32)).bind fun M4 =>
  (pI M4 0 6 v0 (0 : Int32)).bind fun M5 =>
  (pI M5 0 9 v0 (0 : Int32)).bind fun M6 =>
  (pI M6 0 12 v0 (0 : Int32)).bind fun M7 =>
  (pI M7 0 16 v0 (0 : Int32)).bind fun M8 =>
  some ((), M8)
set_option maxRecDepth 20000 in
set_option maxHeartbeats 4000000 in
theorem lift_X0_clear {G : Gt} {M M9 : Mem} {x9 : Unit} {v0 : Option Nat} (h : L_X0_clear v0 M = some (x9, M9)) : Mt G mX0_clear 0 [vR v0] M none M9 := by
  unfold L_X0_clear at h
  refine Mt.of (by decide +kernel) (Nat.le_of_ble_eq_true rfl) ?_
  have hh : V G mX0_clear 0 M none M9 M 0 [(0, vR v0)] [] := by
    refine V.aload_n (n := 0) dX0_clear_0 rfl rfl ?_
    refine V.iconst (x := (-1)) dX0_clear_1 (by decide) rfl ?_
    refine V.putI dX0_clear_2 lkX0_40 (Or.inl rfl) rfl rfl h (fun M1 h => ?_)
    refine V.aload_n (n := 0) dX0_clear_5 rfl rfl ?_
    refine V.iconst (x := 0) dX0_clear_6 (by decide) rfl ?_
    refine V.putI dX0_clear_7 lkX0_44 (Or.inl rfl) rfl rfl h (fun M2 h => ?_)
    refine V.aload_n (n := 0) dX0_clear_10 rfl rfl ?_
    refine V.iconst (x := 0) dX0_clear_11 (by decide) rfl ?_
    refine V.putI dX0_clear_12 lkX0_47 (Or.inl rfl) rfl rfl h (fun M3 h => ?_)
    refine V.aload_n (n := 0) dX0_clear_15 rfl rfl ?_
    refine V.iconst (x := (-1)) dX0_clear_16 (by decide) rfl ?_
    refine V.putI dX0_clear_17 lkX0_50 (Or.inl rfl) rfl rfl h (fun M4 h => ?_)
    refine V.aload_n (n := 0) dX0_clear_20 rfl rfl ?_
    refine V.iconst (x := 0) dX0_clear_21 (by decide) rfl ?_
    refine V.putI dX0_clear_22 lkX0_53 (Or.inl rfl) rfl rfl h (fun M5 h => ?_)
    refine V.aload_n (n := 0) dX0_clear_25 rfl rfl ?_
    refine V.iconst (x := 0) dX0_clear_26 (by decide) rfl ?_
    refine V.putI dX0_clear_27 lkX0_56 (Or.inl rfl) rfl rfl h (fun M6 h => ?_)
    refine V.aload_n (n := 0) dX0_clear_30 rfl rfl ?_
    refine V.iconst (x := 0) dX0_clear_31 (by decide) rfl ?_
    refine V.putI dX0_clear_32 lkX0_59 (Or.inl rfl) rfl rfl h (fun M7 h => ?_)
    refine V.aload_n (n := 0) dX0_clear_35 rfl rfl ?_
    refine V.iconst (x := 0) dX0_clear_36 (by decide) rfl ?_
    refine V.putI dX0_clear_37 lkX0_62 (Or.inl rfl) rfl rfl h (fun M8 h => ?_)
    exact V.vret dX0_clear_40 rfl h
  exact hh
def L_X0_emit (v0 : Option Nat) (v1 : Int32) (v2 : Int64) (M : Mem) : Option (Int32 × Mem) :=
  (fI M 0 6 v0).bind fun x1 =>
  (fR M 0 4 v0).bind fun x2 =>
  (aN M x2).bind fun x3 =>
  if x1 < x3 then
  ((fR M 0 4 v0).bind fun x4 =>
  (fI M 0 6 v0).bind fun x5 =>
  (uI M 20 x4 x5 v1).bind fun M6 =>
  (fR M6 0 5 v0).bind fun x7 =>
  (fI M6 0 6 v0).bind fun x8 =>
  (uL M6 21 x7 x8 v2).bind fun M9 =>
  (fI M9 0 6 v0).bind fun x10 =>
  (pI M9 0 6 v0 (x10 + (1 : Int32))).bind fun M11 =>
  (fI M11 0 6 v0).bind fun x12 =>
  some (x12 - (1 : Int32), M11))
  else
  (some ((-1 : Int32), M))
set_option maxRecDepth 20000 in
set_option maxHeartbeats 4000000 in
theorem lift_X0_emit {G : Gt} {M M9 : Mem} {x9 : Int32} {v0 : Option Nat} {v1 : Int32} {v2 : Int64} (h : L_X0_emit v0 v1 v2 M = some (x9, M9)) : Mt G mX0_emit 0 [vR v0, vI v1, vL v2] M (some (vI x9)) M9 := by
  unfold L_X0_emit at h
  refine Mt.of (by decide +kernel) (Nat.le_of_ble_eq_true rfl) ?_
  have hh : V G mX0_emit 0 M (some (vI x9)) M9 M 0 [(0, vR v0), (1, vI v1), (2, vL v2)] [] := by
    refine V.aload_n (n := 0) dX0_emit_0 rfl rfl ?_
    refine V.getI dX0_emit_1 lkX0_53 rfl rfl h (fun x1 h => ?_)
    refine V.aload_n (n := 0) dX0_emit_4 rfl rfl ?_
    refine V.getR dX0_emit_5 lkX0_9 rfl rfl h (fun x2 h => ?_)
    refine V.alen dX0_emit_8 rfl h (fun x3 h => ?_)
    refine V.icmp_lt (q := 14) dX0_emit_9 (by decide) rfl h (fun h => ?_) (fun h => ?_)
    · refine V.aload_n (n := 0) dX0_emit_14 rfl rfl ?_
      refine V.getR dX0_emit_15 lkX0_9 rfl rfl h (fun x4 h => ?_)
      refine V.aload_n (n := 0) dX0_emit_18 rfl rfl ?_
      refine V.getI dX0_emit_19 lkX0_53 rfl rfl h (fun x5 h => ?_)
      refine V.iload_n (n := 1) dX0_emit_22 rfl rfl ?_
      refine V.iast dX0_emit_23 rfl h (fun M6 h => ?_)
      refine V.aload_n (n := 0) dX0_emit_24 rfl rfl ?_
      refine V.getR dX0_emit_25 lkX0_15 rfl rfl h (fun x7 h => ?_)
      refine V.aload_n (n := 0) dX0_emit_28 rfl rfl ?_
      refine V.getI dX0_emit_29 lkX0_53 rfl rfl h (fun x8 h => ?_)
      refine V.lload_n (n := 2) dX0_emit_32 rfl rfl ?_
      refine V.last dX0_emit_33 rfl h (fun M9 h => ?_)
      refine V.aload_n (n := 0) dX0_emit_34 rfl rfl ?_
      refine V.dup dX0_emit_35 rfl rfl ?_
      refine V.getI dX0_emit_36 lkX0_53 rfl rfl h (fun x10 h => ?_)
      refine V.iconst (x := 1) dX0_emit_39 (by decide) rfl ?_
      refine V.iadd dX0_emit_40 rfl ?_
      refine V.putI dX0_emit_41 lkX0_53 (Or.inl rfl) rfl rfl h (fun M11 h => ?_)
      refine V.aload_n (n := 0) dX0_emit_44 rfl rfl ?_
      refine V.getI dX0_emit_45 lkX0_53 rfl rfl h (fun x12 h => ?_)
      refine V.iconst (x := 1) dX0_emit_48 (by decide) rfl ?_
      refine V.isub dX0_emit_49 rfl ?_
      exact V.iret dX0_emit_50 rfl h
    · refine V.iconst (x := (-1)) dX0_emit_12 (by decide) rfl ?_
      exact V.iret dX0_emit_13 rfl h
  exact hh
def L_X0_emitReference (v0 : Option Nat) (v1 : Int32) (v2 : Int32) (v3 : Int64) (M : Mem) : Option (Unit × Mem) :=
  (ck M 0 v0).bind fun _ => (L_X0_emit v0 v1 ((v2.toInt64 <<< ((40 : Int32).toInt64 &&& 63)) ||| v3) M).bind fun w1 =>
  some ((), w1.2)
set_option maxRecDepth 20000 in
set_option maxHeartbeats 4000000 in
theorem lift_X0_emitReference {G : Gt} {M M9 : Mem} {x9 : Unit} {v0 : Option Nat} {v1 : Int32} {v2 : Int32} {v3 : Int64} (h : L_X0_emitReference v0 v1 v2 v3 M = some (x9, M9)) : Mt G mX0_emitReference 1 [vR v0, vI v1, vI v2, vL v3] M none M9 := by
  unfold L_X0_emitReference at h
  refine Mt.of (by decide +kernel) (Nat.le_of_ble_eq_true rfl) ?_
  have hh : V G mX0_emitReference 1 M none M9 M 0 [(0, vR v0), (1, vI v1), (2, vI v2), (3, vL v3)] [] := by
    refine V.aload_n (n := 0) dX0_emitReference_0 rfl rfl ?_
    refine V.iload_n (n := 1) dX0_emitReference_1 rfl rfl ?_
    refine V.iload_n (n := 2) dX0_emitReference_2 rfl rfl ?_
    refine V.i2l dX0_emitReference_3 rfl ?_
    refine V.bipush (x := 40) dX0_emitReference_4 (by decide) rfl ?_
    refine V.lshl dX0_emitReference_6 rfl ?_
    refine V.lload_n (n := 3) dX0_emitReference_7 rfl rfl ?_
    refine V.lor dX0_emitReference_8 rfl ?_
    refine V.callVi (d' := 0) (as := [vI v1, vL ((v2.toInt64 <<< ((40 : Int32).toInt64 &&& 63)) ||| v3)]) (st := []) dX0_emitReference_9 meX0_emit mlX0_65 imX0_emit seX0_emit clsX0 rfl (by omega) (Nat.le_of_ble_eq_true rfl) rfl rfl h (fun v hv => lift_X0_emit hv) (fun w1 h => ?_)
    refine V.pop dX0_emitReference_12 rfl rfl ?_
    exact V.vret dX0_emitReference_13 rfl h
  exact hh
def L_X0_landHere (v0 : Option Nat) (v1 : Int32) (M : Mem) : Option (Unit × Mem) :=
  if v1 < 0 then
  (some ((), M))
  else
  ((fI M 0 6 v0).bind fun x1 =>
  if x1 ≤ v1 then
  (some ((), M))
  else
  ((fR M 0 5 v0).bind fun x2 =>
  (fI M 0 6 v0).bind fun x3 =>
  (uL M 21 x2 v1 x3.toInt64).bind fun M4 =>
  some ((), M4)))
set_option maxRecDepth 20000 in
set_option maxHeartbeats 4000000 in
theorem lift_X0_landHere {G : Gt} {M M9 : Mem} {x9 : Unit} {v0 : Option Nat} {v1 : Int32} (h : L_X0_landHere v0 v1 M = some (x9, M9)) : Mt G mX0_landHere 0 [vR v0, vI v1] M none M9 := by
  unfold L_X0_landHere at h
  refine Mt.of (by decide +kernel) (Nat.le_of_ble_eq_true rfl) ?_
  have hh : V G mX0_landHere 0 M none M9 M 0 [(0, vR v0), (1, vI v1)] [] := by
    refine V.iload_n (n := 1) dX0_landHere_0 rfl rfl ?_
    refine V.if_lt (q := 23) dX0_landHere_1 (by decide) rfl h (fun h => ?_) (fun h => ?_)
    · exact V.vret dX0_landHere_23 rfl h
    · refine V.iload_n (n := 1) dX0_landHere_4 rfl rfl ?_
      refine V.aload_n (n := 0) dX0_landHere_5 rfl rfl ?_
      refine V.getI dX0_landHere_6 lkX0_53 rfl rfl h (fun x1 h => ?_)
      refine V.icmp_ge (q := 23) dX0_landHere_9 (by decide) rfl h (fun h => ?_) (fun h => ?_)
      · exact V.vret dX0_landHere_23 rfl h
      · refine V.aload_n (n := 0) dX0_landHere_12 rfl rfl ?_
        refine V.getR dX0_landHere_13 lkX0_15 rfl rfl h (fun x2 h => ?_)
        refine V.iload_n (n := 1) dX0_landHere_16 rfl rfl ?_
        refine V.aload_n (n := 0) dX0_landHere_17 rfl rfl ?_
        refine V.getI dX0_landHere_18 lkX0_53 rfl rfl h (fun x3 h => ?_)
        refine V.i2l dX0_landHere_21 rfl ?_
        refine V.last dX0_landHere_22 rfl h (fun M4 h => ?_)
        exact V.vret dX0_landHere_23 rfl h
  exact hh
def J_X10_positionOf_3 : Nat → Option Nat → Int32 → Int64 → Int32 → Mem → Option (Int32 × Mem)
  | 0 => fun _ _ _ _ _ => none
  | n + 1 => fun v0 v1 v2 v4 M =>
  if v1 ≤ v4 then
  (some ((-1 : Int32), M))
  else
  ((aN M v0).bind fun x1 =>
  if x1 ≤ v4 then
  (some ((-1 : Int32), M))
  else
  ((aL M 21 v0 v4).bind fun x2 =>
  if ¬ x2 = v2 then
  (J_X10_positionOf_3 n v0 v1 v2 (v4 + 1) M)
  else
  (some (v4, M))))
set_option maxRecDepth 20000 in
set_option maxHeartbeats 4000000 in
theorem lab_X10_positionOf_3 {G : Gt} {M0 M9 : Mem} {x9 : Int32} : ∀ (n : Nat) (v0 : Option Nat) (v1 : Int32) (v2 : Int64) (v4 : Int32) (M : Mem), J_X10_positionOf_3 n v0 v1 v2 v4 M = some (x9, M9) → V G mX10_positionOf 0 M0 (some (vI x9)) M9 M 3 [(0, vR v0), (1, vI v1), (2, vL v2), (4, vI v4)] [] := by
  intro n
  induction n with
  | zero => intro v0 v1 v2 v4 M h; exact nomatch h
  | succ n ih =>
    intro v0 v1 v2 v4 M h
    unfold J_X10_positionOf_3 at h
    refine V.iload (n := 3) dX10_positionOf_3 rfl rfl ?_
    refine V.iload_n (n := 1) dX10_positionOf_5 rfl rfl ?_
    refine V.icmp_ge (q := 34) dX10_positionOf_6 (by decide) rfl h (fun h => ?_) (fun h => ?_)
    · refine V.iconst (x := (-1)) dX10_positionOf_34 (by decide) rfl ?_
      exact V.iret dX10_positionOf_35 rfl h
    · refine V.iload (n := 3) dX10_positionOf_9 rfl rfl ?_
      refine V.aload_n (n := 0) dX10_positionOf_11 rfl rfl ?_
      refine V.alen dX10_positionOf_12 rfl h (fun x1 h => ?_)
      refine V.icmp_ge (q := 34) dX10_positionOf_13 (by decide) rfl h (fun h => ?_) (fun h => ?_)
      · refine V.iconst (x := (-1)) dX10_positionOf_34 (by decide) rfl ?_
        exact V.iret dX10_positionOf_35 rfl h
      · refine V.aload_n (n := 0) dX10_positionOf_16 rfl rfl ?_
        refine V.iload (n := 3) dX10_positionOf_17 rfl rfl ?_
        refine V.lald dX10_positionOf_19 rfl h (fun x2 h => ?_)
        refine V.lload_n (n := 2) dX10_positionOf_20 rfl rfl ?_
        refine V.lif_ne (q := 28) dX10_positionOf_21 rfl dX10_positionOf_22 (by decide) rfl h (fun h => ?_) (fun h => ?_)
        · refine V.iinc (n := 3) (x := v4 + 1) dX10_positionOf_28 rfl (by rfl) (by decide) rfl rfl ?_
          refine V.goto (q := 3) dX10_positionOf_31 (by decide) ?_
          exact V.sub [1, 2, 3, 0] rfl (ih _ _ _ _ _ h)
        · refine V.iload (n := 3) dX10_positionOf_25 rfl rfl ?_
          exact V.iret dX10_positionOf_27 rfl h
def L_X10_positionOf (v0 : Option Nat) (v1 : Int32) (v2 : Int64) (M : Mem) : Option (Int32 × Mem) :=
  J_X10_positionOf_3 FU v0 v1 v2 (0 : Int32) M
set_option maxRecDepth 20000 in
set_option maxHeartbeats 4000000 in
theorem lift_X10_positionOf {G : Gt} {M M9 : Mem} {x9 : Int32} {v0 : Option Nat} {v1 : Int32} {v2 : Int64} (h : L_X10_positionOf v0 v1 v2 M = some (x9, M9)) : Mt G mX10_positionOf 0 [vR v0, vI v1, vL v2] M (some (vI x9)) M9 := by
  unfold L_X10_positionOf at h
  refine Mt.of (by decide +kernel) (Nat.le_of_ble_eq_true rfl) ?_
  have hh : V G mX10_positionOf 0 M (some (vI x9)) M9 M 0 [(0, vR v0), (1, vI v1), (2, vL v2)] [] := by
    refine V.iconst (x := 0) dX10_positionOf_0 (by decide) rfl ?_
    refine V.istore dX10_positionOf_1 (by decide) rfl rfl ?_
    exact V.sub [1, 2, 3, 0] rfl (lab_X10_positionOf_3 FU _ _ _ _ _ h)
  exact hh
def L_X0_hasName (v0 : Option Nat) (v1 : Int64) (M : Mem) : Option (Int32 × Mem) :=
  (fR M 0 7 v0).bind fun x1 =>
  (fI M 0 9 v0).bind fun x2 =>
  (L_X10_positionOf x1 x2 v1 M).bind fun w3 =>
  if ¬ w3.1 = (-1 : Int32) then
  ((bz (1 : Int32)).bind fun _ => some ((1 : Int32), w3.2))
  else
  ((fR w3.2 0 10 v0).bind fun x4 =>
  (fI w3.2 0 12 v0).bind fun x5 =>
  (L_X10_positionOf x4 x5 v1 w3.2).bind fun w6 =>
  if w6.1 = (-1 : Int32) then
  ((bz (0 : Int32)).bind fun _ => some ((0 : Int32), w6.2))
  else
  ((bz (1 : Int32)).bind fun _ => some ((1 : Int32), w6.2)))
set_option maxRecDepth 20000 in
set_option maxHeartbeats 4000000 in
theorem lift_X0_hasName {G : Gt} {M M9 : Mem} {x9 : Int32} {v0 : Option Nat} {v1 : Int64} (h : L_X0_hasName v0 v1 M = some (x9, M9)) : Mt G mX0_hasName 1 [vR v0, vL v1] M (some (vI x9)) M9 := by
  unfold L_X0_hasName at h
  refine Mt.of (by decide +kernel) (Nat.le_of_ble_eq_true rfl) ?_
  have hh : V G mX0_hasName 1 M (some (vI x9)) M9 M 0 [(0, vR v0), (1, vL v1)] [] := by
    refine V.aload_n (n := 0) dX0_hasName_0 rfl rfl ?_
    refine V.getR dX0_hasName_1 lkX0_19 rfl rfl h (fun x1 h => ?_)
    refine V.aload_n (n := 0) dX0_hasName_4 rfl rfl ?_
    refine V.getI dX0_hasName_5 lkX0_56 rfl rfl h (fun x2 h => ?_)
    refine V.lload_n (n := 1) dX0_hasName_8 rfl rfl ?_
    refine V.callSNi (d' := 0) (as := [vR x1, vI x2, vL v1]) (st := []) dX0_hasName_9 meX10_positionOf nlX0_69 smX10_positionOf rfl (by omega) (Nat.le_of_ble_eq_true rfl) rfl rfl h (fun v hv => lift_X10_positionOf hv) (fun w3 h => ?_)
    refine V.iconst (x := (-1)) dX0_hasName_12 (by decide) rfl ?_
    refine V.icmp_ne (q := 32) dX0_hasName_13 (by decide) rfl h (fun h => ?_) (fun h => ?_)
    · refine V.iconst (x := 1) dX0_hasName_32 (by decide) rfl ?_
      refine V.goto (q := 37) dX0_hasName_33 (by decide) ?_
      exact V.zret dX0_hasName_37 rfl h
    · refine V.aload_n (n := 0) dX0_hasName_16 rfl rfl ?_
      refine V.getR dX0_hasName_17 lkX0_25 rfl rfl h (fun x4 h => ?_)
      refine V.aload_n (n := 0) dX0_hasName_20 rfl rfl ?_
      refine V.getI dX0_hasName_21 lkX0_59 rfl rfl h (fun x5 h => ?_)
      refine V.lload_n (n := 1) dX0_hasName_24 rfl rfl ?_
      refine V.callSNi (d' := 0) (as := [vR x4, vI x5, vL v1]) (st := []) dX0_hasName_25 meX10_positionOf nlX0_69 smX10_positionOf rfl (by omega) (Nat.le_of_ble_eq_true rfl) rfl rfl h (fun v hv => lift_X10_positionOf hv) (fun w6 h => ?_)
      refine V.iconst (x := (-1)) dX0_hasName_28 (by decide) rfl ?_
      refine V.icmp_eq (q := 36) dX0_hasName_29 (by decide) rfl h (fun h => ?_) (fun h => ?_)
      · refine V.iconst (x := 0) dX0_hasName_36 (by decide) rfl ?_
        exact V.zret dX0_hasName_37 rfl h
      · refine V.iconst (x := 1) dX0_hasName_32 (by decide) rfl ?_
        refine V.goto (q := 37) dX0_hasName_33 (by decide) ?_
        exact V.zret dX0_hasName_37 rfl h
  exact hh
def L_X0_addConst (v0 : Option Nat) (v1 : Int64) (M : Mem) : Option (Unit × Mem) :=
  (fI M 0 9 v0).bind fun x1 =>
  if (8 : Int32) ≤ x1 then
  (some ((), M))
  else
  ((fR M 0 7 v0).bind fun x2 =>
  (fI M 0 9 v0).bind fun x3 =>
  (uL M 21 x2 x3 v1).bind fun M4 =>
  (fR M4 0 8 v0).bind fun x5 =>
  (fI M4 0 9 v0).bind fun x6 =>
  (fI M4 0 6 v0).bind fun x7 =>
  (uI M4 20 x5 x6 x7).bind fun M8 =>
  (fI M8 0 9 v0).bind fun x9 =>
  (pI M8 0 9 v0 (x9 + (1 : Int32))).bind fun M10 =>
  some ((), M10))
set_option maxRecDepth 20000 in
set_option maxHeartbeats 4000000 in
theorem lift_X0_addConst {G : Gt} {M M9 : Mem} {x9 : Unit} {v0 : Option Nat} {v1 : Int64} (h : L_X0_addConst v0 v1 M = some (x9, M9)) : Mt G mX0_addConst 0 [vR v0, vL v1] M none M9 := by
  unfold L_X0_addConst at h
  refine Mt.of (by decide +kernel) (Nat.le_of_ble_eq_true rfl) ?_
  have hh : V G mX0_addConst 0 M none M9 M 0 [(0, vR v0), (1, vL v1)] [] := by
    refine V.aload_n (n := 0) dX0_addConst_0 rfl rfl ?_
    refine V.getI dX0_addConst_1 lkX0_56 rfl rfl h (fun x1 h => ?_)
    refine V.bipush (x := 8) dX0_addConst_4 (by decide) rfl ?_
    refine V.icmp_ge (q := 42) dX0_addConst_6 (by decide) rfl h (fun h => ?_) (fun h => ?_)
    · exact V.vret dX0_addConst_42 rfl h
    · refine V.aload_n (n := 0) dX0_addConst_9 rfl rfl ?_
      refine V.getR dX0_addConst_10 lkX0_19 rfl rfl h (fun x2 h => ?_)
      refine V.aload_n (n := 0) dX0_addConst_13 rfl rfl ?_
      refine V.getI dX0_addConst_14 lkX0_56 rfl rfl h (fun x3 h => ?_)
      refine V.lload_n (n := 1) dX0_addConst_17 rfl rfl ?_
      refine V.last dX0_addConst_18 rfl h (fun M4 h => ?_)
      refine V.aload_n (n := 0) dX0_addConst_19 rfl rfl ?_
      refine V.getR dX0_addConst_20 lkX0_22 rfl rfl h (fun x5 h => ?_)
      refine V.aload_n (n := 0) dX0_addConst_23 rfl rfl ?_
      refine V.getI dX0_addConst_24 lkX0_56 rfl rfl h (fun x6 h => ?_)
      refine V.aload_n (n := 0) dX0_addConst_27 rfl rfl ?_
      refine V.getI dX0_addConst_28 lkX0_53 rfl rfl h (fun x7 h => ?_)
      refine V.iast dX0_addConst_31 rfl h (fun M8 h => ?_)
      refine V.aload_n (n := 0) dX0_addConst_32 rfl rfl ?_
      refine V.dup dX0_addConst_33 rfl rfl ?_
      refine V.getI dX0_addConst_34 lkX0_56 rfl rfl h (fun x9 h => ?_)
      refine V.iconst (x := 1) dX0_addConst_37 (by decide) rfl ?_
      refine V.iadd dX0_addConst_38 rfl ?_
      refine V.putI dX0_addConst_39 lkX0_56 (Or.inl rfl) rfl rfl h (fun M10 h => ?_)
      exact V.vret dX0_addConst_42 rfl h
  exact hh
def L_X0_addTable (v0 : Option Nat) (v1 : Int64) (v3 : Int64) (M : Mem) : Option (Unit × Mem) :=
  (fI M 0 12 v0).bind fun x1 =>
  if (6 : Int32) ≤ x1 then
  (some ((), M))
  else
  ((fR M 0 10 v0).bind fun x2 =>
  (fI M 0 12 v0).bind fun x3 =>
  (uL M 21 x2 x3 v1).bind fun M4 =>
  (fR M4 0 11 v0).bind fun x5 =>
  (fI M4 0 12 v0).bind fun x6 =>
  (uI M4 20 x5 x6 v3.toInt32).bind fun M7 =>
  (fI M7 0 12 v0).bind fun x8 =>
  (pI M7 0 12 v0 (x8 + (1 : Int32))).bind fun M9 =>
  some ((), M9))
set_option maxRecDepth 20000 in
set_option maxHeartbeats 4000000 in
theorem lift_X0_addTable {G : Gt} {M M9 : Mem} {x9 : Unit} {v0 : Option Nat} {v1 : Int64} {v3 : Int64} (h : L_X0_addTable v0 v1 v3 M = some (x9, M9)) : Mt G mX0_addTable 0 [vR v0, vL v1, vL v3] M none M9 := by
  unfold L_X0_addTable at h
  refine Mt.of (by decide +kernel) (Nat.le_of_ble_eq_true rfl) ?_
  have hh : V G mX0_addTable 0 M none M9 M 0 [(0, vR v0), (1, vL v1), (3, vL v3)] [] := by
    refine V.aload_n (n := 0) dX0_addTable_0 rfl rfl ?_
    refine V.getI dX0_addTable_1 lkX0_59 rfl rfl h (fun x1 h => ?_)
    refine V.bipush (x := 6) dX0_addTable_4 (by decide) rfl ?_
    refine V.icmp_ge (q := 40) dX0_addTable_6 (by decide) rfl h (fun h => ?_) (fun h => ?_)
    · exact V.vret dX0_addTable_40 rfl h
    · refine V.aload_n (n := 0) dX0_addTable_9 rfl rfl ?_
      refine V.getR dX0_addTable_10 lkX0_25 rfl rfl h (fun x2 h => ?_)
      refine V.aload_n (n := 0) dX0_addTable_13 rfl rfl ?_
      refine V.getI dX0_addTable_14 lkX0_59 rfl rfl h (fun x3 h => ?_)
      refine V.lload_n (n := 1) dX0_addTable_17 rfl rfl ?_
      refine V.last dX0_addTable_18 rfl h (fun M4 h => ?_)
      refine V.aload_n (n := 0) dX0_addTable_19 rfl rfl ?_
      refine V.getR dX0_addTable_20 lkX0_28 rfl rfl h (fun x5 h => ?_)
      refine V.aload_n (n := 0) dX0_addTable_23 rfl rfl ?_
      refine V.getI dX0_addTable_24 lkX0_59 rfl rfl h (fun x6 h => ?_)
      refine V.lload_n (n := 2) dX0_addTable_27 rfl rfl ?_
      refine V.l2i dX0_addTable_28 rfl ?_
      refine V.iast dX0_addTable_29 rfl h (fun M7 h => ?_)
      refine V.aload_n (n := 0) dX0_addTable_30 rfl rfl ?_
      refine V.dup dX0_addTable_31 rfl rfl ?_
      refine V.getI dX0_addTable_32 lkX0_59 rfl rfl h (fun x8 h => ?_)
      refine V.iconst (x := 1) dX0_addTable_35 (by decide) rfl ?_
      refine V.iadd dX0_addTable_36 rfl ?_
      refine V.putI dX0_addTable_37 lkX0_59 (Or.inl rfl) rfl rfl h (fun M9 h => ?_)
      exact V.vret dX0_addTable_40 rfl h
  exact hh
def L_X0_openTry (v0 : Option Nat) (M : Mem) : Option (Int32 × Mem) :=
  (fI M 0 16 v0).bind fun x1 =>
  if x1 < (40 : Int32) then
  ((fR M 0 13 v0).bind fun x2 =>
  (fI M 0 16 v0).bind fun x3 =>
  (fI M 0 6 v0).bind fun x4 =>
  (uI M 20 x2 x3 x4).bind fun M5 =>
  (fI M5 0 16 v0).bind fun x6 =>
  (pI M5 0 16 v0 (x6 + (1 : Int32))).bind fun M7 =>
  (fI M7 0 16 v0).bind fun x8 =>
  some (x8 - (1 : Int32), M7))
  else
  (some ((-1 : Int32), M))
set_option maxRecDepth 20000 in
set_option maxHeartbeats 4000000 in
theorem lift_X0_openTry {G : Gt} {M M9 : Mem} {x9 : Int32} {v0 : Option Nat} (h : L_X0_openTry v0 M = some (x9, M9)) : Mt G mX0_openTry 0 [vR v0] M (some (vI x9)) M9 := by
  unfold L_X0_openTry at h
  refine Mt.of (by decide +kernel) (Nat.le_of_ble_eq_true rfl) ?_
  have hh : V G mX0_openTry 0 M (some (vI x9)) M9 M 0 [(0, vR v0)] [] := by
    refine V.aload_n (n := 0) dX0_openTry_0 rfl rfl ?_
    refine V.getI dX0_openTry_1 lkX0_62 rfl rfl h (fun x1 h => ?_)
    refine V.bipush (x := 40) dX0_openTry_4 (by decide) rfl ?_
    refine V.icmp_lt (q := 11) dX0_openTry_6 (by decide) rfl h (fun h => ?_) (fun h => ?_)
    · refine V.aload_n (n := 0) dX0_openTry_11 rfl rfl ?_
      refine V.getR dX0_openTry_12 lkX0_31 rfl rfl h (fun x2 h => ?_)
      refine V.aload_n (n := 0) dX0_openTry_15 rfl rfl ?_
      refine V.getI dX0_openTry_16 lkX0_62 rfl rfl h (fun x3 h => ?_)
      refine V.aload_n (n := 0) dX0_openTry_19 rfl rfl ?_
      refine V.getI dX0_openTry_20 lkX0_53 rfl rfl h (fun x4 h => ?_)
      refine V.iast dX0_openTry_23 rfl h (fun M5 h => ?_)
      refine V.aload_n (n := 0) dX0_openTry_24 rfl rfl ?_
      refine V.dup dX0_openTry_25 rfl rfl ?_
      refine V.getI dX0_openTry_26 lkX0_62 rfl rfl h (fun x6 h => ?_)
      refine V.iconst (x := 1) dX0_openTry_29 (by decide) rfl ?_
      refine V.iadd dX0_openTry_30 rfl ?_
      refine V.putI dX0_openTry_31 lkX0_62 (Or.inl rfl) rfl rfl h (fun M7 h => ?_)
      refine V.aload_n (n := 0) dX0_openTry_34 rfl rfl ?_
      refine V.getI dX0_openTry_35 lkX0_62 rfl rfl h (fun x8 h => ?_)
      refine V.iconst (x := 1) dX0_openTry_38 (by decide) rfl ?_
      refine V.isub dX0_openTry_39 rfl ?_
      exact V.iret dX0_openTry_40 rfl h
    · refine V.iconst (x := (-1)) dX0_openTry_9 (by decide) rfl ?_
      exact V.iret dX0_openTry_10 rfl h
  exact hh
def L_X0_closeTry (v0 : Option Nat) (v1 : Int32) (M : Mem) : Option (Unit × Mem) :=
  if v1 < 0 then
  (some ((), M))
  else
  ((fI M 0 16 v0).bind fun x1 =>
  if x1 ≤ v1 then
  (some ((), M))
  else
  ((fR M 0 14 v0).bind fun x2 =>
  (fI M 0 6 v0).bind fun x3 =>
  (uI M 20 x2 v1 x3).bind fun M4 =>
  (fR M4 0 15 v0).bind fun x5 =>
  (fI M4 0 6 v0).bind fun x6 =>
  (uI M4 20 x5 v1 x6).bind fun M7 =>
  some ((), M7)))
set_option maxRecDepth 20000 in
set_option maxHeartbeats 4000000 in
theorem lift_X0_closeTry {G : Gt} {M M9 : Mem} {x9 : Unit} {v0 : Option Nat} {v1 : Int32} (h : L_X0_closeTry v0 v1 M = some (x9, M9)) : Mt G mX0_closeTry 0 [vR v0, vI v1] M none M9 := by
  unfold L_X0_closeTry at h
  refine Mt.of (by decide +kernel) (Nat.le_of_ble_eq_true rfl) ?_
  have hh : V G mX0_closeTry 0 M none M9 M 0 [(0, vR v0), (1, vI v1)] [] := by
    refine V.iload_n (n := 1) dX0_closeTry_0 rfl rfl ?_
    refine V.if_lt (q := 32) dX0_closeTry_1 (by decide) rfl h (fun h => ?_) (fun h => ?_)
    · exact V.vret dX0_closeTry_32 rfl h
    · refine V.iload_n (n := 1) dX0_closeTry_4 rfl rfl ?_
      refine V.aload_n (n := 0) dX0_closeTry_5 rfl rfl ?_
      refine V.getI dX0_closeTry_6 lkX0_62 rfl rfl h (fun x1 h => ?_)
      refine V.icmp_ge (q := 32) dX0_closeTry_9 (by decide) rfl h (fun h => ?_) (fun h => ?_)
      · exact V.vret dX0_closeTry_32 rfl h
      · refine V.aload_n (n := 0) dX0_closeTry_12 rfl rfl ?_
        refine V.getR dX0_closeTry_13 lkX0_34 rfl rfl h (fun x2 h => ?_)
        refine V.iload_n (n := 1) dX0_closeTry_16 rfl rfl ?_
        refine V.aload_n (n := 0) dX0_closeTry_17 rfl rfl ?_
        refine V.getI dX0_closeTry_18 lkX0_53 rfl rfl h (fun x3 h => ?_)
        refine V.iast dX0_closeTry_21 rfl h (fun M4 h => ?_)
        refine V.aload_n (n := 0) dX0_closeTry_22 rfl rfl ?_
        refine V.getR dX0_closeTry_23 lkX0_37 rfl rfl h (fun x5 h => ?_)
        refine V.iload_n (n := 1) dX0_closeTry_26 rfl rfl ?_
        refine V.aload_n (n := 0) dX0_closeTry_27 rfl rfl ?_
        refine V.getI dX0_closeTry_28 lkX0_53 rfl rfl h (fun x6 h => ?_)
        refine V.iast dX0_closeTry_31 rfl h (fun M7 h => ?_)
        exact V.vret dX0_closeTry_32 rfl h
  exact hh
def L_X8_init (v0 : Option Nat) (M : Mem) : Option (Unit × Mem) :=
  if v0 = none then none else
  (pI M 8 1 v0 (0 : Int32)).bind fun M1 =>
  (nA M1 20 (8 : Int32)).bind fun M2 =>
  (pR M2 8 5 v0 (some (nc M1))).bind fun M3 =>
  (nA M3 21 (8 : Int32)).bind fun M4 =>
  (pR M4 8 6 v0 (some (nc M3))).bind fun M5 =>
  (nA M5 21 (72 : Int32)).bind fun M6 =>
  (pR M6 8 7 v0 (some (nc M5))).bind fun M7 =>
  some ((), M7)
set_option maxRecDepth 20000 in
set_option maxHeartbeats 4000000 in
theorem lift_X8_init {G : Gt} {M M9 : Mem} {x9 : Unit} {v0 : Option Nat} (h : L_X8_init v0 M = some (x9, M9)) : Mt G mX8_init 1 [vR v0] M none M9 := by
  unfold L_X8_init at h
  refine Mt.of (by decide +kernel) (Nat.le_of_ble_eq_true rfl) ?_
  have hh : V G mX8_init 1 M none M9 M 0 [(0, vR v0)] [] := by
    refine V.aload_n (n := 0) dX8_init_0 rfl rfl ?_
    refine V.objInitR dX8_init_1 oiX8_3 oim oic (by omega) rfl h (fun h => ?_)
    refine V.aload_n (n := 0) dX8_init_4 rfl rfl ?_
    refine V.iconst (x := 0) dX8_init_5 (by decide) rfl ?_
    refine V.putI dX8_init_6 lkX8_9 (Or.inl rfl) rfl rfl h (fun M1 h => ?_)
    refine V.aload_n (n := 0) dX8_init_9 rfl rfl ?_
    refine V.bipush (x := 8) dX8_init_10 (by decide) rfl ?_
    refine V.newa (k := 20) dX8_init_12 rfl ac20 (by decide) (by decide) rfl h (fun M2 h => ?_)
    refine V.putR dX8_init_14 lkX8_15 (Or.inr ⟨rfl, rfl⟩) rfl rfl h (fun M3 h => ?_)
    refine V.aload_n (n := 0) dX8_init_17 rfl rfl ?_
    refine V.bipush (x := 8) dX8_init_18 (by decide) rfl ?_
    refine V.newa (k := 21) dX8_init_20 rfl ac21 (by decide) (by decide) rfl h (fun M4 h => ?_)
    refine V.putR dX8_init_22 lkX8_19 (Or.inr ⟨rfl, rfl⟩) rfl rfl h (fun M5 h => ?_)
    refine V.aload_n (n := 0) dX8_init_25 rfl rfl ?_
    refine V.bipush (x := 72) dX8_init_26 (by decide) rfl ?_
    refine V.newa (k := 21) dX8_init_28 rfl ac21 (by decide) (by decide) rfl h (fun M6 h => ?_)
    refine V.putR dX8_init_30 lkX8_23 (Or.inr ⟨rfl, rfl⟩) rfl rfl h (fun M7 h => ?_)
    exact V.vret dX8_init_33 rfl h
  exact hh
def J_X1_init_24 : Nat → Option Nat → Int32 → Mem → Option (Unit × Mem)
  | 0 => fun _ _ _ => none
  | n + 1 => fun v0 v1 M =>
  if (30 : Int32) ≤ v1 then
  ((pI M 1 2 v0 (0 : Int32)).bind fun M1 =>
  (pI M1 1 3 v0 (0 : Int32)).bind fun M2 =>
  some ((), M2))
  else
  ((fR M 1 1 v0).bind fun x3 =>
  (L_X8_init (some (nc M)) (nw M 8 0 8)).bind fun w4 =>
  (uR w4.2 26 x3 v1 (some (nc M))).bind fun M5 =>
  J_X1_init_24 n v0 (v1 + 1) M5)
set_option maxRecDepth 20000 in
set_option maxHeartbeats 4000000 in
theorem lab_X1_init_24 {G : Gt} {M0 M9 : Mem} {x9 : Unit} : ∀ (n : Nat) (v0 : Option Nat) (v1 : Int32) (M : Mem), J_X1_init_24 n v0 v1 M = some (x9, M9) → V G mX1_init 2 M0 none M9 M 24 [(0, vR v0), (1, vI v1)] [] := by
  intro n
  induction n with
  | zero => intro v0 v1 M h; exact nomatch h
  | succ n ih =>
    intro v0 v1 M h
    unfold J_X1_init_24 at h
    refine V.iload_n (n := 1) dX1_init_24 rfl rfl ?_
    refine V.bipush (x := 30) dX1_init_25 (by decide) rfl ?_
    refine V.icmp_ge (q := 49) dX1_init_27 (by decide) rfl h (fun h => ?_) (fun h => ?_)
    · refine V.aload_n (n := 0) dX1_init_49 rfl rfl ?_
      refine V.iconst (x := 0) dX1_init_50 (by decide) rfl ?_
      refine V.putI dX1_init_51 lkX1_24 (Or.inl rfl) rfl rfl h (fun M1 h => ?_)
      refine V.aload_n (n := 0) dX1_init_54 rfl rfl ?_
      refine V.iconst (x := 0) dX1_init_55 (by decide) rfl ?_
      refine V.putI dX1_init_56 lkX1_28 (Or.inl rfl) rfl rfl h (fun M2 h => ?_)
      exact V.vret dX1_init_59 rfl h
    · refine V.aload_n (n := 0) dX1_init_30 rfl rfl ?_
      refine V.getR dX1_init_31 lkX1_19 rfl rfl h (fun x3 h => ?_)
      refine V.iload_n (n := 1) dX1_init_34 rfl rfl ?_
      refine V.new dX1_init_35 clsX8 cdX1_17 inX8 iiX8 rfl ?_
      refine V.dup dX1_init_38 rfl rfl ?_
      refine V.callI (d' := 1) (a := (nc M)) (as := []) (st := [vR (some (nc M)), vI v1, vR x3]) dX1_init_39 meX8_init rfl rfl mlX1_23 imX8_init rfl (by omega) (Nat.le_of_ble_eq_true rfl) rfl rfl h (fun v hv => lift_X8_init hv) (fun w4 h => ?_)
      refine V.aast (k := 26) dX1_init_42 clsX8 rfl (by decide) (by decide) rfl h (fun M5 h => ?_)
      refine V.iinc (n := 1) (x := v1 + 1) dX1_init_43 rfl (by rfl) (by decide) rfl rfl ?_
      refine V.goto (q := 24) dX1_init_46 (by decide) ?_
      exact V.sub [1, 0] rfl (ih _ _ _ h)
def L_X1_init (v0 : Option Nat) (M : Mem) : Option (Unit × Mem) :=
  if v0 = none then none else
  (nA M 25 (30 : Int32)).bind fun M6 =>
  (pR M6 1 0 v0 (some (nc M))).bind fun M7 =>
  (nA M7 26 (30 : Int32)).bind fun M8 =>
  (pR M8 1 1 v0 (some (nc M7))).bind fun M9 =>
  J_X1_init_24 FU v0 (0 : Int32) M9
set_option maxRecDepth 20000 in
set_option maxHeartbeats 4000000 in
theorem lift_X1_init {G : Gt} {M M9 : Mem} {x9 : Unit} {v0 : Option Nat} (h : L_X1_init v0 M = some (x9, M9)) : Mt G mX1_init 2 [vR v0] M none M9 := by
  unfold L_X1_init at h
  refine Mt.of (by decide +kernel) (Nat.le_of_ble_eq_true rfl) ?_
  have hh : V G mX1_init 2 M none M9 M 0 [(0, vR v0)] [] := by
    refine V.aload_n (n := 0) dX1_init_0 rfl rfl ?_
    refine V.objInitR dX1_init_1 oiX1_3 oim oic (by omega) rfl h (fun h => ?_)
    refine V.aload_n (n := 0) dX1_init_4 rfl rfl ?_
    refine V.bipush (x := 30) dX1_init_5 (by decide) rfl ?_
    refine V.anew (k := 25) dX1_init_7 rfl cdX1_9 rfl (by decide) (by decide) rfl h (fun M6 h => ?_)
    refine V.putR dX1_init_10 lkX1_11 (Or.inr ⟨rfl, rfl⟩) rfl rfl h (fun M7 h => ?_)
    refine V.aload_n (n := 0) dX1_init_13 rfl rfl ?_
    refine V.bipush (x := 30) dX1_init_14 (by decide) rfl ?_
    refine V.anew (k := 26) dX1_init_16 rfl cdX1_17 rfl (by decide) (by decide) rfl h (fun M8 h => ?_)
    refine V.putR dX1_init_19 lkX1_19 (Or.inr ⟨rfl, rfl⟩) rfl rfl h (fun M9 h => ?_)
    refine V.iconst (x := 0) dX1_init_22 (by decide) rfl ?_
    refine V.istore_n dX1_init_23 rfl (by decide) rfl rfl ?_
    exact V.sub [1, 0] rfl (lab_X1_init_24 FU _ _ _ h)
  exact hh
def L_X1_change (v0 : Option Nat) (v1 : Int32) (v2 : Option Nat) (M : Mem) : Option (Unit × Mem) :=
  (fR M 1 0 v0).bind fun x1 =>
  (uR M 25 x1 v1 v2).bind fun M2 =>
  (fI M2 1 2 v0).bind fun x3 =>
  (pI M2 1 2 v0 (x3 ||| ((1 : Int32) <<< (v1 &&& 31)))).bind fun M4 =>
  some ((), M4)
set_option maxRecDepth 20000 in
set_option maxHeartbeats 4000000 in
theorem lift_X1_change {G : Gt} {M M9 : Mem} {x9 : Unit} {v0 : Option Nat} {v1 : Int32} {v2 : Option Nat} (h : L_X1_change v0 v1 v2 M = some (x9, M9)) : Mt G mX1_change 0 [vR v0, vI v1, vR v2] M none M9 := by
  unfold L_X1_change at h
  refine Mt.of (by decide +kernel) (Nat.le_of_ble_eq_true rfl) ?_
  have hh : V G mX1_change 0 M none M9 M 0 [(0, vR v0), (1, vI v1), (2, vR v2)] [] := by
    refine V.aload_n (n := 0) dX1_change_0 rfl rfl ?_
    refine V.getR dX1_change_1 lkX1_11 rfl rfl h (fun x1 h => ?_)
    refine V.iload_n (n := 1) dX1_change_4 rfl rfl ?_
    refine V.aload_n (n := 2) dX1_change_5 rfl rfl ?_
    refine V.aast (k := 25) dX1_change_6 clsX6 rfl (by decide) (by decide) rfl h (fun M2 h => ?_)
    refine V.aload_n (n := 0) dX1_change_7 rfl rfl ?_
    refine V.dup dX1_change_8 rfl rfl ?_
    refine V.getI dX1_change_9 lkX1_24 rfl rfl h (fun x3 h => ?_)
    refine V.iconst (x := 1) dX1_change_12 (by decide) rfl ?_
    refine V.iload_n (n := 1) dX1_change_13 rfl rfl ?_
    refine V.ishl dX1_change_14 rfl ?_
    refine V.ior dX1_change_15 rfl ?_
    refine V.putI dX1_change_16 lkX1_24 (Or.inl rfl) rfl rfl h (fun M4 h => ?_)
    exact V.vret dX1_change_19 rfl h
  exact hh
def J_X1_touchedYears_64 (k_9 : Option Nat → Int32 → Int32 → Int32 → Mem → Option (Int32 × Mem)) (k_25 : Option Nat → Int32 → Int32 → Int32 → Int32 → Mem → Option (Int32 × Mem)) (v0 : Option Nat) (v1 : Int32) (v2 : Int32) (v3 : Int32) (v4 : Int32) (M : Mem) : Option (Int32 × Mem) :=
  k_25 v0 v1 v2 v3 (v4 + 1) M
set_option maxRecDepth 20000 in
set_option maxHeartbeats 4000000 in
theorem lab_X1_touchedYears_64 {G : Gt} {M0 M9 : Mem} {x9 : Int32} {k_9 : Option Nat → Int32 → Int32 → Int32 → Mem → Option (Int32 × Mem)} {k_25 : Option Nat → Int32 → Int32 → Int32 → Int32 → Mem → Option (Int32 × Mem)} (hk_9 : ∀ (v0 : Option Nat) (v1 : Int32) (v2 : Int32) (v3 : Int32) (Ma : Mem), k_9 v0 v1 v2 v3 Ma = some (x9, M9) → V G mX1_touchedYears 0 M0 (some (vI x9)) M9 Ma 9 [(0, vR v0), (1, vI v1), (2, vI v2), (3, vI v3)] []) (hk_25 : ∀ (v0 : Option Nat) (v1 : Int32) (v2 : Int32) (v3 : Int32) (v4 : Int32) (Ma : Mem), k_25 v0 v1 v2 v3 v4 Ma = some (x9, M9) → V G mX1_touchedYears 0 M0 (some (vI x9)) M9 Ma 25 [(0, vR v0), (1, vI v1), (2, vI v2), (3, vI v3), (4, vI v4)] []) {v0 : Option Nat} {v1 : Int32} {v2 : Int32} {v3 : Int32} {v4 : Int32} {M : Mem} (h : J_X1_touchedYears_64 k_9 k_25 v0 v1 v2 v3 v4 M = some (x9, M9)) : V G mX1_touchedYears 0 M0 (some (vI x9)) M9 M 64 [(0, vR v0), (1, vI v1), (2, vI v2), (3, vI v3), (4, vI v4)] [] := by
  unfold J_X1_touchedYears_64 at h
  refine V.iinc (n := 4) (x := v4 + 1) dX1_touchedYears_64 rfl (by rfl) (by decide) rfl rfl ?_
  refine V.goto (q := 25) dX1_touchedYears_67 (by decide) ?_
  exact V.sub [1, 2, 3, 4, 0] rfl (hk_25 _ _ _ _ _ _ h)
def J_X1_touchedYears_25 (k_9 : Option Nat → Int32 → Int32 → Int32 → Mem → Option (Int32 × Mem)) : Nat → Option Nat → Int32 → Int32 → Int32 → Int32 → Mem → Option (Int32 × Mem)
  | 0 => fun _ _ _ _ _ _ => none
  | n + 1 => fun v0 v1 v2 v3 v4 M =>
  if (30 : Int32) ≤ v4 then
  (k_9 v0 v1 v2 (v3 + 1) M)
  else
  ((fR M 1 0 v0).bind fun x1 =>
  (aR M 25 x1 v4).bind fun x2 =>
  if x2 = none then
  (J_X1_touchedYears_64 k_9 (J_X1_touchedYears_25 k_9 n) v0 v1 v2 v3 v4 M)
  else
  ((fR M 1 0 v0).bind fun x3 =>
  (aR M 25 x3 v4).bind fun x4 =>
  (fI M 6 1 x4).bind fun x5 =>
  if (x5 &&& v1) = 0 then
  (J_X1_touchedYears_64 k_9 (J_X1_touchedYears_25 k_9 n) v0 v1 v2 v3 v4 M)
  else
  (J_X1_touchedYears_64 k_9 (J_X1_touchedYears_25 k_9 n) v0 (v1 ||| ((1 : Int32) <<< (v4 &&& 31))) v2 v3 v4 M)))
set_option maxRecDepth 20000 in
set_option maxHeartbeats 4000000 in
theorem lab_X1_touchedYears_25 {G : Gt} {M0 M9 : Mem} {x9 : Int32} {k_9 : Option Nat → Int32 → Int32 → Int32 → Mem → Option (Int32 × Mem)} (hk_9 : ∀ (v0 : Option Nat) (v1 : Int32) (v2 : Int32) (v3 : Int32) (Ma : Mem), k_9 v0 v1 v2 v3 Ma = some (x9, M9) → V G mX1_touchedYears 0 M0 (some (vI x9)) M9 Ma 9 [(0, vR v0), (1, vI v1), (2, vI v2), (3, vI v3)] []) : ∀ (n : Nat) (v0 : Option Nat) (v1 : Int32) (v2 : Int32) (v3 : Int32) (v4 : Int32) (M : Mem), J_X1_touchedYears_25 k_9 n v0 v1 v2 v3 v4 M = some (x9, M9) → V G mX1_touchedYears 0 M0 (some (vI x9)) M9 M 25 [(0, vR v0), (1, vI v1), (2, vI v2), (3, vI v3), (4, vI v4)] [] := by
  intro n
  induction n with
  | zero => intro v0 v1 v2 v3 v4 M h; exact nomatch h
  | succ n ih =>
    intro v0 v1 v2 v3 v4 M h
    unfold J_X1_touchedYears_25 at h
    refine V.iload (n := 4) dX1_touchedYears_25 rfl rfl ?_
    refine V.bipush (x := 30) dX1_touchedYears_27 (by decide) rfl ?_
    refine V.icmp_ge (q := 70) dX1_touchedYears_29 (by decide) rfl h (fun h => ?_) (fun h => ?_)
    · refine V.iinc (n := 3) (x := v3 + 1) dX1_touchedYears_70 rfl (by rfl) (by decide) rfl rfl ?_
      refine V.goto (q := 9) dX1_touchedYears_73 (by decide) ?_
      exact V.sub [1, 2, 3, 0] rfl (hk_9 _ _ _ _ _ h)
    · refine V.aload_n (n := 0) dX1_touchedYears_32 rfl rfl ?_
      refine V.getR dX1_touchedYears_33 lkX1_11 rfl rfl h (fun x1 h => ?_)
      refine V.iload (n := 4) dX1_touchedYears_36 rfl rfl ?_
      refine V.aald (k := 25) dX1_touchedYears_38 (by decide) (by decide) rfl h (fun x2 h => ?_)
      refine V.ifnull (q := 64) dX1_touchedYears_39 (by decide) rfl h (fun h => ?_) (fun h => ?_)
      · exact (lab_X1_touchedYears_64 hk_9 ih h)
      · refine V.aload_n (n := 0) dX1_touchedYears_42 rfl rfl ?_
        refine V.getR dX1_touchedYears_43 lkX1_11 rfl rfl h (fun x3 h => ?_)
        refine V.iload (n := 4) dX1_touchedYears_46 rfl rfl ?_
        refine V.aald (k := 25) dX1_touchedYears_48 (by decide) (by decide) rfl h (fun x4 h => ?_)
        refine V.getI dX1_touchedYears_49 lkX1_39 rfl rfl h (fun x5 h => ?_)
        refine V.iload_n (n := 1) dX1_touchedYears_52 rfl rfl ?_
        refine V.iand dX1_touchedYears_53 rfl ?_
        refine V.if_eq (q := 64) dX1_touchedYears_54 (by decide) rfl h (fun h => ?_) (fun h => ?_)
        · exact (lab_X1_touchedYears_64 hk_9 ih h)
        · refine V.iload_n (n := 1) dX1_touchedYears_57 rfl rfl ?_
          refine V.iconst (x := 1) dX1_touchedYears_58 (by decide) rfl ?_
          refine V.iload (n := 4) dX1_touchedYears_59 rfl rfl ?_
          refine V.ishl dX1_touchedYears_61 rfl ?_
          refine V.ior dX1_touchedYears_62 rfl ?_
          refine V.istore_n dX1_touchedYears_63 rfl (by decide) rfl rfl ?_
          exact V.sub [1, 0, 2, 3, 4] rfl (lab_X1_touchedYears_64 hk_9 ih h)
def J_X1_touchedYears_9 : Nat → Option Nat → Int32 → Int32 → Int32 → Mem → Option (Int32 × Mem)
  | 0 => fun _ _ _ _ _ => none
  | n + 1 => fun v0 v1 v2 v3 M =>
  if (30 : Int32) ≤ v3 then
  (some (v1, M))
  else
  (if v1 = v2 then
  (some (v1, M))
  else
  (J_X1_touchedYears_25 (J_X1_touchedYears_9 n) FU v0 v1 v1 v3 (0 : Int32) M))
set_option maxRecDepth 20000 in
set_option maxHeartbeats 4000000 in
theorem lab_X1_touchedYears_9 {G : Gt} {M0 M9 : Mem} {x9 : Int32} : ∀ (n : Nat) (v0 : Option Nat) (v1 : Int32) (v2 : Int32) (v3 : Int32) (M : Mem), J_X1_touchedYears_9 n v0 v1 v2 v3 M = some (x9, M9) → V G mX1_touchedYears 0 M0 (some (vI x9)) M9 M 9 [(0, vR v0), (1, vI v1), (2, vI v2), (3, vI v3)] [] := by
  intro n
  induction n with
  | zero => intro v0 v1 v2 v3 M h; exact nomatch h
  | succ n ih =>
    intro v0 v1 v2 v3 M h
    unfold J_X1_touchedYears_9 at h
    refine V.iload_n (n := 3) dX1_touchedYears_9 rfl rfl ?_
    refine V.bipush (x := 30) dX1_touchedYears_10 (by decide) rfl ?_
    refine V.icmp_ge (q := 76) dX1_touchedYears_12 (by decide) rfl h (fun h => ?_) (fun h => ?_)
    · refine V.iload_n (n := 1) dX1_touchedYears_76 rfl rfl ?_
      exact V.iret dX1_touchedYears_77 rfl h
    · refine V.iload_n (n := 1) dX1_touchedYears_15 rfl rfl ?_
      refine V.iload_n (n := 2) dX1_touchedYears_16 rfl rfl ?_
      refine V.icmp_eq (q := 76) dX1_touchedYears_17 (by decide) rfl h (fun h => ?_) (fun h => ?_)
      · refine V.iload_n (n := 1) dX1_touchedYears_76 rfl rfl ?_
        exact V.iret dX1_touchedYears_77 rfl h
      · refine V.iload_n (n := 1) dX1_touchedYears_20 rfl rfl ?_
        refine V.istore_n dX1_touchedYears_21 rfl (by decide) rfl rfl ?_
        refine V.iconst (x := 0) dX1_touchedYears_22 (by decide) rfl ?_
        refine V.istore dX1_touchedYears_23 (by decide) rfl rfl ?_
        exact V.sub [2, 3, 1, 4, 0] rfl (lab_X1_touchedYears_25 ih FU _ _ _ _ _ _ h)
def L_X1_touchedYears (v0 : Option Nat) (M : Mem) : Option (Int32 × Mem) :=
  (fI M 1 2 v0).bind fun x6 =>
  J_X1_touchedYears_9 FU v0 x6 (0 : Int32) (0 : Int32) M
set_option maxRecDepth 20000 in
set_option maxHeartbeats 4000000 in
theorem lift_X1_touchedYears {G : Gt} {M M9 : Mem} {x9 : Int32} {v0 : Option Nat} (h : L_X1_touchedYears v0 M = some (x9, M9)) : Mt G mX1_touchedYears 0 [vR v0] M (some (vI x9)) M9 := by
  unfold L_X1_touchedYears at h
  refine Mt.of (by decide +kernel) (Nat.le_of_ble_eq_true rfl) ?_
  have hh : V G mX1_touchedYears 0 M (some (vI x9)) M9 M 0 [(0, vR v0)] [] := by
    refine V.aload_n (n := 0) dX1_touchedYears_0 rfl rfl ?_
    refine V.getI dX1_touchedYears_1 lkX1_24 rfl rfl h (fun x6 h => ?_)
    refine V.istore_n dX1_touchedYears_4 rfl (by decide) rfl rfl ?_
    refine V.iconst (x := 0) dX1_touchedYears_5 (by decide) rfl ?_
    refine V.istore_n dX1_touchedYears_6 rfl (by decide) rfl rfl ?_
    refine V.iconst (x := 0) dX1_touchedYears_7 (by decide) rfl ?_
    refine V.istore_n dX1_touchedYears_8 rfl (by decide) rfl rfl ?_
    exact V.sub [3, 2, 1, 0] rfl (lab_X1_touchedYears_9 FU _ _ _ _ _ h)
  exact hh
def J_J7_fill_53178_5 : Nat → Option Nat → Int32 → Int32 → Int32 → Mem → Option (Unit × Mem)
  | 0 => fun _ _ _ _ _ => none
  | n + 1 => fun v0 v1 v2 v3 M =>
  if v3 ≤ v2 then
  (some ((), M))
  else
  ((uI M 20 v0 v2 v1).bind fun M1 =>
  J_J7_fill_53178_5 n v0 v1 (v2 + 1) v3 M1)
set_option maxRecDepth 20000 in
set_option maxHeartbeats 4000000 in
theorem lab_J7_fill_53178_5 {G : Gt} {M0 M9 : Mem} {x9 : Unit} : ∀ (n : Nat) (v0 : Option Nat) (v1 : Int32) (v2 : Int32) (v3 : Int32) (M : Mem), J_J7_fill_53178_5 n v0 v1 v2 v3 M = some (x9, M9) → V G mJ7_fill_53178 0 M0 none M9 M 5 [(0, vR v0), (1, vI v1), (2, vI v2), (3, vI v3)] [] := by
  intro n
  induction n with
  | zero => intro v0 v1 v2 v3 M h; exact nomatch h
  | succ n ih =>
    intro v0 v1 v2 v3 M h
    unfold J_J7_fill_53178_5 at h
    refine V.iload_n (n := 2) dJ7_fill_53178_5 rfl rfl ?_
    refine V.iload_n (n := 3) dJ7_fill_53178_6 rfl rfl ?_
    refine V.icmp_ge (q := 20) dJ7_fill_53178_7 (by decide) rfl h (fun h => ?_) (fun h => ?_)
    · exact V.vret dJ7_fill_53178_20 rfl h
    · refine V.aload_n (n := 0) dJ7_fill_53178_10 rfl rfl ?_
      refine V.iload_n (n := 2) dJ7_fill_53178_11 rfl rfl ?_
      refine V.iload_n (n := 1) dJ7_fill_53178_12 rfl rfl ?_
      refine V.iast dJ7_fill_53178_13 rfl h (fun M1 h => ?_)
      refine V.iinc (n := 2) (x := v2 + 1) dJ7_fill_53178_14 rfl (by rfl) (by decide) rfl rfl ?_
      refine V.goto (q := 5) dJ7_fill_53178_17 (by decide) ?_
      exact V.sub [1, 2, 0, 3] rfl (ih _ _ _ _ _ h)
def L_J7_fill_53178 (v0 : Option Nat) (v1 : Int32) (M : Mem) : Option (Unit × Mem) :=
  (aN M v0).bind fun x2 =>
  J_J7_fill_53178_5 FU v0 v1 (0 : Int32) x2 M
set_option maxRecDepth 20000 in
set_option maxHeartbeats 4000000 in
theorem lift_J7_fill_53178 {G : Gt} {M M9 : Mem} {x9 : Unit} {v0 : Option Nat} {v1 : Int32} (h : L_J7_fill_53178 v0 v1 M = some (x9, M9)) : Mt G mJ7_fill_53178 0 [vR v0, vI v1] M none M9 := by
  unfold L_J7_fill_53178 at h
  refine Mt.of (by decide +kernel) (Nat.le_of_ble_eq_true rfl) ?_
  have hh : V G mJ7_fill_53178 0 M none M9 M 0 [(0, vR v0), (1, vI v1)] [] := by
    refine V.iconst (x := 0) dJ7_fill_53178_0 (by decide) rfl ?_
    refine V.istore_n dJ7_fill_53178_1 rfl (by decide) rfl rfl ?_
    refine V.aload_n (n := 1) dJ7_fill_53178_2 rfl rfl ?_
    refine V.alen dJ7_fill_53178_3 rfl h (fun x2 h => ?_)
    refine V.istore_n dJ7_fill_53178_4 rfl (by decide) rfl rfl ?_
    exact V.sub [2, 3, 1, 0] rfl (lab_J7_fill_53178_5 FU _ _ _ _ _ h)
  exact hh
def J_J7_fill_d0a16_6 : Nat → Option Nat → Int64 → Int32 → Int32 → Mem → Option (Unit × Mem)
  | 0 => fun _ _ _ _ _ => none
  | n + 1 => fun v0 v1 v3 v4 M =>
  if v4 ≤ v3 then
  (some ((), M))
  else
  ((uL M 21 v0 v3 v1).bind fun M1 =>
  J_J7_fill_d0a16_6 n v0 v1 (v3 + 1) v4 M1)
set_option maxRecDepth 20000 in
set_option maxHeartbeats 4000000 in
theorem lab_J7_fill_d0a16_6 {G : Gt} {M0 M9 : Mem} {x9 : Unit} : ∀ (n : Nat) (v0 : Option Nat) (v1 : Int64) (v3 : Int32) (v4 : Int32) (M : Mem), J_J7_fill_d0a16_6 n v0 v1 v3 v4 M = some (x9, M9) → V G mJ7_fill_d0a16 0 M0 none M9 M 6 [(0, vR v0), (1, vL v1), (3, vI v3), (4, vI v4)] [] := by
  intro n
  induction n with
  | zero => intro v0 v1 v3 v4 M h; exact nomatch h
  | succ n ih =>
    intro v0 v1 v3 v4 M h
    unfold J_J7_fill_d0a16_6 at h
    refine V.iload_n (n := 2) dJ7_fill_d0a16_6 rfl rfl ?_
    refine V.iload (n := 3) dJ7_fill_d0a16_7 rfl rfl ?_
    refine V.icmp_ge (q := 22) dJ7_fill_d0a16_9 (by decide) rfl h (fun h => ?_) (fun h => ?_)
    · exact V.vret dJ7_fill_d0a16_22 rfl h
    · refine V.aload_n (n := 0) dJ7_fill_d0a16_12 rfl rfl ?_
      refine V.iload_n (n := 2) dJ7_fill_d0a16_13 rfl rfl ?_
      refine V.lload_n (n := 1) dJ7_fill_d0a16_14 rfl rfl ?_
      refine V.last dJ7_fill_d0a16_15 rfl h (fun M1 h => ?_)
      refine V.iinc (n := 2) (x := v3 + 1) dJ7_fill_d0a16_16 rfl (by rfl) (by decide) rfl rfl ?_
      refine V.goto (q := 6) dJ7_fill_d0a16_19 (by decide) ?_
      exact V.sub [1, 2, 0, 3] rfl (ih _ _ _ _ _ h)
def L_J7_fill_d0a16 (v0 : Option Nat) (v1 : Int64) (M : Mem) : Option (Unit × Mem) :=
  (aN M v0).bind fun x2 =>
  J_J7_fill_d0a16_6 FU v0 v1 (0 : Int32) x2 M
set_option maxRecDepth 20000 in
set_option maxHeartbeats 4000000 in
theorem lift_J7_fill_d0a16 {G : Gt} {M M9 : Mem} {x9 : Unit} {v0 : Option Nat} {v1 : Int64} (h : L_J7_fill_d0a16 v0 v1 M = some (x9, M9)) : Mt G mJ7_fill_d0a16 0 [vR v0, vL v1] M none M9 := by
  unfold L_J7_fill_d0a16 at h
  refine Mt.of (by decide +kernel) (Nat.le_of_ble_eq_true rfl) ?_
  have hh : V G mJ7_fill_d0a16 0 M none M9 M 0 [(0, vR v0), (1, vL v1)] [] := by
    refine V.iconst (x := 0) dJ7_fill_d0a16_0 (by decide) rfl ?_
    refine V.istore_n dJ7_fill_d0a16_1 rfl (by decide) rfl rfl ?_
    refine V.aload_n (n := 1) dJ7_fill_d0a16_2 rfl rfl ?_
    refine V.alen dJ7_fill_d0a16_3 rfl h (fun x2 h => ?_)
    refine V.istore dJ7_fill_d0a16_4 (by decide) rfl rfl ?_
    exact V.sub [2, 3, 1, 0] rfl (lab_J7_fill_d0a16_6 FU _ _ _ _ _ h)
  exact hh
def J_X8_make_28 (v0 : Option Nat) (s0 : Option Nat) (s1 : Int32) (M : Mem) : Option (Unit × Mem) :=
  (pI M 8 2 s0 s1).bind fun M1 =>
  (pI M1 8 3 v0 (0 : Int32)).bind fun M2 =>
  (pI M2 8 4 v0 (0 : Int32)).bind fun M3 =>
  (fR M3 8 5 v0).bind fun x4 =>
  (L_J7_fill_53178 x4 (0 : Int32) M3).bind fun w5 =>
  (fR w5.2 8 7 v0).bind fun x6 =>
  (L_J7_fill_d0a16 x6 (0 : Int64) w5.2).bind fun w7 =>
  some ((), w7.2)
set_option maxRecDepth 20000 in
set_option maxHeartbeats 4000000 in
theorem lab_X8_make_28 {G : Gt} {M0 M9 : Mem} {x9 : Unit} {v0 : Option Nat} {s0 : Option Nat} {s1 : Int32} {M : Mem} (h : J_X8_make_28 v0 s0 s1 M = some (x9, M9)) : V G mX8_make 1 M0 none M9 M 28 [(0, vR v0)] [vI s1, vR s0] := by
  unfold J_X8_make_28 at h
  refine V.putI dX8_make_28 lkX8_30 (Or.inl rfl) rfl rfl h (fun M1 h => ?_)
  refine V.aload_n (n := 0) dX8_make_31 rfl rfl ?_
  refine V.iconst (x := 0) dX8_make_32 (by decide) rfl ?_
  refine V.putI dX8_make_33 lkX8_33 (Or.inl rfl) rfl rfl h (fun M2 h => ?_)
  refine V.aload_n (n := 0) dX8_make_36 rfl rfl ?_
  refine V.iconst (x := 0) dX8_make_37 (by decide) rfl ?_
  refine V.putI dX8_make_38 lkX8_36 (Or.inl rfl) rfl rfl h (fun M3 h => ?_)
  refine V.aload_n (n := 0) dX8_make_41 rfl rfl ?_
  refine V.getR dX8_make_42 lkX8_15 rfl rfl h (fun x4 h => ?_)
  refine V.iconst (x := 0) dX8_make_45 (by decide) rfl ?_
  refine V.callSv (d' := 0) (as := [vR x4, vI (0 : Int32)]) (st := []) dX8_make_46 meJ7_fill_53178 mlX8_39 smJ7_fill_53178 rfl (by omega) (Nat.le_of_ble_eq_true rfl) rfl rfl h (fun v hv => lift_J7_fill_53178 hv) (fun w5 h => ?_)
  refine V.aload_n (n := 0) dX8_make_49 rfl rfl ?_
  refine V.getR dX8_make_50 lkX8_23 rfl rfl h (fun x6 h => ?_)
  refine V.lconst (x := 0) dX8_make_53 (by decide) rfl ?_
  refine V.callSv (d' := 0) (as := [vR x6, vL (0 : Int64)]) (st := []) dX8_make_54 meJ7_fill_d0a16 mlX8_45 smJ7_fill_d0a16 rfl (by omega) (Nat.le_of_ble_eq_true rfl) rfl rfl h (fun v hv => lift_J7_fill_d0a16 hv) (fun w7 h => ?_)
  exact V.vret dX8_make_57 rfl h
def J_X8_make_15 (v0 : Option Nat) (v1 : Option Nat) (v2 : Int32) (s0 : Option Nat) (s1 : Int32) (M : Mem) : Option (Unit × Mem) :=
  (pI M 8 1 s0 s1).bind fun M8 =>
  if ¬ v1 = none then
  (J_X8_make_28 v0 v0 v2 M8)
  else
  (J_X8_make_28 v0 v0 (0 : Int32) M8)
set_option maxRecDepth 20000 in
set_option maxHeartbeats 4000000 in
theorem lab_X8_make_15 {G : Gt} {M0 M9 : Mem} {x9 : Unit} {v0 : Option Nat} {v1 : Option Nat} {v2 : Int32} {s0 : Option Nat} {s1 : Int32} {M : Mem} (h : J_X8_make_15 v0 v1 v2 s0 s1 M = some (x9, M9)) : V G mX8_make 1 M0 none M9 M 15 [(0, vR v0), (1, vR v1), (2, vI v2)] [vI s1, vR s0] := by
  unfold J_X8_make_15 at h
  refine V.putI dX8_make_15 lkX8_9 (Or.inl rfl) rfl rfl h (fun M8 h => ?_)
  refine V.aload_n (n := 0) dX8_make_18 rfl rfl ?_
  refine V.aload_n (n := 1) dX8_make_19 rfl rfl ?_
  refine V.ifnonnull (q := 27) dX8_make_20 (by decide) rfl h (fun h => ?_) (fun h => ?_)
  · refine V.iload_n (n := 2) dX8_make_27 rfl rfl ?_
    exact V.sub [0] rfl (lab_X8_make_28 h)
  · refine V.iconst (x := 0) dX8_make_23 (by decide) rfl ?_
    refine V.goto (q := 28) dX8_make_24 (by decide) ?_
    exact V.sub [0] rfl (lab_X8_make_28 h)
def L_X8_make (v0 : Option Nat) (v1 : Option Nat) (v2 : Int32) (M : Mem) : Option (Unit × Mem) :=
  (pR M 8 0 v0 v1).bind fun M9 =>
  if ¬ v1 = none then
  (J_X8_make_15 v0 v1 v2 v0 (1 : Int32) M9)
  else
  (J_X8_make_15 v0 v1 v2 v0 (0 : Int32) M9)
set_option maxRecDepth 20000 in
set_option maxHeartbeats 4000000 in
theorem lift_X8_make {G : Gt} {M M9 : Mem} {x9 : Unit} {v0 : Option Nat} {v1 : Option Nat} {v2 : Int32} (h : L_X8_make v0 v1 v2 M = some (x9, M9)) : Mt G mX8_make 1 [vR v0, vR v1, vI v2] M none M9 := by
  unfold L_X8_make at h
  refine Mt.of (by decide +kernel) (Nat.le_of_ble_eq_true rfl) ?_
  have hh : V G mX8_make 1 M none M9 M 0 [(0, vR v0), (1, vR v1), (2, vI v2)] [] := by
    refine V.aload_n (n := 0) dX8_make_0 rfl rfl ?_
    refine V.aload_n (n := 1) dX8_make_1 rfl rfl ?_
    refine V.putR dX8_make_2 lkX8_26 (Or.inl rfl) rfl rfl h (fun M9 h => ?_)
    refine V.aload_n (n := 0) dX8_make_5 rfl rfl ?_
    refine V.aload_n (n := 1) dX8_make_6 rfl rfl ?_
    refine V.ifnonnull (q := 14) dX8_make_7 (by decide) rfl h (fun h => ?_) (fun h => ?_)
    · refine V.iconst (x := 1) dX8_make_14 (by decide) rfl ?_
      exact (lab_X8_make_15 h)
    · refine V.iconst (x := 0) dX8_make_10 (by decide) rfl ?_
      refine V.goto (q := 15) dX8_make_11 (by decide) ?_
      exact (lab_X8_make_15 h)
  exact hh
def J_X1_renew_70 (k_19 : Option Nat → Int32 → Int32 → Int32 → Mem → Option (Int32 × Mem)) (v0 : Option Nat) (v1 : Int32) (v2 : Int32) (v3 : Int32) (M : Mem) : Option (Int32 × Mem) :=
  k_19 v0 v1 v2 (v3 + 1) M
set_option maxRecDepth 20000 in
set_option maxHeartbeats 4000000 in
theorem lab_X1_renew_70 {G : Gt} {M0 M9 : Mem} {x9 : Int32} {k_19 : Option Nat → Int32 → Int32 → Int32 → Mem → Option (Int32 × Mem)} (hk_19 : ∀ (v0 : Option Nat) (v1 : Int32) (v2 : Int32) (v3 : Int32) (Ma : Mem), k_19 v0 v1 v2 v3 Ma = some (x9, M9) → V G mX1_renew 2 M0 (some (vI x9)) M9 Ma 19 [(0, vR v0), (1, vI v1), (2, vI v2), (3, vI v3)] []) {v0 : Option Nat} {v1 : Int32} {v2 : Int32} {v3 : Int32} {M : Mem} (h : J_X1_renew_70 k_19 v0 v1 v2 v3 M = some (x9, M9)) : V G mX1_renew 2 M0 (some (vI x9)) M9 M 70 [(0, vR v0), (1, vI v1), (2, vI v2), (3, vI v3)] [] := by
  unfold J_X1_renew_70 at h
  refine V.iinc (n := 3) (x := v3 + 1) dX1_renew_70 rfl (by rfl) (by decide) rfl rfl ?_
  refine V.goto (q := 19) dX1_renew_73 (by decide) ?_
  exact V.sub [1, 2, 3, 0] rfl (hk_19 _ _ _ _ _ h)
def J_X1_renew_68 (k_19 : Option Nat → Int32 → Int32 → Int32 → Mem → Option (Int32 × Mem)) (v0 : Option Nat) (v1 : Int32) (v3 : Int32) (s0 : Int32) (s1 : Int32) (M : Mem) : Option (Int32 × Mem) :=
  J_X1_renew_70 k_19 v0 v1 (s0 + s1) v3 M
set_option maxRecDepth 20000 in
set_option maxHeartbeats 4000000 in
theorem lab_X1_renew_68 {G : Gt} {M0 M9 : Mem} {x9 : Int32} {k_19 : Option Nat → Int32 → Int32 → Int32 → Mem → Option (Int32 × Mem)} (hk_19 : ∀ (v0 : Option Nat) (v1 : Int32) (v2 : Int32) (v3 : Int32) (Ma : Mem), k_19 v0 v1 v2 v3 Ma = some (x9, M9) → V G mX1_renew 2 M0 (some (vI x9)) M9 Ma 19 [(0, vR v0), (1, vI v1), (2, vI v2), (3, vI v3)] []) {v0 : Option Nat} {v1 : Int32} {v3 : Int32} {s0 : Int32} {s1 : Int32} {M : Mem} (h : J_X1_renew_68 k_19 v0 v1 v3 s0 s1 M = some (x9, M9)) : V G mX1_renew 2 M0 (some (vI x9)) M9 M 68 [(0, vR v0), (1, vI v1), (3, vI v3)] [vI s1, vI s0] := by
  unfold J_X1_renew_68 at h
  refine V.iadd dX1_renew_68 rfl ?_
  refine V.istore_n dX1_renew_69 rfl (by decide) rfl rfl ?_
  exact V.sub [1, 2, 0, 3] rfl (lab_X1_renew_70 hk_19 h)
def J_X1_renew_19 : Nat → Option Nat → Int32 → Int32 → Int32 → Mem → Option (Int32 × Mem)
  | 0 => fun _ _ _ _ _ => none
  | n + 1 => fun v0 v1 v2 v3 M =>
  if (30 : Int32) ≤ v3 then
  ((pI M 1 2 v0 (0 : Int32)).bind fun M1 =>
  some (v2, M1))
  else
  (if ¬ (((v1.toUInt32 >>> (v3.toUInt32 &&& Int32.toUInt32 31)).toInt32) &&& (1 : Int32)) = (1 : Int32) then
  (J_X1_renew_70 (J_X1_renew_19 n) v0 v1 v2 v3 M)
  else
  ((fR M 1 1 v0).bind fun x2 =>
  (aR M 26 x2 v3).bind fun x3 =>
  (fR M 1 0 v0).bind fun x4 =>
  (aR M 25 x4 v3).bind fun x5 =>
  (fI M 1 3 v0).bind fun x6 =>
  (ck M 8 x3).bind fun _ => (L_X8_make x3 x5 x6 M).bind fun w7 =>
  (fR w7.2 1 0 v0).bind fun x8 =>
  (aR w7.2 25 x8 v3).bind fun x9 =>
  if ¬ x9 = none then
  (J_X1_renew_68 (J_X1_renew_19 n) v0 v1 v3 v2 (1 : Int32) w7.2)
  else
  (J_X1_renew_68 (J_X1_renew_19 n) v0 v1 v3 v2 (0 : Int32) w7.2)))
set_option maxRecDepth 20000 in
set_option maxHeartbeats 4000000 in
theorem lab_X1_renew_19 {G : Gt} {M0 M9 : Mem} {x9 : Int32} : ∀ (n : Nat) (v0 : Option Nat) (v1 : Int32) (v2 : Int32) (v3 : Int32) (M : Mem), J_X1_renew_19 n v0 v1 v2 v3 M = some (x9, M9) → V G mX1_renew 2 M0 (some (vI x9)) M9 M 19 [(0, vR v0), (1, vI v1), (2, vI v2), (3, vI v3)] [] := by
  intro n
  induction n with
  | zero => intro v0 v1 v2 v3 M h; exact nomatch h
  | succ n ih =>
    intro v0 v1 v2 v3 M h
    unfold J_X1_renew_19 at h
    refine V.iload_n (n := 3) dX1_renew_19 rfl rfl ?_
    refine V.bipush (x := 30) dX1_renew_20 (by decide) rfl ?_
    refine V.icmp_ge (q := 76) dX1_renew_22 (by decide) rfl h (fun h => ?_) (fun h => ?_)
    · refine V.aload_n (n := 0) dX1_renew_76 rfl rfl ?_
      refine V.iconst (x := 0) dX1_renew_77 (by decide) rfl ?_
      refine V.putI dX1_renew_78 lkX1_24 (Or.inl rfl) rfl rfl h (fun M1 h => ?_)
      refine V.iload_n (n := 2) dX1_renew_81 rfl rfl ?_
      exact V.iret dX1_renew_82 rfl h
    · refine V.iload_n (n := 1) dX1_renew_25 rfl rfl ?_
      refine V.iload_n (n := 3) dX1_renew_26 rfl rfl ?_
      refine V.iushr dX1_renew_27 rfl ?_
      refine V.iconst (x := 1) dX1_renew_28 (by decide) rfl ?_
      refine V.iand dX1_renew_29 rfl ?_
      refine V.iconst (x := 1) dX1_renew_30 (by decide) rfl ?_
      refine V.icmp_ne (q := 70) dX1_renew_31 (by decide) rfl h (fun h => ?_) (fun h => ?_)
      · exact (lab_X1_renew_70 ih h)
      · refine V.aload_n (n := 0) dX1_renew_34 rfl rfl ?_
        refine V.getR dX1_renew_35 lkX1_19 rfl rfl h (fun x2 h => ?_)
        refine V.iload_n (n := 3) dX1_renew_38 rfl rfl ?_
        refine V.aald (k := 26) dX1_renew_39 (by decide) (by decide) rfl h (fun x3 h => ?_)
        refine V.aload_n (n := 0) dX1_renew_40 rfl rfl ?_
        refine V.getR dX1_renew_41 lkX1_11 rfl rfl h (fun x4 h => ?_)
        refine V.iload_n (n := 3) dX1_renew_44 rfl rfl ?_
        refine V.aald (k := 25) dX1_renew_45 (by decide) (by decide) rfl h (fun x5 h => ?_)
        refine V.aload_n (n := 0) dX1_renew_46 rfl rfl ?_
        refine V.getI dX1_renew_47 lkX1_28 rfl rfl h (fun x6 h => ?_)
        refine V.callVv (d' := 1) (as := [vR x5, vI x6]) (st := []) dX1_renew_50 meX8_make mlX1_35 imX8_make seX8_make clsX8 rfl (by omega) (Nat.le_of_ble_eq_true rfl) rfl rfl h (fun v hv => lift_X8_make hv) (fun w7 h => ?_)
        refine V.iload_n (n := 2) dX1_renew_53 rfl rfl ?_
        refine V.aload_n (n := 0) dX1_renew_54 rfl rfl ?_
        refine V.getR dX1_renew_55 lkX1_11 rfl rfl h (fun x8 h => ?_)
        refine V.iload_n (n := 3) dX1_renew_58 rfl rfl ?_
        refine V.aald (k := 25) dX1_renew_59 (by decide) (by decide) rfl h (fun x9 h => ?_)
        refine V.ifnonnull (q := 67) dX1_renew_60 (by decide) rfl h (fun h => ?_) (fun h => ?_)
        · refine V.iconst (x := 1) dX1_renew_67 (by decide) rfl ?_
          exact V.sub [0, 1, 3] rfl (lab_X1_renew_68 ih h)
        · refine V.iconst (x := 0) dX1_renew_63 (by decide) rfl ?_
          refine V.goto (q := 68) dX1_renew_64 (by decide) ?_
          exact V.sub [0, 1, 3] rfl (lab_X1_renew_68 ih h)
def L_X1_renew (v0 : Option Nat) (M : Mem) : Option (Int32 × Mem) :=
  (ck M 1 v0).bind fun _ => (L_X1_touchedYears v0 M).bind fun w10 =>
  (fI w10.2 1 3 v0).bind fun x11 =>
  (pI w10.2 1 3 v0 (x11 + (1 : Int32))).bind fun M12 =>
  J_X1_renew_19 FU v0 w10.1 (0 : Int32) (0 : Int32) M12
set_option maxRecDepth 20000 in
set_option maxHeartbeats 4000000 in
theorem lift_X1_renew {G : Gt} {M M9 : Mem} {x9 : Int32} {v0 : Option Nat} (h : L_X1_renew v0 M = some (x9, M9)) : Mt G mX1_renew 2 [vR v0] M (some (vI x9)) M9 := by
  unfold L_X1_renew at h
  refine Mt.of (by decide +kernel) (Nat.le_of_ble_eq_true rfl) ?_
  have hh : V G mX1_renew 2 M (some (vI x9)) M9 M 0 [(0, vR v0)] [] := by
    refine V.aload_n (n := 0) dX1_renew_0 rfl rfl ?_
    refine V.callVi (d' := 0) (as := []) (st := []) dX1_renew_1 meX1_touchedYears mlX1_31 imX1_touchedYears seX1_touchedYears clsX1 rfl (by omega) (Nat.le_of_ble_eq_true rfl) rfl rfl h (fun v hv => lift_X1_touchedYears hv) (fun w10 h => ?_)
    refine V.istore_n dX1_renew_4 rfl (by decide) rfl rfl ?_
    refine V.iconst (x := 0) dX1_renew_5 (by decide) rfl ?_
    refine V.istore_n dX1_renew_6 rfl (by decide) rfl rfl ?_
    refine V.aload_n (n := 2) dX1_renew_7 rfl rfl ?_
    refine V.dup dX1_renew_8 rfl rfl ?_
    refine V.getI dX1_renew_9 lkX1_28 rfl rfl h (fun x11 h => ?_)
    refine V.iconst (x := 1) dX1_renew_12 (by decide) rfl ?_
    refine V.iadd dX1_renew_13 rfl ?_
    refine V.putI dX1_renew_14 lkX1_28 (Or.inl rfl) rfl rfl h (fun M12 h => ?_)
    refine V.iconst (x := 0) dX1_renew_17 (by decide) rfl ?_
    refine V.istore_n dX1_renew_18 rfl (by decide) rfl rfl ?_
    exact V.sub [3, 2, 1, 0] rfl (lab_X1_renew_19 FU _ _ _ _ _ h)
  exact hh
def J_X6_indexOf_39 : Nat → Int64 → Option Nat → Int32 → Mem → Option (Int32 × Mem)
  | 0 => fun _ _ _ _ => none
  | n + 1 => fun v2 v4 v5 M =>
  (aN M v4).bind fun x1 =>
  if x1 ≤ v5 then
  (some ((-1 : Int32), M))
  else
  ((aL M 21 v4 v5).bind fun x2 =>
  if ¬ x2 = v2 then
  (J_X6_indexOf_39 n v2 v4 (v5 + 1) M)
  else
  (some (v5, M)))
set_option maxRecDepth 20000 in
set_option maxHeartbeats 4000000 in
theorem lab_X6_indexOf_39 {G : Gt} {M0 M9 : Mem} {x9 : Int32} : ∀ (n : Nat) (v2 : Int64) (v4 : Option Nat) (v5 : Int32) (M : Mem), J_X6_indexOf_39 n v2 v4 v5 M = some (x9, M9) → V G mX6_indexOf 0 M0 (some (vI x9)) M9 M 39 [(2, vL v2), (4, vR v4), (5, vI v5)] [] := by
  intro n
  induction n with
  | zero => intro v2 v4 v5 M h; exact nomatch h
  | succ n ih =>
    intro v2 v4 v5 M h
    unfold J_X6_indexOf_39 at h
    refine V.iload (n := 2) dX6_indexOf_39 rfl rfl ?_
    refine V.aload (n := 1) dX6_indexOf_41 rfl rfl ?_
    refine V.alen dX6_indexOf_43 rfl h (fun x1 h => ?_)
    refine V.icmp_ge (q := 66) dX6_indexOf_44 (by decide) rfl h (fun h => ?_) (fun h => ?_)
    · refine V.iconst (x := (-1)) dX6_indexOf_66 (by decide) rfl ?_
      exact V.iret dX6_indexOf_67 rfl h
    · refine V.aload (n := 1) dX6_indexOf_47 rfl rfl ?_
      refine V.iload (n := 2) dX6_indexOf_49 rfl rfl ?_
      refine V.lald dX6_indexOf_51 rfl h (fun x2 h => ?_)
      refine V.lload_n (n := 0) dX6_indexOf_52 rfl rfl ?_
      refine V.lif_ne (q := 60) dX6_indexOf_53 rfl dX6_indexOf_54 (by decide) rfl h (fun h => ?_) (fun h => ?_)
      · refine V.iinc (n := 2) (x := v5 + 1) dX6_indexOf_60 rfl (by rfl) (by decide) rfl rfl ?_
        refine V.goto (q := 39) dX6_indexOf_63 (by decide) ?_
        exact V.sub [1, 2, 0] rfl (ih _ _ _ _ h)
      · refine V.iload (n := 2) dX6_indexOf_57 rfl rfl ?_
        exact V.iret dX6_indexOf_59 rfl h
def J_X6_indexOf_34 (v2 : Int64) (s0 : Option Nat) (M : Mem) : Option (Int32 × Mem) :=
  J_X6_indexOf_39 FU v2 s0 (0 : Int32) M
set_option maxRecDepth 20000 in
set_option maxHeartbeats 4000000 in
theorem lab_X6_indexOf_34 {G : Gt} {M0 M9 : Mem} {x9 : Int32} {v2 : Int64} {s0 : Option Nat} {M : Mem} (h : J_X6_indexOf_34 v2 s0 M = some (x9, M9)) : V G mX6_indexOf 0 M0 (some (vI x9)) M9 M 34 [(2, vL v2)] [vR s0] := by
  unfold J_X6_indexOf_34 at h
  refine V.astore dX6_indexOf_34 (by decide) rfl rfl ?_
  refine V.iconst (x := 0) dX6_indexOf_36 (by decide) rfl ?_
  refine V.istore dX6_indexOf_37 (by decide) rfl rfl ?_
  exact V.sub [2, 1, 0] rfl (lab_X6_indexOf_39 FU _ _ _ _ h)
def L_X6_indexOf (v0 : Option Nat) (v1 : Int32) (v2 : Int64) (M : Mem) : Option (Int32 × Mem) :=
  if ¬ v1 = (2 : Int32) then
  (if ¬ v1 = 0 then
  ((fR M 6 8 v0).bind fun x3 =>
  J_X6_indexOf_34 v2 x3 M)
  else
  ((fR M 6 6 v0).bind fun x4 =>
  J_X6_indexOf_34 v2 x4 M))
  else
  ((fI M 6 3 v0).bind fun x5 =>
  if ¬ x5 = (-1 : Int32) then
  (some ((0 : Int32), M))
  else
  (some ((-1 : Int32), M)))
set_option maxRecDepth 20000 in
set_option maxHeartbeats 4000000 in
theorem lift_X6_indexOf {G : Gt} {M M9 : Mem} {x9 : Int32} {v0 : Option Nat} {v1 : Int32} {v2 : Int64} (h : L_X6_indexOf v0 v1 v2 M = some (x9, M9)) : Mt G mX6_indexOf 0 [vR v0, vI v1, vL v2] M (some (vI x9)) M9 := by
  unfold L_X6_indexOf at h
  refine Mt.of (by decide +kernel) (Nat.le_of_ble_eq_true rfl) ?_
  have hh : V G mX6_indexOf 0 M (some (vI x9)) M9 M 0 [(0, vR v0), (1, vI v1), (2, vL v2)] [] := by
    refine V.iload_n (n := 1) dX6_indexOf_0 rfl rfl ?_
    refine V.iconst (x := 2) dX6_indexOf_1 (by decide) rfl ?_
    refine V.icmp_ne (q := 19) dX6_indexOf_2 (by decide) rfl h (fun h => ?_) (fun h => ?_)
    · refine V.iload_n (n := 1) dX6_indexOf_19 rfl rfl ?_
      refine V.if_ne (q := 30) dX6_indexOf_20 (by decide) rfl h (fun h => ?_) (fun h => ?_)
      · refine V.aload_n (n := 0) dX6_indexOf_30 rfl rfl ?_
        refine V.getR dX6_indexOf_31 lkX6_69 rfl rfl h (fun x3 h => ?_)
        exact V.sub [2] rfl (lab_X6_indexOf_34 h)
      · refine V.aload_n (n := 0) dX6_indexOf_23 rfl rfl ?_
        refine V.getR dX6_indexOf_24 lkX6_58 rfl rfl h (fun x4 h => ?_)
        refine V.goto (q := 34) dX6_indexOf_27 (by decide) ?_
        exact V.sub [2] rfl (lab_X6_indexOf_34 h)
    · refine V.aload_n (n := 0) dX6_indexOf_5 rfl rfl ?_
      refine V.getI dX6_indexOf_6 lkX6_29 rfl rfl h (fun x5 h => ?_)
      refine V.iconst (x := (-1)) dX6_indexOf_9 (by decide) rfl ?_
      refine V.icmp_ne (q := 17) dX6_indexOf_10 (by decide) rfl h (fun h => ?_) (fun h => ?_)
      · refine V.iconst (x := 0) dX6_indexOf_17 (by decide) rfl ?_
        exact V.iret dX6_indexOf_18 rfl h
      · refine V.iconst (x := (-1)) dX6_indexOf_13 (by decide) rfl ?_
        refine V.goto (q := 18) dX6_indexOf_14 (by decide) ?_
        exact V.iret dX6_indexOf_18 rfl h
  exact hh
def J_X1_find_17 : Nat → Option Nat → Int32 → Int64 → Int32 → Int32 → Mem → Option (Int32 × Mem)
  | 0 => fun _ _ _ _ _ _ => none
  | n + 1 => fun v0 v1 v4 v6 v7 M =>
  if (30 : Int32) ≤ v7 then
  (some ((-1 : Int32), M))
  else
  (if v6 < 0 then
  (some ((-1 : Int32), M))
  else
  (if (30 : Int32) ≤ v6 then
  (some ((-1 : Int32), M))
  else
  ((fR M 1 1 v0).bind fun x1 =>
  (aR M 26 x1 v6).bind fun x2 =>
  (fR M 8 0 x2).bind fun x3 =>
  if ¬ x3 = none then
  ((ck M 6 x3).bind fun _ => (L_X6_indexOf x3 v1 v4 M).bind fun w4 =>
  if w4.1 = (-1 : Int32) then
  ((fI w4.2 6 0 x3).bind fun x5 =>
  J_X1_find_17 n v0 v1 v4 x5 (v7 + 1) w4.2)
  else
  (some ((v6 * (8 : Int32)) + w4.1, w4.2)))
  else
  (some ((-1 : Int32), M)))))
set_option maxRecDepth 20000 in
set_option maxHeartbeats 4000000 in
theorem lab_X1_find_17 {G : Gt} {M0 M9 : Mem} {x9 : Int32} : ∀ (n : Nat) (v0 : Option Nat) (v1 : Int32) (v4 : Int64) (v6 : Int32) (v7 : Int32) (M : Mem), J_X1_find_17 n v0 v1 v4 v6 v7 M = some (x9, M9) → V G mX1_find 1 M0 (some (vI x9)) M9 M 17 [(0, vR v0), (1, vI v1), (4, vL v4), (6, vI v6), (7, vI v7)] [] := by
  intro n
  induction n with
  | zero => intro v0 v1 v4 v6 v7 M h; exact nomatch h
  | succ n ih =>
    intro v0 v1 v4 v6 v7 M h
    unfold J_X1_find_17 at h
    refine V.iload (n := 4) dX1_find_17 rfl rfl ?_
    refine V.bipush (x := 30) dX1_find_19 (by decide) rfl ?_
    refine V.icmp_ge (q := 93) dX1_find_21 (by decide) rfl h (fun h => ?_) (fun h => ?_)
    · refine V.iconst (x := (-1)) dX1_find_93 (by decide) rfl ?_
      exact V.iret dX1_find_94 rfl h
    · refine V.iload (n := 3) dX1_find_24 rfl rfl ?_
      refine V.if_lt (q := 93) dX1_find_26 (by decide) rfl h (fun h => ?_) (fun h => ?_)
      · refine V.iconst (x := (-1)) dX1_find_93 (by decide) rfl ?_
        exact V.iret dX1_find_94 rfl h
      · refine V.iload (n := 3) dX1_find_29 rfl rfl ?_
        refine V.bipush (x := 30) dX1_find_31 (by decide) rfl ?_
        refine V.icmp_ge (q := 93) dX1_find_33 (by decide) rfl h (fun h => ?_) (fun h => ?_)
        · refine V.iconst (x := (-1)) dX1_find_93 (by decide) rfl ?_
          exact V.iret dX1_find_94 rfl h
        · refine V.aload_n (n := 0) dX1_find_36 rfl rfl ?_
          refine V.getR dX1_find_37 lkX1_19 rfl rfl h (fun x1 h => ?_)
          refine V.iload (n := 3) dX1_find_40 rfl rfl ?_
          refine V.aald (k := 26) dX1_find_42 (by decide) (by decide) rfl h (fun x2 h => ?_)
          refine V.getR dX1_find_43 lkX1_44 rfl rfl h (fun x3 h => ?_)
          refine V.astore dX1_find_46 (by decide) rfl rfl ?_
          refine V.aload (n := 0) dX1_find_48 rfl rfl ?_
          refine V.ifnonnull (q := 55) dX1_find_50 (by decide) rfl h (fun h => ?_) (fun h => ?_)
          · refine V.aload (n := 0) dX1_find_55 rfl rfl ?_
            refine V.iload_n (n := 2) dX1_find_57 rfl rfl ?_
            refine V.lload (n := 3) dX1_find_58 rfl rfl ?_
            refine V.callVi (d' := 0) (as := [vI v1, vL v4]) (st := []) dX1_find_60 meX6_indexOf mlX1_48 imX6_indexOf seX6_indexOf clsX6 rfl (by omega) (Nat.le_of_ble_eq_true rfl) rfl rfl h (fun v hv => lift_X6_indexOf hv) (fun w4 h => ?_)
            refine V.istore dX1_find_63 (by decide) rfl rfl ?_
            refine V.iload (n := 0) dX1_find_65 rfl rfl ?_
            refine V.iconst (x := (-1)) dX1_find_67 (by decide) rfl ?_
            refine V.icmp_eq (q := 80) dX1_find_68 (by decide) rfl h (fun h => ?_) (fun h => ?_)
            · refine V.aload (n := 1) dX1_find_80 rfl rfl ?_
              refine V.getI dX1_find_82 lkX1_52 rfl rfl h (fun x5 h => ?_)
              refine V.istore dX1_find_85 (by decide) rfl rfl ?_
              refine V.iinc (n := 6) (x := v7 + 1) dX1_find_87 rfl (by rfl) (by decide) rfl rfl ?_
              refine V.goto (q := 17) dX1_find_90 (by decide) ?_
              exact V.sub [4, 5, 6, 1, 0] rfl (ih _ _ _ _ _ _ h)
            · refine V.iload (n := 5) dX1_find_71 rfl rfl ?_
              refine V.bipush (x := 8) dX1_find_73 (by decide) rfl ?_
              refine V.imul dX1_find_75 rfl ?_
              refine V.iload (n := 0) dX1_find_76 rfl rfl ?_
              refine V.iadd dX1_find_78 rfl ?_
              exact V.iret dX1_find_79 rfl h
          · refine V.iconst (x := (-1)) dX1_find_53 (by decide) rfl ?_
            exact V.iret dX1_find_54 rfl h
def L_X1_find (v0 : Option Nat) (v1 : Int32) (v2 : Int64) (M : Mem) : Option (Int32 × Mem) :=
  J_X1_find_17 FU v0 v1 (v2 &&& (1099511627775 : Int64)) (((v2.toUInt64 >>> ((40 : Int32).toInt64.toUInt64 &&& Int64.toUInt64 63)).toInt64).toInt32) (0 : Int32) M
set_option maxRecDepth 20000 in
set_option maxHeartbeats 4000000 in
theorem lift_X1_find {G : Gt} {M M9 : Mem} {x9 : Int32} {v0 : Option Nat} {v1 : Int32} {v2 : Int64} (h : L_X1_find v0 v1 v2 M = some (x9, M9)) : Mt G mX1_find 1 [vR v0, vI v1, vL v2] M (some (vI x9)) M9 := by
  unfold L_X1_find at h
  refine Mt.of (by decide +kernel) (Nat.le_of_ble_eq_true rfl) ?_
  have hh : V G mX1_find 1 M (some (vI x9)) M9 M 0 [(0, vR v0), (1, vI v1), (2, vL v2)] [] := by
    refine V.lload_n (n := 2) dX1_find_0 rfl rfl ?_
    refine V.ldc2 (x := (1099511627775)) dX1_find_1 clX1_42 rfl ?_
    refine V.land dX1_find_4 rfl ?_
    refine V.lstore dX1_find_5 (by decide) rfl rfl ?_
    refine V.lload_n (n := 3) dX1_find_7 rfl rfl ?_
    refine V.bipush (x := 40) dX1_find_8 (by decide) rfl ?_
    refine V.lushr dX1_find_10 rfl ?_
    refine V.l2i dX1_find_11 rfl ?_
    refine V.istore dX1_find_12 (by decide) rfl rfl ?_
    refine V.iconst (x := 0) dX1_find_14 (by decide) rfl ?_
    refine V.istore dX1_find_15 (by decide) rfl rfl ?_
    exact V.sub [3, 4, 2, 1, 0] rfl (lab_X1_find_17 FU _ _ _ _ _ _ h)
  exact hh
def L_X2_init (v0 : Option Nat) (M : Mem) : Option (Unit × Mem) :=
  if v0 = none then none else
  some ((), M)
set_option maxRecDepth 20000 in
set_option maxHeartbeats 4000000 in
theorem lift_X2_init {G : Gt} {M M9 : Mem} {x9 : Unit} {v0 : Option Nat} (h : L_X2_init v0 M = some (x9, M9)) : Mt G mX2_init 1 [vR v0] M none M9 := by
  unfold L_X2_init at h
  refine Mt.of (by decide +kernel) (Nat.le_of_ble_eq_true rfl) ?_
  have hh : V G mX2_init 1 M none M9 M 0 [(0, vR v0)] [] := by
    refine V.aload_n (n := 0) dX2_init_0 rfl rfl ?_
    refine V.objInitR dX2_init_1 oiX2_1 oim oic (by omega) rfl h (fun h => ?_)
    exact V.vret dX2_init_4 rfl h
  exact hh
def J_X3_init_20 : Nat → Option Nat → Int32 → Mem → Option (Unit × Mem)
  | 0 => fun _ _ _ => none
  | n + 1 => fun v0 v2 M =>
  if (31 : Int32) ≤ v2 then
  ((nA M 21 (1240 : Int32)).bind fun M1 =>
  (pR M1 3 3 v0 (some (nc M))).bind fun M2 =>
  (nA M2 21 (4 : Int32)).bind fun M3 =>
  (pR M3 3 5 v0 (some (nc M2))).bind fun M4 =>
  (nA M4 20 (300 : Int32)).bind fun M5 =>
  (pR M5 3 7 v0 (some (nc M4))).bind fun M6 =>
  (pI M6 3 8 v0 (0 : Int32)).bind fun M7 =>
  some ((), M7))
  else
  ((fR M 3 1 v0).bind fun x8 =>
  (L_X2_init (some (nc M)) (nw M 2 0 6)).bind fun w9 =>
  (uR w9.2 27 x8 v2 (some (nc M))).bind fun M10 =>
  J_X3_init_20 n v0 (v2 + 1) M10)
set_option maxRecDepth 20000 in
set_option maxHeartbeats 4000000 in
theorem lab_X3_init_20 {G : Gt} {M0 M9 : Mem} {x9 : Unit} : ∀ (n : Nat) (v0 : Option Nat) (v2 : Int32) (M : Mem), J_X3_init_20 n v0 v2 M = some (x9, M9) → V G mX3_init 2 M0 none M9 M 20 [(0, vR v0), (2, vI v2)] [] := by
  intro n
  induction n with
  | zero => intro v0 v2 M h; exact nomatch h
  | succ n ih =>
    intro v0 v2 M h
    unfold J_X3_init_20 at h
    refine V.iload_n (n := 1) dX3_init_20 rfl rfl ?_
    refine V.bipush (x := 31) dX3_init_21 (by decide) rfl ?_
    refine V.icmp_ge (q := 45) dX3_init_23 (by decide) rfl h (fun h => ?_) (fun h => ?_)
    · refine V.aload_n (n := 0) dX3_init_45 rfl rfl ?_
      refine V.sipush (x := 1240) dX3_init_46 (by decide) rfl ?_
      refine V.newa (k := 21) dX3_init_49 rfl ac21 (by decide) (by decide) rfl h (fun M1 h => ?_)
      refine V.putR dX3_init_51 lkX3_22 (Or.inr ⟨rfl, rfl⟩) rfl rfl h (fun M2 h => ?_)
      refine V.aload_n (n := 0) dX3_init_54 rfl rfl ?_
      refine V.iconst (x := 4) dX3_init_55 (by decide) rfl ?_
      refine V.newa (k := 21) dX3_init_56 rfl ac21 (by decide) (by decide) rfl h (fun M3 h => ?_)
      refine V.putR dX3_init_58 lkX3_26 (Or.inr ⟨rfl, rfl⟩) rfl rfl h (fun M4 h => ?_)
      refine V.aload_n (n := 0) dX3_init_61 rfl rfl ?_
      refine V.sipush (x := 300) dX3_init_62 (by decide) rfl ?_
      refine V.newa (k := 20) dX3_init_65 rfl ac20 (by decide) (by decide) rfl h (fun M5 h => ?_)
      refine V.putR dX3_init_67 lkX3_29 (Or.inr ⟨rfl, rfl⟩) rfl rfl h (fun M6 h => ?_)
      refine V.aload_n (n := 0) dX3_init_70 rfl rfl ?_
      refine V.iconst (x := 0) dX3_init_71 (by decide) rfl ?_
      refine V.putI dX3_init_72 lkX3_33 (Or.inl rfl) rfl rfl h (fun M7 h => ?_)
      exact V.vret dX3_init_75 rfl h
    · refine V.aload_n (n := 0) dX3_init_26 rfl rfl ?_
      refine V.getR dX3_init_27 lkX3_17 rfl rfl h (fun x8 h => ?_)
      refine V.iload_n (n := 1) dX3_init_30 rfl rfl ?_
      refine V.new dX3_init_31 clsX2 cdX3_15 inX2 iiX2 rfl ?_
      refine V.dup dX3_init_34 rfl rfl ?_
      refine V.callIN (d' := 1) (a := (nc M)) (as := []) (st := [vR (some (nc M)), vI v2, vR x8]) dX3_init_35 meX2_init rfl rfl nlX3_21 imX2_init rfl (by omega) (Nat.le_of_ble_eq_true rfl) rfl rfl h (fun v hv => lift_X2_init hv) (fun w9 h => ?_)
      refine V.aast (k := 27) dX3_init_38 clsX2 rfl (by decide) (by decide) rfl h (fun M10 h => ?_)
      refine V.iinc (n := 1) (x := v2 + 1) dX3_init_39 rfl (by rfl) (by decide) rfl rfl ?_
      refine V.goto (q := 20) dX3_init_42 (by decide) ?_
      exact V.sub [1, 0] rfl (ih _ _ _ h)
def L_X3_init (v0 : Option Nat) (v1 : Option Nat) (M : Mem) : Option (Unit × Mem) :=
  if v0 = none then none else
  (pR M 3 0 v0 v1).bind fun M11 =>
  (nA M11 27 (31 : Int32)).bind fun M12 =>
  (pR M12 3 1 v0 (some (nc M11))).bind fun M13 =>
  J_X3_init_20 FU v0 (0 : Int32) M13
set_option maxRecDepth 20000 in
set_option maxHeartbeats 4000000 in
theorem lift_X3_init {G : Gt} {M M9 : Mem} {x9 : Unit} {v0 : Option Nat} {v1 : Option Nat} (h : L_X3_init v0 v1 M = some (x9, M9)) : Mt G mX3_init 2 [vR v0, vR v1] M none M9 := by
  unfold L_X3_init at h
  refine Mt.of (by decide +kernel) (Nat.le_of_ble_eq_true rfl) ?_
  have hh : V G mX3_init 2 M none M9 M 0 [(0, vR v0), (1, vR v1)] [] := by
    refine V.aload_n (n := 0) dX3_init_0 rfl rfl ?_
    refine V.objInitR dX3_init_1 oiX3_3 oim oic (by omega) rfl h (fun h => ?_)
    refine V.aload_n (n := 0) dX3_init_4 rfl rfl ?_
    refine V.aload_n (n := 1) dX3_init_5 rfl rfl ?_
    refine V.putR dX3_init_6 lkX3_9 (Or.inr ⟨rfl, rfl⟩) rfl rfl h (fun M11 h => ?_)
    refine V.aload_n (n := 0) dX3_init_9 rfl rfl ?_
    refine V.bipush (x := 31) dX3_init_10 (by decide) rfl ?_
    refine V.anew (k := 27) dX3_init_12 rfl cdX3_15 rfl (by decide) (by decide) rfl h (fun M12 h => ?_)
    refine V.putR dX3_init_15 lkX3_17 (Or.inr ⟨rfl, rfl⟩) rfl rfl h (fun M13 h => ?_)
    refine V.iconst (x := 0) dX3_init_18 (by decide) rfl ?_
    refine V.istore_n dX3_init_19 rfl (by decide) rfl rfl ?_
    exact V.sub [1, 0] rfl (lab_X3_init_20 FU _ _ _ h)
  exact hh
def L_X3_open (v0 : Option Nat) (v1 : Int32) (v2 : Option Nat) (v3 : Int32) (v4 : Int32) (M : Mem) : Option (Unit × Mem) :=
  (fI M 3 2 v0).bind fun x1 =>
  if x1 < (31 : Int32) then
  ((fR M 3 1 v0).bind fun x2 =>
  (fI M 3 2 v0).bind fun x3 =>
  (aR M 27 x2 x3).bind fun x4 =>
  (pI M 2 0 x4 v1).bind fun M5 =>
  (pR M5 2 1 x4 v2).bind fun M6 =>
  (pI M6 2 2 x4 v3).bind fun M7 =>
  (fI M7 3 4 v0).bind fun x8 =>
  (pI M7 2 3 x4 x8).bind fun M9 =>
  (pI M9 2 4 x4 (0 : Int32)).bind fun M10 =>
  (pZ M10 2 5 x4 v4).bind fun M11 =>
  (fI M11 3 2 v0).bind fun x12 =>
  (pI M11 3 2 v0 (x12 + (1 : Int32))).bind fun M13 =>
  some ((), M13))
  else
  (some ((), M))
set_option maxRecDepth 20000 in
set_option maxHeartbeats 4000000 in
theorem lift_X3_open {G : Gt} {M M9 : Mem} {x9 : Unit} {v0 : Option Nat} {v1 : Int32} {v2 : Option Nat} {v3 : Int32} {v4 : Int32} (h : L_X3_open v0 v1 v2 v3 v4 M = some (x9, M9)) : Mt G mX3_open 0 [vR v0, vI v1, vR v2, vI v3, vI v4] M none M9 := by
  unfold L_X3_open at h
  refine Mt.of (by decide +kernel) (Nat.le_of_ble_eq_true rfl) ?_
  have hh : V G mX3_open 0 M none M9 M 0 [(0, vR v0), (1, vI v1), (2, vR v2), (3, vI v3), (4, vI v4)] [] := by
    refine V.aload_n (n := 0) dX3_open_0 rfl rfl ?_
    refine V.getI dX3_open_1 lkX3_37 rfl rfl h (fun x1 h => ?_)
    refine V.bipush (x := 31) dX3_open_4 (by decide) rfl ?_
    refine V.icmp_lt (q := 10) dX3_open_6 (by decide) rfl h (fun h => ?_) (fun h => ?_)
    · refine V.aload_n (n := 0) dX3_open_10 rfl rfl ?_
      refine V.getR dX3_open_11 lkX3_17 rfl rfl h (fun x2 h => ?_)
      refine V.aload_n (n := 0) dX3_open_14 rfl rfl ?_
      refine V.getI dX3_open_15 lkX3_37 rfl rfl h (fun x3 h => ?_)
      refine V.aald (k := 27) dX3_open_18 (by decide) (by decide) rfl h (fun x4 h => ?_)
      refine V.astore dX3_open_19 (by decide) rfl rfl ?_
      refine V.aload (n := 0) dX3_open_21 rfl rfl ?_
      refine V.iload_n (n := 2) dX3_open_23 rfl rfl ?_
      refine V.putI dX3_open_24 lkX3_119 (Or.inl rfl) rfl rfl h (fun M5 h => ?_)
      refine V.aload (n := 0) dX3_open_27 rfl rfl ?_
      refine V.aload_n (n := 3) dX3_open_29 rfl rfl ?_
      refine V.putR dX3_open_30 lkX3_122 (Or.inl rfl) rfl rfl h (fun M6 h => ?_)
      refine V.aload (n := 0) dX3_open_33 rfl rfl ?_
      refine V.iload_n (n := 4) dX3_open_35 rfl rfl ?_
      refine V.putI dX3_open_36 lkX3_123 (Or.inl rfl) rfl rfl h (fun M7 h => ?_)
      refine V.aload (n := 0) dX3_open_39 rfl rfl ?_
      refine V.aload_n (n := 1) dX3_open_41 rfl rfl ?_
      refine V.getI dX3_open_42 lkX3_40 rfl rfl h (fun x8 h => ?_)
      refine V.putI dX3_open_45 lkX3_126 (Or.inl rfl) rfl rfl h (fun M9 h => ?_)
      refine V.aload (n := 0) dX3_open_48 rfl rfl ?_
      refine V.iconst (x := 0) dX3_open_50 (by decide) rfl ?_
      refine V.putI dX3_open_51 lkX3_129 (Or.inl rfl) rfl rfl h (fun M10 h => ?_)
      refine V.aload (n := 0) dX3_open_54 rfl rfl ?_
      refine V.iload (n := 5) dX3_open_56 rfl rfl ?_
      refine V.putZ dX3_open_58 lkX3_132 (Or.inl rfl) rfl rfl h (fun M11 h => ?_)
      refine V.aload_n (n := 1) dX3_open_61 rfl rfl ?_
      refine V.dup dX3_open_62 rfl rfl ?_
      refine V.getI dX3_open_63 lkX3_37 rfl rfl h (fun x12 h => ?_)
      refine V.iconst (x := 1) dX3_open_66 (by decide) rfl ?_
      refine V.iadd dX3_open_67 rfl ?_
      refine V.putI dX3_open_68 lkX3_37 (Or.inl rfl) rfl rfl h (fun M13 h => ?_)
      exact V.vret dX3_open_71 rfl h
    · exact V.vret dX3_open_9 rfl h
  exact hh
def J_X3_demand_86 (v0 : Option Nat) (v1 : Int32) (v2 : Option Nat) (M : Mem) : Option (Int32 × Mem) :=
  (fI M 3 8 v0).bind fun x1 =>
  (pI M 3 8 v0 (x1 + (1 : Int32))).bind fun M2 =>
  (fR M2 8 0 v2).bind fun x3 =>
  (ck M2 3 v0).bind fun _ => (L_X3_open v0 v1 x3 (0 : Int32) (1 : Int32) M2).bind fun w4 =>
  some ((-1 : Int32), w4.2)
set_option maxRecDepth 20000 in
set_option maxHeartbeats 4000000 in
theorem lab_X3_demand_86 {G : Gt} {M0 M9 : Mem} {x9 : Int32} {v0 : Option Nat} {v1 : Int32} {v2 : Option Nat} {M : Mem} (h : J_X3_demand_86 v0 v1 v2 M = some (x9, M9)) : V G mX3_demand 1 M0 (some (vI x9)) M9 M 86 [(0, vR v0), (1, vI v1), (2, vR v2)] [] := by
  unfold J_X3_demand_86 at h
  refine V.aload_n (n := 0) dX3_demand_86 rfl rfl ?_
  refine V.dup dX3_demand_87 rfl rfl ?_
  refine V.getI dX3_demand_88 lkX3_33 rfl rfl h (fun x1 h => ?_)
  refine V.iconst (x := 1) dX3_demand_91 (by decide) rfl ?_
  refine V.iadd dX3_demand_92 rfl ?_
  refine V.putI dX3_demand_93 lkX3_33 (Or.inl rfl) rfl rfl h (fun M2 h => ?_)
  refine V.aload_n (n := 0) dX3_demand_96 rfl rfl ?_
  refine V.iload_n (n := 1) dX3_demand_97 rfl rfl ?_
  refine V.aload_n (n := 2) dX3_demand_98 rfl rfl ?_
  refine V.getR dX3_demand_99 lkX3_104 rfl rfl h (fun x3 h => ?_)
  refine V.iconst (x := 0) dX3_demand_102 (by decide) rfl ?_
  refine V.iconst (x := 1) dX3_demand_103 (by decide) rfl ?_
  refine V.callVv (d' := 0) (as := [vI v1, vR x3, vI (0 : Int32), vI (1 : Int32)]) (st := []) dX3_demand_104 meX3_open mlX3_115 imX3_open seX3_open clsX3 rfl (by omega) (Nat.le_of_ble_eq_true rfl) rfl rfl h (fun v hv => lift_X3_open hv) (fun w4 h => ?_)
  refine V.iconst (x := (-1)) dX3_demand_107 (by decide) rfl ?_
  exact V.iret dX3_demand_108 rfl h
def L_X3_demand (v0 : Option Nat) (v1 : Int32) (M : Mem) : Option (Int32 × Mem) :=
  if v1 < 0 then
  (some ((803 : Int32), M))
  else
  (if (30 : Int32) ≤ v1 then
  (some ((803 : Int32), M))
  else
  ((fR M 3 0 v0).bind fun x5 =>
  (fR M 1 1 x5).bind fun x6 =>
  (aR M 26 x6 v1).bind fun x7 =>
  (fR M 8 0 x7).bind fun x8 =>
  if ¬ x8 = none then
  ((fR M 3 0 v0).bind fun x9 =>
  (fR M 1 1 x9).bind fun x10 =>
  (aR M 26 x10 v1).bind fun x11 =>
  (fI M 8 1 x11).bind fun x12 =>
  if ¬ x12 = (3 : Int32) then
  ((fI M 8 1 x11).bind fun x13 =>
  if x13 = (1 : Int32) then
  ((pI M 8 1 x11 (4 : Int32)).bind fun M14 =>
  (fI M14 3 8 v0).bind fun x15 =>
  if (300 : Int32) ≤ x15 then
  (J_X3_demand_86 v0 v1 x11 M14)
  else
  ((fR M14 3 7 v0).bind fun x16 =>
  (fI M14 3 8 v0).bind fun x17 =>
  (uI M14 20 x16 x17 v1).bind fun M18 =>
  J_X3_demand_86 v0 v1 x11 M18))
  else
  (some ((0 : Int32), M)))
  else
  (some ((804 : Int32), M)))
  else
  (some ((803 : Int32), M))))
set_option maxRecDepth 20000 in
set_option maxHeartbeats 4000000 in
theorem lift_X3_demand {G : Gt} {M M9 : Mem} {x9 : Int32} {v0 : Option Nat} {v1 : Int32} (h : L_X3_demand v0 v1 M = some (x9, M9)) : Mt G mX3_demand 1 [vR v0, vI v1] M (some (vI x9)) M9 := by
  unfold L_X3_demand at h
  refine Mt.of (by decide +kernel) (Nat.le_of_ble_eq_true rfl) ?_
  have hh : V G mX3_demand 1 M (some (vI x9)) M9 M 0 [(0, vR v0), (1, vI v1)] [] := by
    refine V.iload_n (n := 1) dX3_demand_0 rfl rfl ?_
    refine V.if_lt (q := 25) dX3_demand_1 (by decide) rfl h (fun h => ?_) (fun h => ?_)
    · refine V.sipush (x := 803) dX3_demand_25 (by decide) rfl ?_
      exact V.iret dX3_demand_28 rfl h
    · refine V.iload_n (n := 1) dX3_demand_4 rfl rfl ?_
      refine V.bipush (x := 30) dX3_demand_5 (by decide) rfl ?_
      refine V.icmp_ge (q := 25) dX3_demand_7 (by decide) rfl h (fun h => ?_) (fun h => ?_)
      · refine V.sipush (x := 803) dX3_demand_25 (by decide) rfl ?_
        exact V.iret dX3_demand_28 rfl h
      · refine V.aload_n (n := 0) dX3_demand_10 rfl rfl ?_
        refine V.getR dX3_demand_11 lkX3_9 rfl rfl h (fun x5 h => ?_)
        refine V.getR dX3_demand_14 lkX3_100 rfl rfl h (fun x6 h => ?_)
        refine V.iload_n (n := 1) dX3_demand_17 rfl rfl ?_
        refine V.aald (k := 26) dX3_demand_18 (by decide) (by decide) rfl h (fun x7 h => ?_)
        refine V.getR dX3_demand_19 lkX3_104 rfl rfl h (fun x8 h => ?_)
        refine V.ifnonnull (q := 29) dX3_demand_22 (by decide) rfl h (fun h => ?_) (fun h => ?_)
        · refine V.aload_n (n := 0) dX3_demand_29 rfl rfl ?_
          refine V.getR dX3_demand_30 lkX3_9 rfl rfl h (fun x9 h => ?_)
          refine V.getR dX3_demand_33 lkX3_100 rfl rfl h (fun x10 h => ?_)
          refine V.iload_n (n := 1) dX3_demand_36 rfl rfl ?_
          refine V.aald (k := 26) dX3_demand_37 (by decide) (by decide) rfl h (fun x11 h => ?_)
          refine V.astore_n dX3_demand_38 rfl (by decide) rfl rfl ?_
          refine V.aload_n (n := 0) dX3_demand_39 rfl rfl ?_
          refine V.getI dX3_demand_40 lkX3_136 rfl rfl h (fun x12 h => ?_)
          refine V.iconst (x := 3) dX3_demand_43 (by decide) rfl ?_
          refine V.icmp_ne (q := 51) dX3_demand_44 (by decide) rfl h (fun h => ?_) (fun h => ?_)
          · refine V.aload_n (n := 0) dX3_demand_51 rfl rfl ?_
            refine V.getI dX3_demand_52 lkX3_136 rfl rfl h (fun x13 h => ?_)
            refine V.iconst (x := 1) dX3_demand_55 (by decide) rfl ?_
            refine V.icmp_eq (q := 61) dX3_demand_56 (by decide) rfl h (fun h => ?_) (fun h => ?_)
            · refine V.aload_n (n := 0) dX3_demand_61 rfl rfl ?_
              refine V.iconst (x := 4) dX3_demand_62 (by decide) rfl ?_
              refine V.putI dX3_demand_63 lkX3_136 (Or.inl rfl) rfl rfl h (fun M14 h => ?_)
              refine V.aload_n (n := 1) dX3_demand_66 rfl rfl ?_
              refine V.getI dX3_demand_67 lkX3_33 rfl rfl h (fun x15 h => ?_)
              refine V.sipush (x := 300) dX3_demand_70 (by decide) rfl ?_
              refine V.icmp_ge (q := 86) dX3_demand_73 (by decide) rfl h (fun h => ?_) (fun h => ?_)
              · exact V.sub [1, 2, 0] rfl (lab_X3_demand_86 h)
              · refine V.aload_n (n := 1) dX3_demand_76 rfl rfl ?_
                refine V.getR dX3_demand_77 lkX3_29 rfl rfl h (fun x16 h => ?_)
                refine V.aload_n (n := 1) dX3_demand_80 rfl rfl ?_
                refine V.getI dX3_demand_81 lkX3_33 rfl rfl h (fun x17 h => ?_)
                refine V.iload_n (n := 2) dX3_demand_84 rfl rfl ?_
                refine V.iast dX3_demand_85 rfl h (fun M18 h => ?_)
                exact V.sub [1, 2, 0] rfl (lab_X3_demand_86 h)
            · refine V.iconst (x := 0) dX3_demand_59 (by decide) rfl ?_
              exact V.iret dX3_demand_60 rfl h
          · refine V.sipush (x := 804) dX3_demand_47 (by decide) rfl ?_
            exact V.iret dX3_demand_50 rfl h
        · refine V.sipush (x := 803) dX3_demand_25 (by decide) rfl ?_
          exact V.iret dX3_demand_28 rfl h
  exact hh
def J_X3_finish_23 (v0 : Option Nat) (M : Mem) : Option (Int32 × Mem) :=
  (fI M 3 2 v0).bind fun x1 =>
  (pI M 3 2 v0 (x1 - (1 : Int32))).bind fun M2 =>
  some ((-1 : Int32), M2)
set_option maxRecDepth 20000 in
set_option maxHeartbeats 4000000 in
theorem lab_X3_finish_23 {G : Gt} {M0 M9 : Mem} {x9 : Int32} {v0 : Option Nat} {M : Mem} (h : J_X3_finish_23 v0 M = some (x9, M9)) : V G mX3_finish 0 M0 (some (vI x9)) M9 M 23 [(0, vR v0)] [] := by
  unfold J_X3_finish_23 at h
  refine V.aload_n (n := 0) dX3_finish_23 rfl rfl ?_
  refine V.dup dX3_finish_24 rfl rfl ?_
  refine V.getI dX3_finish_25 lkX3_37 rfl rfl h (fun x1 h => ?_)
  refine V.iconst (x := 1) dX3_finish_28 (by decide) rfl ?_
  refine V.isub dX3_finish_29 rfl ?_
  refine V.putI dX3_finish_30 lkX3_37 (Or.inl rfl) rfl rfl h (fun M2 h => ?_)
  refine V.iconst (x := (-1)) dX3_finish_33 (by decide) rfl ?_
  exact V.iret dX3_finish_34 rfl h
def L_X3_finish (v0 : Option Nat) (v1 : Option Nat) (M : Mem) : Option (Int32 × Mem) :=
  (fI M 2 5 v1).bind fun x3 =>
  if x3 = 0 then
  (J_X3_finish_23 v0 M)
  else
  ((fR M 3 0 v0).bind fun x4 =>
  (fR M 1 1 x4).bind fun x5 =>
  (fI M 2 0 v1).bind fun x6 =>
  (aR M 26 x5 x6).bind fun x7 =>
  (pI M 8 1 x7 (2 : Int32)).bind fun M8 =>
  J_X3_finish_23 v0 M8)
set_option maxRecDepth 20000 in
set_option maxHeartbeats 4000000 in
theorem lift_X3_finish {G : Gt} {M M9 : Mem} {x9 : Int32} {v0 : Option Nat} {v1 : Option Nat} (h : L_X3_finish v0 v1 M = some (x9, M9)) : Mt G mX3_finish 0 [vR v0, vR v1] M (some (vI x9)) M9 := by
  unfold L_X3_finish at h
  refine Mt.of (by decide +kernel) (Nat.le_of_ble_eq_true rfl) ?_
  have hh : V G mX3_finish 0 M (some (vI x9)) M9 M 0 [(0, vR v0), (1, vR v1)] [] := by
    refine V.aload_n (n := 1) dX3_finish_0 rfl rfl ?_
    refine V.getI dX3_finish_1 lkX3_132 rfl rfl h (fun x3 h => ?_)
    refine V.if_eq (q := 23) dX3_finish_4 (by decide) rfl h (fun h => ?_) (fun h => ?_)
    · exact V.sub [0] rfl (lab_X3_finish_23 h)
    · refine V.aload_n (n := 0) dX3_finish_7 rfl rfl ?_
      refine V.getR dX3_finish_8 lkX3_9 rfl rfl h (fun x4 h => ?_)
      refine V.getR dX3_finish_11 lkX3_100 rfl rfl h (fun x5 h => ?_)
      refine V.aload_n (n := 1) dX3_finish_14 rfl rfl ?_
      refine V.getI dX3_finish_15 lkX3_119 rfl rfl h (fun x6 h => ?_)
      refine V.aald (k := 26) dX3_finish_18 (by decide) (by decide) rfl h (fun x7 h => ?_)
      refine V.iconst (x := 2) dX3_finish_19 (by decide) rfl ?_
      refine V.putI dX3_finish_20 lkX3_136 (Or.inl rfl) rfl rfl h (fun M8 h => ?_)
      exact V.sub [0] rfl (lab_X3_finish_23 h)
  exact hh
def L_X3_push (v0 : Option Nat) (v1 : Int64) (M : Mem) : Option (Int32 × Mem) :=
  (fI M 3 4 v0).bind fun x1 =>
  (fR M 3 3 v0).bind fun x2 =>
  (aN M x2).bind fun x3 =>
  if x3 ≤ x1 then
  (some ((0 : Int32), M))
  else
  ((fR M 3 3 v0).bind fun x4 =>
  (fI M 3 4 v0).bind fun x5 =>
  (uL M 21 x4 x5 v1).bind fun M6 =>
  (fI M6 3 4 v0).bind fun x7 =>
  (pI M6 3 4 v0 (x7 + (1 : Int32))).bind fun M8 =>
  some ((0 : Int32), M8))
set_option maxRecDepth 20000 in
set_option maxHeartbeats 4000000 in
theorem lift_X3_push {G : Gt} {M M9 : Mem} {x9 : Int32} {v0 : Option Nat} {v1 : Int64} (h : L_X3_push v0 v1 M = some (x9, M9)) : Mt G mX3_push 0 [vR v0, vL v1] M (some (vI x9)) M9 := by
  unfold L_X3_push at h
  refine Mt.of (by decide +kernel) (Nat.le_of_ble_eq_true rfl) ?_
  have hh : V G mX3_push 0 M (some (vI x9)) M9 M 0 [(0, vR v0), (1, vL v1)] [] := by
    refine V.aload_n (n := 0) dX3_push_0 rfl rfl ?_
    refine V.getI dX3_push_1 lkX3_40 rfl rfl h (fun x1 h => ?_)
    refine V.aload_n (n := 0) dX3_push_4 rfl rfl ?_
    refine V.getR dX3_push_5 lkX3_22 rfl rfl h (fun x2 h => ?_)
    refine V.alen dX3_push_8 rfl h (fun x3 h => ?_)
    refine V.icmp_ge (q := 32) dX3_push_9 (by decide) rfl h (fun h => ?_) (fun h => ?_)
    · refine V.iconst (x := 0) dX3_push_32 (by decide) rfl ?_
      exact V.iret dX3_push_33 rfl h
    · refine V.aload_n (n := 0) dX3_push_12 rfl rfl ?_
      refine V.getR dX3_push_13 lkX3_22 rfl rfl h (fun x4 h => ?_)
      refine V.aload_n (n := 0) dX3_push_16 rfl rfl ?_
      refine V.getI dX3_push_17 lkX3_40 rfl rfl h (fun x5 h => ?_)
      refine V.lload_n (n := 1) dX3_push_20 rfl rfl ?_
      refine V.last dX3_push_21 rfl h (fun M6 h => ?_)
      refine V.aload_n (n := 0) dX3_push_22 rfl rfl ?_
      refine V.dup dX3_push_23 rfl rfl ?_
      refine V.getI dX3_push_24 lkX3_40 rfl rfl h (fun x7 h => ?_)
      refine V.iconst (x := 1) dX3_push_27 (by decide) rfl ?_
      refine V.iadd dX3_push_28 rfl ?_
      refine V.putI dX3_push_29 lkX3_40 (Or.inl rfl) rfl rfl h (fun M8 h => ?_)
      refine V.iconst (x := 0) dX3_push_32 (by decide) rfl ?_
      exact V.iret dX3_push_33 rfl h
  exact hh
def L_X8_valueOf (v0 : Option Nat) (v1 : Int32) (M : Mem) : Option (Int64 × Mem) :=
  (fR M 8 0 v0).bind fun x1 =>
  if x1 = none then
  (some ((-2000000000000000 : Int64), M))
  else
  (if v1 < 0 then
  (some ((-2000000000000000 : Int64), M))
  else
  ((fR M 8 0 v0).bind fun x2 =>
  (fR M 6 6 x2).bind fun x3 =>
  (aN M x3).bind fun x4 =>
  if x4 ≤ v1 then
  (some ((-2000000000000000 : Int64), M))
  else
  ((fR M 8 5 v0).bind fun x5 =>
  (aI M 20 x5 v1).bind fun x6 =>
  if x6 = (2 : Int32) then
  ((fR M 8 6 v0).bind fun x7 =>
  (aL M 21 x7 v1).bind fun x8 =>
  some (x8, M))
  else
  (some ((-2000000000000000 : Int64), M)))))
set_option maxRecDepth 20000 in
set_option maxHeartbeats 4000000 in
theorem lift_X8_valueOf {G : Gt} {M M9 : Mem} {x9 : Int64} {v0 : Option Nat} {v1 : Int32} (h : L_X8_valueOf v0 v1 M = some (x9, M9)) : Mt G mX8_valueOf 0 [vR v0, vI v1] M (some (vL x9)) M9 := by
  unfold L_X8_valueOf at h
  refine Mt.of (by decide +kernel) (Nat.le_of_ble_eq_true rfl) ?_
  have hh : V G mX8_valueOf 0 M (some (vL x9)) M9 M 0 [(0, vR v0), (1, vI v1)] [] := by
    refine V.aload_n (n := 0) dX8_valueOf_0 rfl rfl ?_
    refine V.getR dX8_valueOf_1 lkX8_26 rfl rfl h (fun x1 h => ?_)
    refine V.ifnull (q := 33) dX8_valueOf_4 (by decide) rfl h (fun h => ?_) (fun h => ?_)
    · refine V.ldc2 (x := (-2000000000000000)) dX8_valueOf_33 clX8_53 rfl ?_
      exact V.lret dX8_valueOf_36 rfl h
    · refine V.iload_n (n := 1) dX8_valueOf_7 rfl rfl ?_
      refine V.if_lt (q := 33) dX8_valueOf_8 (by decide) rfl h (fun h => ?_) (fun h => ?_)
      · refine V.ldc2 (x := (-2000000000000000)) dX8_valueOf_33 clX8_53 rfl ?_
        exact V.lret dX8_valueOf_36 rfl h
      · refine V.iload_n (n := 1) dX8_valueOf_11 rfl rfl ?_
        refine V.aload_n (n := 0) dX8_valueOf_12 rfl rfl ?_
        refine V.getR dX8_valueOf_13 lkX8_26 rfl rfl h (fun x2 h => ?_)
        refine V.getR dX8_valueOf_16 lkX8_48 rfl rfl h (fun x3 h => ?_)
        refine V.alen dX8_valueOf_19 rfl h (fun x4 h => ?_)
        refine V.icmp_ge (q := 33) dX8_valueOf_20 (by decide) rfl h (fun h => ?_) (fun h => ?_)
        · refine V.ldc2 (x := (-2000000000000000)) dX8_valueOf_33 clX8_53 rfl ?_
          exact V.lret dX8_valueOf_36 rfl h
        · refine V.aload_n (n := 0) dX8_valueOf_23 rfl rfl ?_
          refine V.getR dX8_valueOf_24 lkX8_15 rfl rfl h (fun x5 h => ?_)
          refine V.iload_n (n := 1) dX8_valueOf_27 rfl rfl ?_
          refine V.iald dX8_valueOf_28 rfl h (fun x6 h => ?_)
          refine V.iconst (x := 2) dX8_valueOf_29 (by decide) rfl ?_
          refine V.icmp_eq (q := 37) dX8_valueOf_30 (by decide) rfl h (fun h => ?_) (fun h => ?_)
          · refine V.aload_n (n := 0) dX8_valueOf_37 rfl rfl ?_
            refine V.getR dX8_valueOf_38 lkX8_19 rfl rfl h (fun x7 h => ?_)
            refine V.iload_n (n := 1) dX8_valueOf_41 rfl rfl ?_
            refine V.lald dX8_valueOf_42 rfl h (fun x8 h => ?_)
            exact V.lret dX8_valueOf_43 rfl h
          · refine V.ldc2 (x := (-2000000000000000)) dX8_valueOf_33 clX8_53 rfl ?_
            exact V.lret dX8_valueOf_36 rfl h
  exact hh
def L_X3_readConst (v0 : Option Nat) (v1 : Int64) (M : Mem) : Option (Int32 × Mem) :=
  (fR M 3 0 v0).bind fun x1 =>
  (ck M 1 x1).bind fun _ => (L_X1_find x1 (0 : Int32) v1 M).bind fun w2 =>
  if ¬ w2.1 = (-1 : Int32) then
  ((fR w2.2 3 0 v0).bind fun x3 =>
  (fR w2.2 1 1 x3).bind fun x4 =>
  if (8 : Int32) = 0 then none else
  (aR w2.2 26 x4 (w2.1 / (8 : Int32))).bind fun x5 =>
  if (8 : Int32) = 0 then none else
  (ck w2.2 8 x5).bind fun _ => (L_X8_valueOf x5 (w2.1 - w2.1 / (8 : Int32) * (8 : Int32)) w2.2).bind fun w6 =>
  if ¬ w6.1 = (-2000000000000000 : Int64) then
  ((ck w6.2 3 v0).bind fun _ => (L_X3_push v0 w6.1 w6.2).bind fun w7 =>
  some (w7.1, w7.2))
  else
  (some ((802 : Int32), w6.2)))
  else
  (some ((802 : Int32), w2.2))
set_option maxRecDepth 20000 in
set_option maxHeartbeats 4000000 in
theorem lift_X3_readConst {G : Gt} {M M9 : Mem} {x9 : Int32} {v0 : Option Nat} {v1 : Int64} (h : L_X3_readConst v0 v1 M = some (x9, M9)) : Mt G mX3_readConst 2 [vR v0, vL v1] M (some (vI x9)) M9 := by
  unfold L_X3_readConst at h
  refine Mt.of (by decide +kernel) (Nat.le_of_ble_eq_true rfl) ?_
  have hh : V G mX3_readConst 2 M (some (vI x9)) M9 M 0 [(0, vR v0), (1, vL v1)] [] := by
    refine V.aload_n (n := 0) dX3_readConst_0 rfl rfl ?_
    refine V.getR dX3_readConst_1 lkX3_9 rfl rfl h (fun x1 h => ?_)
    refine V.iconst (x := 0) dX3_readConst_4 (by decide) rfl ?_
    refine V.lload_n (n := 1) dX3_readConst_5 rfl rfl ?_
    refine V.callVi (d' := 1) (as := [vI (0 : Int32), vL v1]) (st := []) dX3_readConst_6 meX1_find mlX3_94 imX1_find seX1_find clsX1 rfl (by omega) (Nat.le_of_ble_eq_true rfl) rfl rfl h (fun v hv => lift_X1_find hv) (fun w2 h => ?_)
    refine V.istore_n dX3_readConst_9 rfl (by decide) rfl rfl ?_
    refine V.iload_n (n := 0) dX3_readConst_10 rfl rfl ?_
    refine V.iconst (x := (-1)) dX3_readConst_11 (by decide) rfl ?_
    refine V.icmp_ne (q := 19) dX3_readConst_12 (by decide) rfl h (fun h => ?_) (fun h => ?_)
    · refine V.aload_n (n := 1) dX3_readConst_19 rfl rfl ?_
      refine V.getR dX3_readConst_20 lkX3_9 rfl rfl h (fun x3 h => ?_)
      refine V.getR dX3_readConst_23 lkX3_100 rfl rfl h (fun x4 h => ?_)
      refine V.iload_n (n := 0) dX3_readConst_26 rfl rfl ?_
      refine V.bipush (x := 8) dX3_readConst_27 (by decide) rfl ?_
      refine V.idiv dX3_readConst_29 h rfl (fun h => ?_)
      refine V.aald (k := 26) dX3_readConst_30 (by decide) (by decide) rfl h (fun x5 h => ?_)
      refine V.iload_n (n := 0) dX3_readConst_31 rfl rfl ?_
      refine V.bipush (x := 8) dX3_readConst_32 (by decide) rfl ?_
      refine V.irem dX3_readConst_34 h rfl (fun h => ?_)
      refine V.callVl (d' := 0) (as := [vI (w2.1 - w2.1 / (8 : Int32) * (8 : Int32))]) (st := []) dX3_readConst_35 meX8_valueOf mlX3_184 imX8_valueOf seX8_valueOf clsX8 rfl (by omega) (Nat.le_of_ble_eq_true rfl) rfl rfl h (fun v hv => lift_X8_valueOf hv) (fun w6 h => ?_)
      refine V.lstore dX3_readConst_38 (by decide) rfl rfl ?_
      refine V.lload (n := 0) dX3_readConst_40 rfl rfl ?_
      refine V.ldc2 (x := (-2000000000000000)) dX3_readConst_42 clX3_188 rfl ?_
      refine V.lif_ne (q := 55) dX3_readConst_45 rfl dX3_readConst_46 (by decide) rfl h (fun h => ?_) (fun h => ?_)
      · refine V.aload_n (n := 2) dX3_readConst_55 rfl rfl ?_
        refine V.lload (n := 0) dX3_readConst_56 rfl rfl ?_
        refine V.callVi (d' := 0) (as := [vL w6.1]) (st := []) dX3_readConst_58 meX3_push mlX3_162 imX3_push seX3_push clsX3 rfl (by omega) (Nat.le_of_ble_eq_true rfl) rfl rfl h (fun v hv => lift_X3_push hv) (fun w7 h => ?_)
        exact V.iret dX3_readConst_61 rfl h
      · refine V.sipush (x := 802) dX3_readConst_49 (by decide) rfl ?_
        refine V.goto (q := 61) dX3_readConst_52 (by decide) ?_
        exact V.iret dX3_readConst_61 rfl h
    · refine V.sipush (x := 802) dX3_readConst_15 (by decide) rfl ?_
      exact V.iret dX3_readConst_18 rfl h
  exact hh
def L_X3_pop (v0 : Option Nat) (M : Mem) : Option (Int64 × Mem) :=
  (fI M 3 4 v0).bind fun x1 =>
  if 0 < x1 then
  ((fI M 3 4 v0).bind fun x2 =>
  (pI M 3 4 v0 (x2 - (1 : Int32))).bind fun M3 =>
  (fR M3 3 3 v0).bind fun x4 =>
  (fI M3 3 4 v0).bind fun x5 =>
  (aL M3 21 x4 x5).bind fun x6 =>
  some (x6, M3))
  else
  (some ((0 : Int64), M))
set_option maxRecDepth 20000 in
set_option maxHeartbeats 4000000 in
theorem lift_X3_pop {G : Gt} {M M9 : Mem} {x9 : Int64} {v0 : Option Nat} (h : L_X3_pop v0 M = some (x9, M9)) : Mt G mX3_pop 0 [vR v0] M (some (vL x9)) M9 := by
  unfold L_X3_pop at h
  refine Mt.of (by decide +kernel) (Nat.le_of_ble_eq_true rfl) ?_
  have hh : V G mX3_pop 0 M (some (vL x9)) M9 M 0 [(0, vR v0)] [] := by
    refine V.aload_n (n := 0) dX3_pop_0 rfl rfl ?_
    refine V.getI dX3_pop_1 lkX3_40 rfl rfl h (fun x1 h => ?_)
    refine V.if_gt (q := 9) dX3_pop_4 (by decide) rfl h (fun h => ?_) (fun h => ?_)
    · refine V.aload_n (n := 0) dX3_pop_9 rfl rfl ?_
      refine V.dup dX3_pop_10 rfl rfl ?_
      refine V.getI dX3_pop_11 lkX3_40 rfl rfl h (fun x2 h => ?_)
      refine V.iconst (x := 1) dX3_pop_14 (by decide) rfl ?_
      refine V.isub dX3_pop_15 rfl ?_
      refine V.putI dX3_pop_16 lkX3_40 (Or.inl rfl) rfl rfl h (fun M3 h => ?_)
      refine V.aload_n (n := 0) dX3_pop_19 rfl rfl ?_
      refine V.getR dX3_pop_20 lkX3_22 rfl rfl h (fun x4 h => ?_)
      refine V.aload_n (n := 0) dX3_pop_23 rfl rfl ?_
      refine V.getI dX3_pop_24 lkX3_40 rfl rfl h (fun x5 h => ?_)
      refine V.lald dX3_pop_27 rfl h (fun x6 h => ?_)
      exact V.lret dX3_pop_28 rfl h
    · refine V.lconst (x := 0) dX3_pop_7 (by decide) rfl ?_
      exact V.lret dX3_pop_8 rfl h
  exact hh
def L_X8_hasEntry (v0 : Option Nat) (v1 : Int32) (v2 : Int64) (M : Mem) : Option (Int32 × Mem) :=
  (fR M 8 0 v0).bind fun x1 =>
  if x1 = none then
  ((bz (0 : Int32)).bind fun _ => some ((0 : Int32), M))
  else
  (if v1 < 0 then
  ((bz (0 : Int32)).bind fun _ => some ((0 : Int32), M))
  else
  ((fR M 8 0 v0).bind fun x2 =>
  (fR M 6 9 x2).bind fun x3 =>
  (aN M x3).bind fun x4 =>
  if x4 ≤ v1 then
  ((bz (0 : Int32)).bind fun _ => some ((0 : Int32), M))
  else
  (if v2 < (0 : Int64) then
  ((bz (0 : Int32)).bind fun _ => some ((0 : Int32), M))
  else
  ((fR M 8 0 v0).bind fun x5 =>
  (fR M 6 9 x5).bind fun x6 =>
  (aI M 20 x6 v1).bind fun x7 =>
  if x7.toInt64 ≤ v2 then
  ((bz (0 : Int32)).bind fun _ => some ((0 : Int32), M))
  else
  ((bz (1 : Int32)).bind fun _ => some ((1 : Int32), M))))))
set_option maxRecDepth 20000 in
set_option maxHeartbeats 4000000 in
theorem lift_X8_hasEntry {G : Gt} {M M9 : Mem} {x9 : Int32} {v0 : Option Nat} {v1 : Int32} {v2 : Int64} (h : L_X8_hasEntry v0 v1 v2 M = some (x9, M9)) : Mt G mX8_hasEntry 0 [vR v0, vI v1, vL v2] M (some (vI x9)) M9 := by
  unfold L_X8_hasEntry at h
  refine Mt.of (by decide +kernel) (Nat.le_of_ble_eq_true rfl) ?_
  have hh : V G mX8_hasEntry 0 M (some (vI x9)) M9 M 0 [(0, vR v0), (1, vI v1), (2, vL v2)] [] := by
    refine V.aload_n (n := 0) dX8_hasEntry_0 rfl rfl ?_
    refine V.getR dX8_hasEntry_1 lkX8_26 rfl rfl h (fun x1 h => ?_)
    refine V.ifnull (q := 48) dX8_hasEntry_4 (by decide) rfl h (fun h => ?_) (fun h => ?_)
    · refine V.iconst (x := 0) dX8_hasEntry_48 (by decide) rfl ?_
      exact V.zret dX8_hasEntry_49 rfl h
    · refine V.iload_n (n := 1) dX8_hasEntry_7 rfl rfl ?_
      refine V.if_lt (q := 48) dX8_hasEntry_8 (by decide) rfl h (fun h => ?_) (fun h => ?_)
      · refine V.iconst (x := 0) dX8_hasEntry_48 (by decide) rfl ?_
        exact V.zret dX8_hasEntry_49 rfl h
      · refine V.iload_n (n := 1) dX8_hasEntry_11 rfl rfl ?_
        refine V.aload_n (n := 0) dX8_hasEntry_12 rfl rfl ?_
        refine V.getR dX8_hasEntry_13 lkX8_26 rfl rfl h (fun x2 h => ?_)
        refine V.getR dX8_hasEntry_16 lkX8_55 rfl rfl h (fun x3 h => ?_)
        refine V.alen dX8_hasEntry_19 rfl h (fun x4 h => ?_)
        refine V.icmp_ge (q := 48) dX8_hasEntry_20 (by decide) rfl h (fun h => ?_) (fun h => ?_)
        · refine V.iconst (x := 0) dX8_hasEntry_48 (by decide) rfl ?_
          exact V.zret dX8_hasEntry_49 rfl h
        · refine V.lload_n (n := 2) dX8_hasEntry_23 rfl rfl ?_
          refine V.lconst (x := 0) dX8_hasEntry_24 (by decide) rfl ?_
          refine V.lif_lt (q := 48) dX8_hasEntry_25 rfl dX8_hasEntry_26 (by decide) rfl h (fun h => ?_) (fun h => ?_)
          · refine V.iconst (x := 0) dX8_hasEntry_48 (by decide) rfl ?_
            exact V.zret dX8_hasEntry_49 rfl h
          · refine V.lload_n (n := 2) dX8_hasEntry_29 rfl rfl ?_
            refine V.aload_n (n := 0) dX8_hasEntry_30 rfl rfl ?_
            refine V.getR dX8_hasEntry_31 lkX8_26 rfl rfl h (fun x5 h => ?_)
            refine V.getR dX8_hasEntry_34 lkX8_55 rfl rfl h (fun x6 h => ?_)
            refine V.iload_n (n := 1) dX8_hasEntry_37 rfl rfl ?_
            refine V.iald dX8_hasEntry_38 rfl h (fun x7 h => ?_)
            refine V.i2l dX8_hasEntry_39 rfl ?_
            refine V.lif_ge (q := 48) dX8_hasEntry_40 rfl dX8_hasEntry_41 (by decide) rfl h (fun h => ?_) (fun h => ?_)
            · refine V.iconst (x := 0) dX8_hasEntry_48 (by decide) rfl ?_
              exact V.zret dX8_hasEntry_49 rfl h
            · refine V.iconst (x := 1) dX8_hasEntry_44 (by decide) rfl ?_
              refine V.goto (q := 49) dX8_hasEntry_45 (by decide) ?_
              exact V.zret dX8_hasEntry_49 rfl h
  exact hh
def J_X3_pushEntry_42 (v0 : Option Nat) (v1 : Option Nat) (v2 : Int32) (v4 : Int64) (M : Mem) : Option (Int32 × Mem) :=
  (fR M 8 7 v1).bind fun x1 =>
  (aL M 21 x1 ((v2 * (12 : Int32)) + v4.toInt32)).bind fun x2 =>
  (ck M 3 v0).bind fun _ => (L_X3_push v0 x2 M).bind fun w3 =>
  some (w3.1, w3.2)
set_option maxRecDepth 20000 in
set_option maxHeartbeats 4000000 in
theorem lab_X3_pushEntry_42 {G : Gt} {M0 M9 : Mem} {x9 : Int32} {v0 : Option Nat} {v1 : Option Nat} {v2 : Int32} {v4 : Int64} {M : Mem} (h : J_X3_pushEntry_42 v0 v1 v2 v4 M = some (x9, M9)) : V G mX3_pushEntry 1 M0 (some (vI x9)) M9 M 42 [(0, vR v0), (1, vR v1), (2, vI v2), (4, vL v4)] [] := by
  unfold J_X3_pushEntry_42 at h
  refine V.aload_n (n := 0) dX3_pushEntry_42 rfl rfl ?_
  refine V.aload_n (n := 1) dX3_pushEntry_43 rfl rfl ?_
  refine V.getR dX3_pushEntry_44 lkX3_201 rfl rfl h (fun x1 h => ?_)
  refine V.iload_n (n := 2) dX3_pushEntry_47 rfl rfl ?_
  refine V.bipush (x := 12) dX3_pushEntry_48 (by decide) rfl ?_
  refine V.imul dX3_pushEntry_50 rfl ?_
  refine V.lload (n := 3) dX3_pushEntry_51 rfl rfl ?_
  refine V.l2i dX3_pushEntry_53 rfl ?_
  refine V.iadd dX3_pushEntry_54 rfl ?_
  refine V.lald dX3_pushEntry_55 rfl h (fun x2 h => ?_)
  refine V.callVi (d' := 0) (as := [vL x2]) (st := []) dX3_pushEntry_56 meX3_push mlX3_162 imX3_push seX3_push clsX3 rfl (by omega) (Nat.le_of_ble_eq_true rfl) rfl rfl h (fun v hv => lift_X3_push hv) (fun w3 h => ?_)
  exact V.iret dX3_pushEntry_59 rfl h
def L_X3_pushEntry (v0 : Option Nat) (v1 : Option Nat) (v2 : Int32) (v3 : Int32) (M : Mem) : Option (Int32 × Mem) :=
  (ck M 3 v0).bind fun _ => (L_X3_pop v0 M).bind fun w4 =>
  (ck w4.2 8 v1).bind fun _ => (L_X8_hasEntry v1 v2 w4.1 w4.2).bind fun w5 =>
  if ¬ w5.1 = 0 then
  (if v3 = 0 then
  (J_X3_pushEntry_42 v0 v1 v2 w4.1 w5.2)
  else
  ((fI w5.2 8 1 v1).bind fun x6 =>
  if ¬ x6 = (4 : Int32) then
  (J_X3_pushEntry_42 v0 v1 v2 w4.1 w5.2)
  else
  ((fI w5.2 8 4 v1).bind fun x7 =>
  (pI w5.2 8 4 v1 (x7 + (1 : Int32))).bind fun M8 =>
  J_X3_pushEntry_42 v0 v1 v2 w4.1 M8)))
  else
  (some ((805 : Int32), w5.2))
set_option maxRecDepth 20000 in
set_option maxHeartbeats 4000000 in
theorem lift_X3_pushEntry {G : Gt} {M M9 : Mem} {x9 : Int32} {v0 : Option Nat} {v1 : Option Nat} {v2 : Int32} {v3 : Int32} (h : L_X3_pushEntry v0 v1 v2 v3 M = some (x9, M9)) : Mt G mX3_pushEntry 1 [vR v0, vR v1, vI v2, vI v3] M (some (vI x9)) M9 := by
  unfold L_X3_pushEntry at h
  refine Mt.of (by decide +kernel) (Nat.le_of_ble_eq_true rfl) ?_
  have hh : V G mX3_pushEntry 1 M (some (vI x9)) M9 M 0 [(0, vR v0), (1, vR v1), (2, vI v2), (3, vI v3)] [] := by
    refine V.aload_n (n := 0) dX3_pushEntry_0 rfl rfl ?_
    refine V.callVl (d' := 0) (as := []) (st := []) dX3_pushEntry_1 meX3_pop mlX3_173 imX3_pop seX3_pop clsX3 rfl (by omega) (Nat.le_of_ble_eq_true rfl) rfl rfl h (fun v hv => lift_X3_pop hv) (fun w4 h => ?_)
    refine V.lstore dX3_pushEntry_4 (by decide) rfl rfl ?_
    refine V.aload_n (n := 2) dX3_pushEntry_6 rfl rfl ?_
    refine V.iload_n (n := 3) dX3_pushEntry_7 rfl rfl ?_
    refine V.lload (n := 0) dX3_pushEntry_8 rfl rfl ?_
    refine V.callVi (d' := 0) (as := [vI v2, vL w4.1]) (st := []) dX3_pushEntry_10 meX8_hasEntry mlX3_194 imX8_hasEntry seX8_hasEntry clsX8 rfl (by omega) (Nat.le_of_ble_eq_true rfl) rfl rfl h (fun v hv => lift_X8_hasEntry hv) (fun w5 h => ?_)
    refine V.if_ne (q := 20) dX3_pushEntry_13 (by decide) rfl h (fun h => ?_) (fun h => ?_)
    · refine V.iload_n (n := 4) dX3_pushEntry_20 rfl rfl ?_
      refine V.if_eq (q := 42) dX3_pushEntry_21 (by decide) rfl h (fun h => ?_) (fun h => ?_)
      · exact V.sub [1, 2, 3, 0] rfl (lab_X3_pushEntry_42 h)
      · refine V.aload_n (n := 2) dX3_pushEntry_24 rfl rfl ?_
        refine V.getI dX3_pushEntry_25 lkX3_136 rfl rfl h (fun x6 h => ?_)
        refine V.iconst (x := 4) dX3_pushEntry_28 (by decide) rfl ?_
        refine V.icmp_ne (q := 42) dX3_pushEntry_29 (by decide) rfl h (fun h => ?_) (fun h => ?_)
        · exact V.sub [1, 2, 3, 0] rfl (lab_X3_pushEntry_42 h)
        · refine V.aload_n (n := 2) dX3_pushEntry_32 rfl rfl ?_
          refine V.dup dX3_pushEntry_33 rfl rfl ?_
          refine V.getI dX3_pushEntry_34 lkX3_198 rfl rfl h (fun x7 h => ?_)
          refine V.iconst (x := 1) dX3_pushEntry_37 (by decide) rfl ?_
          refine V.iadd dX3_pushEntry_38 rfl ?_
          refine V.putI dX3_pushEntry_39 lkX3_198 (Or.inl rfl) rfl rfl h (fun M8 h => ?_)
          exact V.sub [1, 2, 3, 0] rfl (lab_X3_pushEntry_42 h)
    · refine V.sipush (x := 805) dX3_pushEntry_16 (by decide) rfl ?_
      exact V.iret dX3_pushEntry_19 rfl h
  exact hh
def J_X3_readEntry_123 (s0 : Option Nat) (s1 : Option Nat) (s2 : Int32) (s3 : Int32) (M : Mem) : Option (Int32 × Mem) :=
  (ck M 3 s0).bind fun _ => (L_X3_pushEntry s0 s1 s2 s3 M).bind fun w1 =>
  some (w1.1, w1.2)
set_option maxRecDepth 20000 in
set_option maxHeartbeats 4000000 in
theorem lab_X3_readEntry_123 {G : Gt} {M0 M9 : Mem} {x9 : Int32} {s0 : Option Nat} {s1 : Option Nat} {s2 : Int32} {s3 : Int32} {M : Mem} (h : J_X3_readEntry_123 s0 s1 s2 s3 M = some (x9, M9)) : V G mX3_readEntry 2 M0 (some (vI x9)) M9 M 123 [] [vI s3, vI s2, vR s1, vR s0] := by
  unfold J_X3_readEntry_123 at h
  refine V.callVi (d' := 1) (as := [vR s1, vI s2, vI s3]) (st := []) dX3_readEntry_123 meX3_pushEntry mlX3_190 imX3_pushEntry seX3_pushEntry clsX3 rfl (by omega) (Nat.le_of_ble_eq_true rfl) rfl rfl h (fun v hv => lift_X3_pushEntry hv) (fun w1 h => ?_)
  exact V.iret dX3_readEntry_126 rfl h
def J_X3_readEntry_83 (v0 : Option Nat) (v1 : Option Nat) (v6 : Int32) (v7 : Int32) (s0 : Int32) (M : Mem) : Option (Int32 × Mem) :=
  if s0 = 0 then
  ((fR M 3 0 v0).bind fun x2 =>
  (fR M 1 1 x2).bind fun x3 =>
  (aR M 26 x3 v7).bind fun x4 =>
  if (8 : Int32) = 0 then none else
  (fI M 2 0 v1).bind fun x5 =>
  if v7 = x5 then
  (J_X3_readEntry_123 v0 x4 (v6 - v6 / (8 : Int32) * (8 : Int32)) (0 : Int32) M)
  else
  (J_X3_readEntry_123 v0 x4 (v6 - v6 / (8 : Int32) * (8 : Int32)) (1 : Int32) M))
  else
  (some (s0, M))
set_option maxRecDepth 20000 in
set_option maxHeartbeats 4000000 in
theorem lab_X3_readEntry_83 {G : Gt} {M0 M9 : Mem} {x9 : Int32} {v0 : Option Nat} {v1 : Option Nat} {v6 : Int32} {v7 : Int32} {s0 : Int32} {M : Mem} (h : J_X3_readEntry_83 v0 v1 v6 v7 s0 M = some (x9, M9)) : V G mX3_readEntry 2 M0 (some (vI x9)) M9 M 83 [(0, vR v0), (1, vR v1), (6, vI v6), (7, vI v7)] [vI s0] := by
  unfold J_X3_readEntry_83 at h
  refine V.istore dX3_readEntry_83 (by decide) rfl rfl ?_
  refine V.iload (n := 0) dX3_readEntry_85 rfl rfl ?_
  refine V.if_eq (q := 93) dX3_readEntry_87 (by decide) rfl h (fun h => ?_) (fun h => ?_)
  · refine V.aload_n (n := 1) dX3_readEntry_93 rfl rfl ?_
    refine V.aload_n (n := 1) dX3_readEntry_94 rfl rfl ?_
    refine V.getR dX3_readEntry_95 lkX3_9 rfl rfl h (fun x2 h => ?_)
    refine V.getR dX3_readEntry_98 lkX3_100 rfl rfl h (fun x3 h => ?_)
    refine V.iload (n := 4) dX3_readEntry_101 rfl rfl ?_
    refine V.aald (k := 26) dX3_readEntry_103 (by decide) (by decide) rfl h (fun x4 h => ?_)
    refine V.iload (n := 3) dX3_readEntry_104 rfl rfl ?_
    refine V.bipush (x := 8) dX3_readEntry_106 (by decide) rfl ?_
    refine V.irem dX3_readEntry_108 h rfl (fun h => ?_)
    refine V.iload (n := 4) dX3_readEntry_109 rfl rfl ?_
    refine V.aload_n (n := 2) dX3_readEntry_111 rfl rfl ?_
    refine V.getI dX3_readEntry_112 lkX3_119 rfl rfl h (fun x5 h => ?_)
    refine V.icmp_eq (q := 122) dX3_readEntry_115 (by decide) rfl h (fun h => ?_) (fun h => ?_)
    · refine V.iconst (x := 0) dX3_readEntry_122 (by decide) rfl ?_
      exact V.sub [] rfl (lab_X3_readEntry_123 h)
    · refine V.iconst (x := 1) dX3_readEntry_118 (by decide) rfl ?_
      refine V.goto (q := 123) dX3_readEntry_119 (by decide) ?_
      exact V.sub [] rfl (lab_X3_readEntry_123 h)
  · refine V.iload (n := 0) dX3_readEntry_90 rfl rfl ?_
    exact V.iret dX3_readEntry_92 rfl h
def J_X3_readEntry_26 (v0 : Option Nat) (v1 : Option Nat) (v2 : Int64) (s0 : Int32) (M : Mem) : Option (Int32 × Mem) :=
  if s0 = 0 then
  ((fR M 3 0 v0).bind fun x6 =>
  (ck M 1 x6).bind fun _ => (L_X1_find x6 (1 : Int32) v2 M).bind fun w7 =>
  if ¬ w7.1 = (-1 : Int32) then
  (if (8 : Int32) = 0 then none else
  (fI w7.2 2 0 v1).bind fun x8 =>
  if ¬ (w7.1 / (8 : Int32)) = x8 then
  ((ck w7.2 3 v0).bind fun _ => (L_X3_demand v0 (w7.1 / (8 : Int32)) w7.2).bind fun w9 =>
  J_X3_readEntry_83 v0 v1 w7.1 (w7.1 / (8 : Int32)) w9.1 w9.2)
  else
  (J_X3_readEntry_83 v0 v1 w7.1 (w7.1 / (8 : Int32)) (0 : Int32) w7.2))
  else
  (some ((802 : Int32), w7.2)))
  else
  (some (s0, M))
set_option maxRecDepth 20000 in
set_option maxHeartbeats 4000000 in
theorem lab_X3_readEntry_26 {G : Gt} {M0 M9 : Mem} {x9 : Int32} {v0 : Option Nat} {v1 : Option Nat} {v2 : Int64} {s0 : Int32} {M : Mem} (h : J_X3_readEntry_26 v0 v1 v2 s0 M = some (x9, M9)) : V G mX3_readEntry 2 M0 (some (vI x9)) M9 M 26 [(0, vR v0), (1, vR v1), (2, vL v2)] [vI s0] := by
  unfold J_X3_readEntry_26 at h
  refine V.istore dX3_readEntry_26 (by decide) rfl rfl ?_
  refine V.iload (n := 0) dX3_readEntry_28 rfl rfl ?_
  refine V.if_eq (q := 36) dX3_readEntry_30 (by decide) rfl h (fun h => ?_) (fun h => ?_)
  · refine V.aload_n (n := 1) dX3_readEntry_36 rfl rfl ?_
    refine V.getR dX3_readEntry_37 lkX3_9 rfl rfl h (fun x6 h => ?_)
    refine V.iconst (x := 1) dX3_readEntry_40 (by decide) rfl ?_
    refine V.lload_n (n := 3) dX3_readEntry_41 rfl rfl ?_
    refine V.callVi (d' := 1) (as := [vI (1 : Int32), vL v2]) (st := []) dX3_readEntry_42 meX1_find mlX3_94 imX1_find seX1_find clsX1 rfl (by omega) (Nat.le_of_ble_eq_true rfl) rfl rfl h (fun v hv => lift_X1_find hv) (fun w7 h => ?_)
    refine V.istore dX3_readEntry_45 (by decide) rfl rfl ?_
    refine V.iload (n := 0) dX3_readEntry_47 rfl rfl ?_
    refine V.iconst (x := (-1)) dX3_readEntry_49 (by decide) rfl ?_
    refine V.icmp_ne (q := 57) dX3_readEntry_50 (by decide) rfl h (fun h => ?_) (fun h => ?_)
    · refine V.iload (n := 0) dX3_readEntry_57 rfl rfl ?_
      refine V.bipush (x := 8) dX3_readEntry_59 (by decide) rfl ?_
      refine V.idiv dX3_readEntry_61 h rfl (fun h => ?_)
      refine V.istore dX3_readEntry_62 (by decide) rfl rfl ?_
      refine V.iload (n := 0) dX3_readEntry_64 rfl rfl ?_
      refine V.aload_n (n := 4) dX3_readEntry_66 rfl rfl ?_
      refine V.getI dX3_readEntry_67 lkX3_119 rfl rfl h (fun x8 h => ?_)
      refine V.icmp_ne (q := 77) dX3_readEntry_70 (by decide) rfl h (fun h => ?_) (fun h => ?_)
      · refine V.aload_n (n := 3) dX3_readEntry_77 rfl rfl ?_
        refine V.iload (n := 0) dX3_readEntry_78 rfl rfl ?_
        refine V.callVi (d' := 1) (as := [vI (w7.1 / (8 : Int32))]) (st := []) dX3_readEntry_80 meX3_demand mlX3_43 imX3_demand seX3_demand clsX3 rfl (by omega) (Nat.le_of_ble_eq_true rfl) rfl rfl h (fun v hv => lift_X3_demand hv) (fun w9 h => ?_)
        exact V.sub [3, 4, 1, 0] rfl (lab_X3_readEntry_83 h)
      · refine V.iconst (x := 0) dX3_readEntry_73 (by decide) rfl ?_
        refine V.goto (q := 83) dX3_readEntry_74 (by decide) ?_
        exact V.sub [3, 4, 1, 0] rfl (lab_X3_readEntry_83 h)
    · refine V.sipush (x := 802) dX3_readEntry_53 (by decide) rfl ?_
      exact V.iret dX3_readEntry_56 rfl h
  · refine V.iload (n := 0) dX3_readEntry_33 rfl rfl ?_
    exact V.iret dX3_readEntry_35 rfl h
def L_X3_readEntry (v0 : Option Nat) (v1 : Option Nat) (v2 : Int64) (M : Mem) : Option (Int32 × Mem) :=
  (fI M 2 0 v1).bind fun x10 =>
  if ¬ (((v2.toUInt64 >>> ((40 : Int32).toInt64.toUInt64 &&& Int64.toUInt64 63)).toInt64).toInt32) = x10 then
  ((ck M 3 v0).bind fun _ => (L_X3_demand v0 (((v2.toUInt64 >>> ((40 : Int32).toInt64.toUInt64 &&& Int64.toUInt64 63)).toInt64).toInt32) M).bind fun w11 =>
  J_X3_readEntry_26 v0 v1 v2 w11.1 w11.2)
  else
  (J_X3_readEntry_26 v0 v1 v2 (0 : Int32) M)
set_option maxRecDepth 20000 in
set_option maxHeartbeats 4000000 in
theorem lift_X3_readEntry {G : Gt} {M M9 : Mem} {x9 : Int32} {v0 : Option Nat} {v1 : Option Nat} {v2 : Int64} (h : L_X3_readEntry v0 v1 v2 M = some (x9, M9)) : Mt G mX3_readEntry 2 [vR v0, vR v1, vL v2] M (some (vI x9)) M9 := by
  unfold L_X3_readEntry at h
  refine Mt.of (by decide +kernel) (Nat.le_of_ble_eq_true rfl) ?_
  have hh : V G mX3_readEntry 2 M (some (vI x9)) M9 M 0 [(0, vR v0), (1, vR v1), (2, vL v2)] [] := by
    refine V.lload_n (n := 2) dX3_readEntry_0 rfl rfl ?_
    refine V.bipush (x := 40) dX3_readEntry_1 (by decide) rfl ?_
    refine V.lushr dX3_readEntry_3 rfl ?_
    refine V.l2i dX3_readEntry_4 rfl ?_
    refine V.istore dX3_readEntry_5 (by decide) rfl rfl ?_
    refine V.iload (n := 0) dX3_readEntry_7 rfl rfl ?_
    refine V.aload_n (n := 2) dX3_readEntry_9 rfl rfl ?_
    refine V.getI dX3_readEntry_10 lkX3_119 rfl rfl h (fun x10 h => ?_)
    refine V.icmp_ne (q := 20) dX3_readEntry_13 (by decide) rfl h (fun h => ?_) (fun h => ?_)
    · refine V.aload_n (n := 1) dX3_readEntry_20 rfl rfl ?_
      refine V.iload (n := 0) dX3_readEntry_21 rfl rfl ?_
      refine V.callVi (d' := 1) (as := [vI (((v2.toUInt64 >>> ((40 : Int32).toInt64.toUInt64 &&& Int64.toUInt64 63)).toInt64).toInt32)]) (st := []) dX3_readEntry_23 meX3_demand mlX3_43 imX3_demand seX3_demand clsX3 rfl (by omega) (Nat.le_of_ble_eq_true rfl) rfl rfl h (fun v hv => lift_X3_demand hv) (fun w11 h => ?_)
      exact V.sub [1, 2, 3] rfl (lab_X3_readEntry_26 h)
    · refine V.iconst (x := 0) dX3_readEntry_16 (by decide) rfl ?_
      refine V.goto (q := 26) dX3_readEntry_17 (by decide) ?_
      exact V.sub [1, 2, 3] rfl (lab_X3_readEntry_26 h)
  exact hh
def J_X3_storeEntry_56 (v1 : Option Nat) (v2 : Int32) (v3 : Option Nat) (v4 : Int32) (M : Mem) : Option (Int32 × Mem) :=
  (fI M 2 4 v1).bind fun x1 =>
  (pI M 2 4 v1 (x1 + (1 : Int32))).bind fun M2 =>
  (fI M2 2 4 v1).bind fun x3 =>
  (ck M2 8 v3).bind fun _ => (L_X8_hasEntry v3 v4 x3.toInt64 M2).bind fun w4 =>
  if ¬ w4.1 = 0 then
  (if (8 : Int32) = 0 then none else
  (pI w4.2 2 2 v1 (v2 / (8 : Int32))).bind fun M5 =>
  some ((-1 : Int32), M5))
  else
  (some ((0 : Int32), w4.2))
set_option maxRecDepth 20000 in
set_option maxHeartbeats 4000000 in
theorem lab_X3_storeEntry_56 {G : Gt} {M0 M9 : Mem} {x9 : Int32} {v1 : Option Nat} {v2 : Int32} {v3 : Option Nat} {v4 : Int32} {M : Mem} (h : J_X3_storeEntry_56 v1 v2 v3 v4 M = some (x9, M9)) : V G mX3_storeEntry 1 M0 (some (vI x9)) M9 M 56 [(1, vR v1), (2, vI v2), (3, vR v3), (4, vI v4)] [] := by
  unfold J_X3_storeEntry_56 at h
  refine V.aload_n (n := 0) dX3_storeEntry_56 rfl rfl ?_
  refine V.dup dX3_storeEntry_57 rfl rfl ?_
  refine V.getI dX3_storeEntry_58 lkX3_129 rfl rfl h (fun x1 h => ?_)
  refine V.iconst (x := 1) dX3_storeEntry_61 (by decide) rfl ?_
  refine V.iadd dX3_storeEntry_62 rfl ?_
  refine V.putI dX3_storeEntry_63 lkX3_129 (Or.inl rfl) rfl rfl h (fun M2 h => ?_)
  refine V.aload_n (n := 2) dX3_storeEntry_66 rfl rfl ?_
  refine V.iload (n := 3) dX3_storeEntry_67 rfl rfl ?_
  refine V.aload_n (n := 0) dX3_storeEntry_69 rfl rfl ?_
  refine V.getI dX3_storeEntry_70 lkX3_129 rfl rfl h (fun x3 h => ?_)
  refine V.i2l dX3_storeEntry_73 rfl ?_
  refine V.callVi (d' := 0) (as := [vI v4, vL x3.toInt64]) (st := []) dX3_storeEntry_74 meX8_hasEntry mlX3_194 imX8_hasEntry seX8_hasEntry clsX8 rfl (by omega) (Nat.le_of_ble_eq_true rfl) rfl rfl h (fun v hv => lift_X8_hasEntry hv) (fun w4 h => ?_)
  refine V.if_ne (q := 82) dX3_storeEntry_77 (by decide) rfl h (fun h => ?_) (fun h => ?_)
  · refine V.aload_n (n := 0) dX3_storeEntry_82 rfl rfl ?_
    refine V.iload_n (n := 1) dX3_storeEntry_83 rfl rfl ?_
    refine V.bipush (x := 8) dX3_storeEntry_84 (by decide) rfl ?_
    refine V.idiv dX3_storeEntry_86 h rfl (fun h => ?_)
    refine V.putI dX3_storeEntry_87 lkX3_123 (Or.inl rfl) rfl rfl h (fun M5 h => ?_)
    refine V.iconst (x := (-1)) dX3_storeEntry_90 (by decide) rfl ?_
    exact V.iret dX3_storeEntry_91 rfl h
  · refine V.iconst (x := 0) dX3_storeEntry_80 (by decide) rfl ?_
    exact V.iret dX3_storeEntry_81 rfl h
def L_X3_storeEntry (v0 : Option Nat) (v1 : Option Nat) (v2 : Int32) (M : Mem) : Option (Int32 × Mem) :=
  (fR M 3 0 v0).bind fun x6 =>
  (fR M 1 1 x6).bind fun x7 =>
  (fI M 2 0 v1).bind fun x8 =>
  (aR M 26 x7 x8).bind fun x9 =>
  if (8 : Int32) = 0 then none else
  (ck M 3 v0).bind fun _ => (L_X3_pop v0 M).bind fun w10 =>
  (fI w10.2 2 4 v1).bind fun x11 =>
  (ck w10.2 8 x9).bind fun _ => (L_X8_hasEntry x9 (v2 - v2 / (8 : Int32) * (8 : Int32)) x11.toInt64 w10.2).bind fun w12 =>
  if w12.1 = 0 then
  (J_X3_storeEntry_56 v1 v2 x9 (v2 - v2 / (8 : Int32) * (8 : Int32)) w12.2)
  else
  ((fR w12.2 8 7 x9).bind fun x13 =>
  (fI w12.2 2 4 v1).bind fun x14 =>
  (uL w12.2 21 x13 (((v2 - v2 / (8 : Int32) * (8 : Int32)) * (12 : Int32)) + x14) w10.1).bind fun M15 =>
  J_X3_storeEntry_56 v1 v2 x9 (v2 - v2 / (8 : Int32) * (8 : Int32)) M15)
set_option maxRecDepth 20000 in
set_option maxHeartbeats 4000000 in
theorem lift_X3_storeEntry {G : Gt} {M M9 : Mem} {x9 : Int32} {v0 : Option Nat} {v1 : Option Nat} {v2 : Int32} (h : L_X3_storeEntry v0 v1 v2 M = some (x9, M9)) : Mt G mX3_storeEntry 1 [vR v0, vR v1, vI v2] M (some (vI x9)) M9 := by
  unfold L_X3_storeEntry at h
  refine Mt.of (by decide +kernel) (Nat.le_of_ble_eq_true rfl) ?_
  have hh : V G mX3_storeEntry 1 M (some (vI x9)) M9 M 0 [(0, vR v0), (1, vR v1), (2, vI v2)] [] := by
    refine V.aload_n (n := 0) dX3_storeEntry_0 rfl rfl ?_
    refine V.getR dX3_storeEntry_1 lkX3_9 rfl rfl h (fun x6 h => ?_)
    refine V.getR dX3_storeEntry_4 lkX3_100 rfl rfl h (fun x7 h => ?_)
    refine V.aload_n (n := 1) dX3_storeEntry_7 rfl rfl ?_
    refine V.getI dX3_storeEntry_8 lkX3_119 rfl rfl h (fun x8 h => ?_)
    refine V.aald (k := 26) dX3_storeEntry_11 (by decide) (by decide) rfl h (fun x9 h => ?_)
    refine V.astore_n dX3_storeEntry_12 rfl (by decide) rfl rfl ?_
    refine V.iload_n (n := 3) dX3_storeEntry_13 rfl rfl ?_
    refine V.bipush (x := 8) dX3_storeEntry_14 (by decide) rfl ?_
    refine V.irem dX3_storeEntry_16 h rfl (fun h => ?_)
    refine V.istore dX3_storeEntry_17 (by decide) rfl rfl ?_
    refine V.aload_n (n := 2) dX3_storeEntry_19 rfl rfl ?_
    refine V.callVl (d' := 0) (as := []) (st := []) dX3_storeEntry_20 meX3_pop mlX3_173 imX3_pop seX3_pop clsX3 rfl (by omega) (Nat.le_of_ble_eq_true rfl) rfl rfl h (fun v hv => lift_X3_pop hv) (fun w10 h => ?_)
    refine V.lstore dX3_storeEntry_23 (by decide) rfl rfl ?_
    refine V.aload_n (n := 2) dX3_storeEntry_25 rfl rfl ?_
    refine V.iload (n := 1) dX3_storeEntry_26 rfl rfl ?_
    refine V.aload_n (n := 4) dX3_storeEntry_28 rfl rfl ?_
    refine V.getI dX3_storeEntry_29 lkX3_129 rfl rfl h (fun x11 h => ?_)
    refine V.i2l dX3_storeEntry_32 rfl ?_
    refine V.callVi (d' := 0) (as := [vI (v2 - v2 / (8 : Int32) * (8 : Int32)), vL x11.toInt64]) (st := []) dX3_storeEntry_33 meX8_hasEntry mlX3_194 imX8_hasEntry seX8_hasEntry clsX8 rfl (by omega) (Nat.le_of_ble_eq_true rfl) rfl rfl h (fun v hv => lift_X8_hasEntry hv) (fun w12 h => ?_)
    refine V.if_eq (q := 56) dX3_storeEntry_36 (by decide) rfl h (fun h => ?_) (fun h => ?_)
    · exact V.sub [4, 5, 2, 1] rfl (lab_X3_storeEntry_56 h)
    · refine V.aload_n (n := 2) dX3_storeEntry_39 rfl rfl ?_
      refine V.getR dX3_storeEntry_40 lkX3_201 rfl rfl h (fun x13 h => ?_)
      refine V.iload (n := 1) dX3_storeEntry_43 rfl rfl ?_
      refine V.bipush (x := 12) dX3_storeEntry_45 (by decide) rfl ?_
      refine V.imul dX3_storeEntry_47 rfl ?_
      refine V.aload_n (n := 4) dX3_storeEntry_48 rfl rfl ?_
      refine V.getI dX3_storeEntry_49 lkX3_129 rfl rfl h (fun x14 h => ?_)
      refine V.iadd dX3_storeEntry_52 rfl ?_
      refine V.lload (n := 0) dX3_storeEntry_53 rfl rfl ?_
      refine V.last dX3_storeEntry_55 rfl h (fun M15 h => ?_)
      exact V.sub [4, 5, 2, 1] rfl (lab_X3_storeEntry_56 h)
  exact hh
