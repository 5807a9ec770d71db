def L_J0_coder_7d493 (G : Gt) (v0 : Option Nat) (M : Mem) : Option (Int32 × Mem) :=
  if (1 : Int32) = 0 then
  ((nz .byte (1 : Int32)).bind fun _ => some ((1 : Int32), M))
  else
  ((xC G v0).bind fun x1 =>
  (nz .byte x1).bind fun _ => some (x1, M))
set_option maxRecDepth 20000 in
set_option maxHeartbeats 4000000 in
theorem lift_J0_coder_7d493 {G : Gt} {M M9 : Mem} {x9 : Int32} {v0 : Option Nat} (h : L_J0_coder_7d493 G v0 M = some (x9, M9)) : Mt G mJ0_coder_7d493 0 [vX v0] M (some (vI x9)) M9 := by
  unfold L_J0_coder_7d493 at h
  refine Mt.of (by decide +kernel) (Nat.le_of_ble_eq_true rfl) ?_
  have hh : V G mJ0_coder_7d493 0 M (some (vI x9)) M9 M 0 [(0, vX v0)] [] := by
    refine V.getsC dJ0_coder_7d493_0 fsJ0_38 rfl ?_
    refine V.if_eq (q := 13) dJ0_coder_7d493_3 (by decide) rfl h (fun h => ?_) (fun h => ?_)
    · refine V.iconst (x := 1) dJ0_coder_7d493_13 (by decide) rfl ?_
      exact V.nret dJ0_coder_7d493_14 rfl (Or.inl rfl) h
    · refine V.xload_n (n := 0) dJ0_coder_7d493_6 rfl rfl ?_
      refine V.xgetC dJ0_coder_7d493_7 fsJ0_15 rfl h (fun x1 h => ?_)
      refine V.goto (q := 14) dJ0_coder_7d493_10 (by decide) ?_
      exact V.nret dJ0_coder_7d493_14 rfl (Or.inl rfl) h
  exact hh
def L_J0_length_8abf5 (G : Gt) (v0 : Option Nat) (M : Mem) : Option (Int32 × Mem) :=
  (xV G v0).bind fun x1 =>
  (xN G x1).bind fun x2 =>
  (ckX G v0).bind fun _ => (L_J0_coder_7d493 G v0 M).bind fun w3 =>
  some (x2 >>> (w3.1 &&& 31), w3.2)
set_option maxRecDepth 20000 in
set_option maxHeartbeats 4000000 in
theorem lift_J0_length_8abf5 {G : Gt} {M M9 : Mem} {x9 : Int32} {v0 : Option Nat} (h : L_J0_length_8abf5 G v0 M = some (x9, M9)) : Mt G mJ0_length_8abf5 1 [vX v0] M (some (vI x9)) M9 := by
  unfold L_J0_length_8abf5 at h
  refine Mt.of (by decide +kernel) (Nat.le_of_ble_eq_true rfl) ?_
  have hh : V G mJ0_length_8abf5 1 M (some (vI x9)) M9 M 0 [(0, vX v0)] [] := by
    refine V.xload_n (n := 0) dJ0_length_8abf5_0 rfl rfl ?_
    refine V.xgetV dJ0_length_8abf5_1 fsJ0_9 rfl h (fun x1 h => ?_)
    refine V.xlen dJ0_length_8abf5_4 rfl h (fun x2 h => ?_)
    refine V.xload_n (n := 0) dJ0_length_8abf5_5 rfl rfl ?_
    refine V.callXi (d' := 0) (as := []) (st := [vI x2]) dJ0_length_8abf5_6 meJ0_coder_7d493 rfl mlJ0_335 imJ0_coder_7d493 seJ0_coder_7d493 rfl (by omega) (Nat.le_of_ble_eq_true rfl) rfl rfl h (fun v hv => lift_J0_coder_7d493 hv) (fun w3 h => ?_)
    refine V.ishr dJ0_length_8abf5_9 rfl ?_
    exact V.iret dJ0_length_8abf5_10 rfl h
  exact hh
def L_J0_isLatin1_aae02 (G : Gt) (v0 : Option Nat) (M : Mem) : Option (Int32 × Mem) :=
  if (1 : Int32) = 0 then
  ((bz (0 : Int32)).bind fun _ => some ((0 : Int32), M))
  else
  ((xC G v0).bind fun x1 =>
  if ¬ x1 = 0 then
  ((bz (0 : Int32)).bind fun _ => some ((0 : Int32), M))
  else
  ((bz (1 : Int32)).bind fun _ => some ((1 : Int32), M)))
set_option maxRecDepth 20000 in
set_option maxHeartbeats 4000000 in
theorem lift_J0_isLatin1_aae02 {G : Gt} {M M9 : Mem} {x9 : Int32} {v0 : Option Nat} (h : L_J0_isLatin1_aae02 G v0 M = some (x9, M9)) : Mt G mJ0_isLatin1_aae02 0 [vX v0] M (some (vI x9)) M9 := by
  unfold L_J0_isLatin1_aae02 at h
  refine Mt.of (by decide +kernel) (Nat.le_of_ble_eq_true rfl) ?_
  have hh : V G mJ0_isLatin1_aae02 0 M (some (vI x9)) M9 M 0 [(0, vX v0)] [] := by
    refine V.getsC dJ0_isLatin1_aae02_0 fsJ0_38 rfl ?_
    refine V.if_eq (q := 17) dJ0_isLatin1_aae02_3 (by decide) rfl h (fun h => ?_) (fun h => ?_)
    · refine V.iconst (x := 0) dJ0_isLatin1_aae02_17 (by decide) rfl ?_
      exact V.zret dJ0_isLatin1_aae02_18 rfl h
    · refine V.xload_n (n := 0) dJ0_isLatin1_aae02_6 rfl rfl ?_
      refine V.xgetC dJ0_isLatin1_aae02_7 fsJ0_15 rfl h (fun x1 h => ?_)
      refine V.if_ne (q := 17) dJ0_isLatin1_aae02_10 (by decide) rfl h (fun h => ?_) (fun h => ?_)
      · refine V.iconst (x := 0) dJ0_isLatin1_aae02_17 (by decide) rfl ?_
        exact V.zret dJ0_isLatin1_aae02_18 rfl h
      · refine V.iconst (x := 1) dJ0_isLatin1_aae02_13 (by decide) rfl ?_
        refine V.goto (q := 18) dJ0_isLatin1_aae02_14 (by decide) ?_
        exact V.zret dJ0_isLatin1_aae02_18 rfl h
  exact hh
def L_J3_checkIndex_8e157 (G : Gt) (v0 : Int32) (v1 : Int32) (v2 : Option Nat) (M : Mem) : Option (Int32 × Mem) :=
  if v0 < 0 then
  (none)
  else
  (if v0 < v1 then
  (some (v0, M))
  else
  (none))
set_option maxRecDepth 20000 in
set_option maxHeartbeats 4000000 in
theorem lift_J3_checkIndex_8e157 {G : Gt} {M M9 : Mem} {x9 : Int32} {v0 : Int32} {v1 : Int32} {v2 : Option Nat} (h : L_J3_checkIndex_8e157 G v0 v1 v2 M = some (x9, M9)) : Mt G mJ3_checkIndex_8e157 0 [vI v0, vI v1, vX v2] M (some (vI x9)) M9 := by
  unfold L_J3_checkIndex_8e157 at h
  refine Mt.of (by decide +kernel) (Nat.le_of_ble_eq_true rfl) ?_
  have hh : V G mJ3_checkIndex_8e157 0 M (some (vI x9)) M9 M 0 [(0, vI v0), (1, vI v1), (2, vX v2)] [] := by
    refine V.iload_n (n := 0) dJ3_checkIndex_8e157_0 rfl rfl ?_
    refine V.if_lt (q := 9) dJ3_checkIndex_8e157_1 (by decide) rfl h (fun h => ?_) (fun h => ?_)
    · exact nomatch h
    · refine V.iload_n (n := 0) dJ3_checkIndex_8e157_4 rfl rfl ?_
      refine V.iload_n (n := 1) dJ3_checkIndex_8e157_5 rfl rfl ?_
      refine V.icmp_lt (q := 16) dJ3_checkIndex_8e157_6 (by decide) rfl h (fun h => ?_) (fun h => ?_)
      · refine V.iload_n (n := 0) dJ3_checkIndex_8e157_16 rfl rfl ?_
        exact V.iret dJ3_checkIndex_8e157_17 rfl h
      · exact nomatch h
  exact hh
def L_J0_checkIndex_df160 (G : Gt) (v0 : Int32) (v1 : Int32) (M : Mem) : Option (Unit × Mem) :=
  (L_J3_checkIndex_8e157 G v0 v1 (gF G) M).bind fun w1 =>
  some ((), w1.2)
set_option maxRecDepth 20000 in
set_option maxHeartbeats 4000000 in
theorem lift_J0_checkIndex_df160 {G : Gt} {M M9 : Mem} {x9 : Unit} {v0 : Int32} {v1 : Int32} (h : L_J0_checkIndex_df160 G v0 v1 M = some (x9, M9)) : Mt G mJ0_checkIndex_df160 1 [vI v0, vI v1] M none M9 := by
  unfold L_J0_checkIndex_df160 at h
  refine Mt.of (by decide +kernel) (Nat.le_of_ble_eq_true rfl) ?_
  have hh : V G mJ0_checkIndex_df160 1 M none M9 M 0 [(0, vI v0), (1, vI v1)] [] := by
    refine V.iload_n (n := 0) dJ0_checkIndex_df160_0 rfl rfl ?_
    refine V.iload_n (n := 1) dJ0_checkIndex_df160_1 rfl rfl ?_
    refine V.getsF dJ0_checkIndex_df160_2 fsJ0_1053 rfl ?_
    refine V.callSi (d' := 0) (as := [vI v0, vI v1, vX (gF G)]) (st := []) dJ0_checkIndex_df160_5 meJ3_checkIndex_8e157 mlJ0_1059 smJ3_checkIndex_8e157 rfl (by omega) (Nat.le_of_ble_eq_true rfl) rfl rfl h (fun v hv => lift_J3_checkIndex_8e157 hv) (fun w1 h => ?_)
    refine V.pop dJ0_checkIndex_df160_8 rfl rfl ?_
    exact V.vret dJ0_checkIndex_df160_9 rfl h
  exact hh
def L_J1_charAt_3b067 (G : Gt) (v0 : Option Nat) (v1 : Int32) (M : Mem) : Option (Int32 × Mem) :=
  (xN G v0).bind fun x1 =>
  (L_J0_checkIndex_df160 G v1 x1 M).bind fun w2 =>
  (xB G v0 v1).bind fun x3 =>
  (nz .char (((x3 &&& (255 : Int32)).toUInt32 % 65536).toInt32)).bind fun _ => some (((x3 &&& (255 : Int32)).toUInt32 % 65536).toInt32, w2.2)
set_option maxRecDepth 20000 in
set_option maxHeartbeats 4000000 in
theorem lift_J1_charAt_3b067 {G : Gt} {M M9 : Mem} {x9 : Int32} {v0 : Option Nat} {v1 : Int32} (h : L_J1_charAt_3b067 G v0 v1 M = some (x9, M9)) : Mt G mJ1_charAt_3b067 2 [vX v0, vI v1] M (some (vI x9)) M9 := by
  unfold L_J1_charAt_3b067 at h
  refine Mt.of (by decide +kernel) (Nat.le_of_ble_eq_true rfl) ?_
  have hh : V G mJ1_charAt_3b067 2 M (some (vI x9)) M9 M 0 [(0, vX v0), (1, vI v1)] [] := by
    refine V.iload_n (n := 1) dJ1_charAt_3b067_0 rfl rfl ?_
    refine V.xload_n (n := 0) dJ1_charAt_3b067_1 rfl rfl ?_
    refine V.xlen dJ1_charAt_3b067_2 rfl h (fun x1 h => ?_)
    refine V.callSv (d' := 1) (as := [vI v1, vI x1]) (st := []) dJ1_charAt_3b067_3 meJ0_checkIndex_df160 mlJ1_9 smJ0_checkIndex_df160 rfl (by omega) (Nat.le_of_ble_eq_true rfl) rfl rfl h (fun v hv => lift_J0_checkIndex_df160 hv) (fun w2 h => ?_)
    refine V.xload_n (n := 0) dJ1_charAt_3b067_6 rfl rfl ?_
    refine V.iload_n (n := 1) dJ1_charAt_3b067_7 rfl rfl ?_
    refine V.xbald dJ1_charAt_3b067_8 rfl h (fun x3 h => ?_)
    refine V.sipush (x := 255) dJ1_charAt_3b067_9 (by decide) rfl ?_
    refine V.iand dJ1_charAt_3b067_12 rfl ?_
    refine V.i2c dJ1_charAt_3b067_13 rfl ?_
    exact V.nret dJ1_charAt_3b067_14 rfl (Or.inr rfl) h
  exact hh
def L_J0_charAt_5068e (G : Gt) (v0 : Option Nat) (v1 : Int32) (M : Mem) : Option (Int32 × Mem) :=
  (ckX G v0).bind fun _ => (L_J0_isLatin1_aae02 G v0 M).bind fun w1 =>
  if w1.1 = 0 then
  (none)
  else
  ((xV G v0).bind fun x2 =>
  (L_J1_charAt_3b067 G x2 v1 w1.2).bind fun w3 =>
  (nz .char w3.1).bind fun _ => some (w3.1, w3.2))
set_option maxRecDepth 20000 in
set_option maxHeartbeats 4000000 in
theorem lift_J0_charAt_5068e {G : Gt} {M M9 : Mem} {x9 : Int32} {v0 : Option Nat} {v1 : Int32} (h : L_J0_charAt_5068e G v0 v1 M = some (x9, M9)) : Mt G mJ0_charAt_5068e 3 [vX v0, vI v1] M (some (vI x9)) M9 := by
  unfold L_J0_charAt_5068e at h
  refine Mt.of (by decide +kernel) (Nat.le_of_ble_eq_true rfl) ?_
  have hh : V G mJ0_charAt_5068e 3 M (some (vI x9)) M9 M 0 [(0, vX v0), (1, vI v1)] [] := by
    refine V.xload_n (n := 0) dJ0_charAt_5068e_0 rfl rfl ?_
    refine V.callXi (d' := 0) (as := []) (st := []) dJ0_charAt_5068e_1 meJ0_isLatin1_aae02 rfl mlJ0_492 imJ0_isLatin1_aae02 seJ0_isLatin1_aae02 rfl (by omega) (Nat.le_of_ble_eq_true rfl) rfl rfl h (fun v hv => lift_J0_isLatin1_aae02 hv) (fun w1 h => ?_)
    refine V.if_eq (q := 16) dJ0_charAt_5068e_4 (by decide) rfl h (fun h => ?_) (fun h => ?_)
    · exact nomatch h
    · refine V.xload_n (n := 0) dJ0_charAt_5068e_7 rfl rfl ?_
      refine V.xgetV dJ0_charAt_5068e_8 fsJ0_9 rfl h (fun x2 h => ?_)
      refine V.iload_n (n := 1) dJ0_charAt_5068e_11 rfl rfl ?_
      refine V.callSi (d' := 2) (as := [vX x2, vI v1]) (st := []) dJ0_charAt_5068e_12 meJ1_charAt_3b067 mlJ0_495 smJ1_charAt_3b067 rfl (by omega) (Nat.le_of_ble_eq_true rfl) rfl rfl h (fun v hv => lift_J1_charAt_3b067 hv) (fun w3 h => ?_)
      exact V.nret dJ0_charAt_5068e_15 rfl (Or.inr rfl) h
  exact hh
def L_J1_canEncode_9a6ad (G : Gt) (v0 : Int32) (M : Mem) : Option (Int32 × Mem) :=
  if v0 < 0 then
  ((bz (0 : Int32)).bind fun _ => some ((0 : Int32), M))
  else
  (if (255 : Int32) < v0 then
  ((bz (0 : Int32)).bind fun _ => some ((0 : Int32), M))
  else
  ((bz (1 : Int32)).bind fun _ => some ((1 : Int32), M)))
set_option maxRecDepth 20000 in
set_option maxHeartbeats 4000000 in
theorem lift_J1_canEncode_9a6ad {G : Gt} {M M9 : Mem} {x9 : Int32} {v0 : Int32} (h : L_J1_canEncode_9a6ad G v0 M = some (x9, M9)) : Mt G mJ1_canEncode_9a6ad 0 [vI v0] M (some (vI x9)) M9 := by
  unfold L_J1_canEncode_9a6ad at h
  refine Mt.of (by decide +kernel) (Nat.le_of_ble_eq_true rfl) ?_
  have hh : V G mJ1_canEncode_9a6ad 0 M (some (vI x9)) M9 M 0 [(0, vI v0)] [] := by
    refine V.iload_n (n := 0) dJ1_canEncode_9a6ad_0 rfl rfl ?_
    refine V.if_lt (q := 15) dJ1_canEncode_9a6ad_1 (by decide) rfl h (fun h => ?_) (fun h => ?_)
    · refine V.iconst (x := 0) dJ1_canEncode_9a6ad_15 (by decide) rfl ?_
      exact V.zret dJ1_canEncode_9a6ad_16 rfl h
    · refine V.iload_n (n := 0) dJ1_canEncode_9a6ad_4 rfl rfl ?_
      refine V.sipush (x := 255) dJ1_canEncode_9a6ad_5 (by decide) rfl ?_
      refine V.icmp_gt (q := 15) dJ1_canEncode_9a6ad_8 (by decide) rfl h (fun h => ?_) (fun h => ?_)
      · refine V.iconst (x := 0) dJ1_canEncode_9a6ad_15 (by decide) rfl ?_
        exact V.zret dJ1_canEncode_9a6ad_16 rfl h
      · refine V.iconst (x := 1) dJ1_canEncode_9a6ad_11 (by decide) rfl ?_
        refine V.goto (q := 16) dJ1_canEncode_9a6ad_12 (by decide) ?_
        exact V.zret dJ1_canEncode_9a6ad_16 rfl h
  exact hh
def J_J1_indexOfChar_4cfef_7 (G : Gt) : Nat → Option Nat → Int32 → Int32 → Int32 → Mem → Option (Int32 × Mem)
  | 0 => fun _ _ _ _ _ => none
  | n + 1 => fun v0 v3 v4 v5 M =>
  if v3 ≤ v5 then
  (some ((-1 : Int32), M))
  else
  ((xB G v0 v5).bind fun x1 =>
  if ¬ x1 = v4 then
  (J_J1_indexOfChar_4cfef_7 G n v0 v3 v4 (v5 + 1) M)
  else
  (some (v5, M)))
set_option maxRecDepth 20000 in
set_option maxHeartbeats 4000000 in
theorem lab_J1_indexOfChar_4cfef_7 {G : Gt} {M0 M9 : Mem} {x9 : Int32} : ∀ (n : Nat) (v0 : Option Nat) (v3 : Int32) (v4 : Int32) (v5 : Int32) (M : Mem), J_J1_indexOfChar_4cfef_7 G n v0 v3 v4 v5 M = some (x9, M9) → V G mJ1_indexOfChar_4cfef 0 M0 (some (vI x9)) M9 M 7 [(0, vX v0), (3, vI v3), (4, vI v4), (5, vI v5)] [] := by
  intro n
  induction n with
  | zero => intro v0 v3 v4 v5 M h; exact nomatch h
  | succ n ih =>
    intro v0 v3 v4 v5 M h
    unfold J_J1_indexOfChar_4cfef_7 at h
    refine V.iload (n := 3) dJ1_indexOfChar_4cfef_7 rfl rfl ?_
    refine V.iload_n (n := 1) dJ1_indexOfChar_4cfef_9 rfl rfl ?_
    refine V.icmp_ge (q := 31) dJ1_indexOfChar_4cfef_10 (by decide) rfl h (fun h => ?_) (fun h => ?_)
    · refine V.iconst (x := (-1)) dJ1_indexOfChar_4cfef_31 (by decide) rfl ?_
      exact V.iret dJ1_indexOfChar_4cfef_32 rfl h
    · refine V.xload_n (n := 0) dJ1_indexOfChar_4cfef_13 rfl rfl ?_
      refine V.iload (n := 3) dJ1_indexOfChar_4cfef_14 rfl rfl ?_
      refine V.xbald dJ1_indexOfChar_4cfef_16 rfl h (fun x1 h => ?_)
      refine V.iload (n := 2) dJ1_indexOfChar_4cfef_17 rfl rfl ?_
      refine V.icmp_ne (q := 25) dJ1_indexOfChar_4cfef_19 (by decide) rfl h (fun h => ?_) (fun h => ?_)
      · refine V.iinc (n := 3) (x := v5 + 1) dJ1_indexOfChar_4cfef_25 rfl (by rfl) (by decide) rfl rfl ?_
        refine V.goto (q := 7) dJ1_indexOfChar_4cfef_28 (by decide) ?_
        exact V.sub [1, 2, 3, 0] rfl (ih _ _ _ _ _ h)
      · refine V.iload (n := 3) dJ1_indexOfChar_4cfef_22 rfl rfl ?_
        exact V.iret dJ1_indexOfChar_4cfef_24 rfl h
def L_J1_indexOfChar_4cfef (G : Gt) (v0 : Option Nat) (v1 : Int32) (v2 : Int32) (v3 : Int32) (M : Mem) : Option (Int32 × Mem) :=
  J_J1_indexOfChar_4cfef_7 G FU v0 v3 v1.toInt8.toInt32 v2 M
set_option maxRecDepth 20000 in
set_option maxHeartbeats 4000000 in
theorem lift_J1_indexOfChar_4cfef {G : Gt} {M M9 : Mem} {x9 : Int32} {v0 : Option Nat} {v1 : Int32} {v2 : Int32} {v3 : Int32} (h : L_J1_indexOfChar_4cfef G v0 v1 v2 v3 M = some (x9, M9)) : Mt G mJ1_indexOfChar_4cfef 0 [vX v0, vI v1, vI v2, vI v3] M (some (vI x9)) M9 := by
  unfold L_J1_indexOfChar_4cfef at h
  refine Mt.of (by decide +kernel) (Nat.le_of_ble_eq_true rfl) ?_
  have hh : V G mJ1_indexOfChar_4cfef 0 M (some (vI x9)) M9 M 0 [(0, vX v0), (1, vI v1), (2, vI v2), (3, vI v3)] [] := by
    refine V.iload_n (n := 1) dJ1_indexOfChar_4cfef_0 rfl rfl ?_
    refine V.i2b dJ1_indexOfChar_4cfef_1 rfl ?_
    refine V.istore dJ1_indexOfChar_4cfef_2 (by decide) rfl rfl ?_
    refine V.iload_n (n := 3) dJ1_indexOfChar_4cfef_4 rfl rfl ?_
    refine V.istore dJ1_indexOfChar_4cfef_5 (by decide) rfl rfl ?_
    exact V.sub [2, 5, 1, 0] rfl (lab_J1_indexOfChar_4cfef_7 FU _ _ _ _ _ h)
  exact hh
def L_J1_indexOf_4cfef (G : Gt) (v0 : Option Nat) (v1 : Int32) (v2 : Int32) (v3 : Int32) (M : Mem) : Option (Int32 × Mem) :=
  (L_J1_canEncode_9a6ad G v1 M).bind fun w1 =>
  if ¬ w1.1 = 0 then
  ((xN G v0).bind fun x2 =>
  if (if v2 < (0 : Int32) then (0 : Int32) else v2) < (if x2 < v3 then x2 else v3) then
  ((L_J1_indexOfChar_4cfef G v0 v1 (if v2 < (0 : Int32) then (0 : Int32) else v2) (if x2 < v3 then x2 else v3) w1.2).bind fun w3 =>
  some (w3.1, w3.2))
  else
  (some ((-1 : Int32), w1.2)))
  else
  (some ((-1 : Int32), w1.2))
set_option maxRecDepth 20000 in
set_option maxHeartbeats 4000000 in
theorem lift_J1_indexOf_4cfef {G : Gt} {M M9 : Mem} {x9 : Int32} {v0 : Option Nat} {v1 : Int32} {v2 : Int32} {v3 : Int32} (h : L_J1_indexOf_4cfef G v0 v1 v2 v3 M = some (x9, M9)) : Mt G mJ1_indexOf_4cfef 1 [vX v0, vI v1, vI v2, vI v3] M (some (vI x9)) M9 := by
  unfold L_J1_indexOf_4cfef at h
  refine Mt.of (by decide +kernel) (Nat.le_of_ble_eq_true rfl) ?_
  have hh : V G mJ1_indexOf_4cfef 1 M (some (vI x9)) M9 M 0 [(0, vX v0), (1, vI v1), (2, vI v2), (3, vI v3)] [] := by
    refine V.iload_n (n := 1) dJ1_indexOf_4cfef_0 rfl rfl ?_
    refine V.callSi (d' := 0) (as := [vI v1]) (st := []) dJ1_indexOf_4cfef_1 meJ1_canEncode_9a6ad mlJ1_88 smJ1_canEncode_9a6ad rfl (by omega) (Nat.le_of_ble_eq_true rfl) rfl rfl h (fun v hv => lift_J1_canEncode_9a6ad hv) (fun w1 h => ?_)
    refine V.if_ne (q := 9) dJ1_indexOf_4cfef_4 (by decide) rfl h (fun h => ?_) (fun h => ?_)
    · refine V.iload_n (n := 2) dJ1_indexOf_4cfef_9 rfl rfl ?_
      refine V.iconst (x := 0) dJ1_indexOf_4cfef_10 (by decide) rfl ?_
      refine V.imax dJ1_indexOf_4cfef_11 mmJ1_92 ms_max ms_init mc_max (by omega) (Nat.le_of_ble_eq_true rfl) rfl ?_
      refine V.istore_n dJ1_indexOf_4cfef_14 rfl (by decide) rfl rfl ?_
      refine V.iload_n (n := 3) dJ1_indexOf_4cfef_15 rfl rfl ?_
      refine V.xload_n (n := 1) dJ1_indexOf_4cfef_16 rfl rfl ?_
      refine V.xlen dJ1_indexOf_4cfef_17 rfl h (fun x2 h => ?_)
      refine V.imin dJ1_indexOf_4cfef_18 mmJ1_38 ms_min ms_init mc_min (by omega) (Nat.le_of_ble_eq_true rfl) rfl ?_
      refine V.istore_n dJ1_indexOf_4cfef_21 rfl (by decide) rfl rfl ?_
      refine V.iload_n (n := 1) dJ1_indexOf_4cfef_22 rfl rfl ?_
      refine V.iload_n (n := 0) dJ1_indexOf_4cfef_23 rfl rfl ?_
      refine V.icmp_lt (q := 29) dJ1_indexOf_4cfef_24 (by decide) rfl h (fun h => ?_) (fun h => ?_)
      · refine V.xload_n (n := 2) dJ1_indexOf_4cfef_29 rfl rfl ?_
        refine V.iload_n (n := 3) dJ1_indexOf_4cfef_30 rfl rfl ?_
        refine V.iload_n (n := 1) dJ1_indexOf_4cfef_31 rfl rfl ?_
        refine V.iload_n (n := 0) dJ1_indexOf_4cfef_32 rfl rfl ?_
        refine V.callSi (d' := 0) (as := [vX v0, vI v1, vI (if v2 < (0 : Int32) then (0 : Int32) else v2), vI (if x2 < v3 then x2 else v3)]) (st := []) dJ1_indexOf_4cfef_33 meJ1_indexOfChar_4cfef mlJ1_95 smJ1_indexOfChar_4cfef rfl (by omega) (Nat.le_of_ble_eq_true rfl) rfl rfl h (fun v hv => lift_J1_indexOfChar_4cfef hv) (fun w3 h => ?_)
        exact V.iret dJ1_indexOf_4cfef_36 rfl h
      · refine V.iconst (x := (-1)) dJ1_indexOf_4cfef_27 (by decide) rfl ?_
        exact V.iret dJ1_indexOf_4cfef_28 rfl h
    · refine V.iconst (x := (-1)) dJ1_indexOf_4cfef_7 (by decide) rfl ?_
      exact V.iret dJ1_indexOf_4cfef_8 rfl h
  exact hh
def L_J0_indexOf_7cf53 (G : Gt) (v0 : Option Nat) (v1 : Int32) (v2 : Int32) (M : Mem) : Option (Int32 × Mem) :=
  (ckX G v0).bind fun _ => (L_J0_isLatin1_aae02 G v0 M).bind fun w1 =>
  if w1.1 = 0 then
  (none)
  else
  ((xV G v0).bind fun x2 =>
  (ckX G v0).bind fun _ => (L_J0_length_8abf5 G v0 w1.2).bind fun w3 =>
  (L_J1_indexOf_4cfef G x2 v1 v2 w3.1 w3.2).bind fun w4 =>
  some (w4.1, w4.2))
set_option maxRecDepth 20000 in
set_option maxHeartbeats 4000000 in
theorem lift_J0_indexOf_7cf53 {G : Gt} {M M9 : Mem} {x9 : Int32} {v0 : Option Nat} {v1 : Int32} {v2 : Int32} (h : L_J0_indexOf_7cf53 G v0 v1 v2 M = some (x9, M9)) : Mt G mJ0_indexOf_7cf53 2 [vX v0, vI v1, vI v2] M (some (vI x9)) M9 := by
  unfold L_J0_indexOf_7cf53 at h
  refine Mt.of (by decide +kernel) (Nat.le_of_ble_eq_true rfl) ?_
  have hh : V G mJ0_indexOf_7cf53 2 M (some (vI x9)) M9 M 0 [(0, vX v0), (1, vI v1), (2, vI v2)] [] := by
    refine V.xload_n (n := 0) dJ0_indexOf_7cf53_0 rfl rfl ?_
    refine V.callXi (d' := 0) (as := []) (st := []) dJ0_indexOf_7cf53_1 meJ0_isLatin1_aae02 rfl mlJ0_492 imJ0_isLatin1_aae02 seJ0_isLatin1_aae02 rfl (by omega) (Nat.le_of_ble_eq_true rfl) rfl rfl h (fun v hv => lift_J0_isLatin1_aae02 hv) (fun w1 h => ?_)
    refine V.if_eq (q := 23) dJ0_indexOf_7cf53_4 (by decide) rfl h (fun h => ?_) (fun h => ?_)
    · exact nomatch h
    · refine V.xload_n (n := 0) dJ0_indexOf_7cf53_7 rfl rfl ?_
      refine V.xgetV dJ0_indexOf_7cf53_8 fsJ0_9 rfl h (fun x2 h => ?_)
      refine V.iload_n (n := 1) dJ0_indexOf_7cf53_11 rfl rfl ?_
      refine V.iload_n (n := 2) dJ0_indexOf_7cf53_12 rfl rfl ?_
      refine V.xload_n (n := 0) dJ0_indexOf_7cf53_13 rfl rfl ?_
      refine V.callXi (d' := 1) (as := []) (st := [vI v2, vI v1, vX x2]) dJ0_indexOf_7cf53_14 meJ0_length_8abf5 rfl mlJ0_505 imJ0_length_8abf5 seJ0_length_8abf5 rfl (by omega) (Nat.le_of_ble_eq_true rfl) rfl rfl h (fun v hv => lift_J0_length_8abf5 hv) (fun w3 h => ?_)
      refine V.callSi (d' := 1) (as := [vX x2, vI v1, vI v2, vI w3.1]) (st := []) dJ0_indexOf_7cf53_17 meJ1_indexOf_4cfef mlJ0_637 smJ1_indexOf_4cfef rfl (by omega) (Nat.le_of_ble_eq_true rfl) rfl rfl h (fun v hv => lift_J1_indexOf_4cfef hv) (fun w4 h => ?_)
      refine V.goto (q := 36) dJ0_indexOf_7cf53_20 (by decide) ?_
      exact V.iret dJ0_indexOf_7cf53_36 rfl h
  exact hh
def L_J0_indexOf_0f7a4 (G : Gt) (v0 : Option Nat) (v1 : Int32) (M : Mem) : Option (Int32 × Mem) :=
  (ckX G v0).bind fun _ => (L_J0_indexOf_7cf53 G v0 v1 (0 : Int32) M).bind fun w1 =>
  some (w1.1, w1.2)
set_option maxRecDepth 20000 in
set_option maxHeartbeats 4000000 in
theorem lift_J0_indexOf_0f7a4 {G : Gt} {M M9 : Mem} {x9 : Int32} {v0 : Option Nat} {v1 : Int32} (h : L_J0_indexOf_0f7a4 G v0 v1 M = some (x9, M9)) : Mt G mJ0_indexOf_0f7a4 3 [vX v0, vI v1] M (some (vI x9)) M9 := by
  unfold L_J0_indexOf_0f7a4 at h
  refine Mt.of (by decide +kernel) (Nat.le_of_ble_eq_true rfl) ?_
  have hh : V G mJ0_indexOf_0f7a4 3 M (some (vI x9)) M9 M 0 [(0, vX v0), (1, vI v1)] [] := by
    refine V.xload_n (n := 0) dJ0_indexOf_0f7a4_0 rfl rfl ?_
    refine V.iload_n (n := 1) dJ0_indexOf_0f7a4_1 rfl rfl ?_
    refine V.iconst (x := 0) dJ0_indexOf_0f7a4_2 (by decide) rfl ?_
    refine V.callXi (d' := 2) (as := [vI v1, vI (0 : Int32)]) (st := []) dJ0_indexOf_0f7a4_3 meJ0_indexOf_7cf53 rfl mlJ0_633 imJ0_indexOf_7cf53 seJ0_indexOf_7cf53 rfl (by omega) (Nat.le_of_ble_eq_true rfl) rfl rfl h (fun v hv => lift_J0_indexOf_7cf53 hv) (fun w1 h => ?_)
    exact V.iret dJ0_indexOf_0f7a4_6 rfl h
  exact hh
