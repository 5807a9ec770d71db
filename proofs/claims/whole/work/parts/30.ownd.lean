def J_X4_readStep_31 (rF : Option Nat → Int32 → Mem → Option (Unit × Mem)) (v0 : Option Nat) (M : Mem) : Option (Unit × Mem) :=
  (ck M 4 v0).bind fun _ => (L_X4_reject v0 M).bind fun w1 =>
  some ((), w1.2)
set_option maxRecDepth 20000 in
set_option maxHeartbeats 4000000 in
theorem lab_X4_readStep_31 {G : Gt} {M0 M9 : Mem} {x9 : Unit} {dr : Nat} {rF : Option Nat → Int32 → Mem → Option (Unit × Mem)} (hrF : ∀ (a0 : Option Nat) (a1 : Int32) (Ma : Mem) (v : Unit × Mem), rF a0 a1 Ma = some v → Mt G mX4_readStep dr [vR a0, vI a1] Ma none v.2) {v0 : Option Nat} {M : Mem} (h : J_X4_readStep_31 rF v0 M = some (x9, M9)) : V G mX4_readStep (dr + 86) M0 none M9 M 31 [(0, vR v0)] [] := by
  unfold J_X4_readStep_31 at h
  refine V.aload_n (n := 0) dX4_readStep_31 rfl rfl ?_
  refine V.callVv (d' := 0) (as := []) (st := []) dX4_readStep_32 meX4_reject mlX4_93 imX4_reject seX4_reject clsX4 rfl (by omega) (Nat.le_of_ble_eq_true rfl) rfl rfl h (fun v hv => lift_X4_reject hv) (fun w1 h => ?_)
  exact V.vret dX4_readStep_35 rfl h
def J_X4_readStep_70 (rF : Option Nat → Int32 → Mem → Option (Unit × Mem)) (v0 : Option Nat) (v1 : Int32) (v2 : Int32) (M : Mem) : Option (Unit × Mem) :=
  if ¬ v2 = (303 : Int32) then
  (if ¬ v2 = (304 : Int32) then
  ((ck M 4 v0).bind fun _ => (L_X4_readTry rF v0 (v1 + (1 : Int32)) M).bind fun w2 =>
  some ((), w2.2))
  else
  ((ck M 4 v0).bind fun _ => (L_X4_readCheck v0 M).bind fun w3 =>
  some ((), w3.2)))
  else
  ((ck M 4 v0).bind fun _ => (L_X4_readTable v0 M).bind fun w4 =>
  some ((), w4.2))
set_option maxRecDepth 20000 in
set_option maxHeartbeats 4000000 in
theorem lab_X4_readStep_70 {G : Gt} {M0 M9 : Mem} {x9 : Unit} {dr : Nat} {rF : Option Nat → Int32 → Mem → Option (Unit × Mem)} (hrF : ∀ (a0 : Option Nat) (a1 : Int32) (Ma : Mem) (v : Unit × Mem), rF a0 a1 Ma = some v → Mt G mX4_readStep dr [vR a0, vI a1] Ma none v.2) {v0 : Option Nat} {v1 : Int32} {v2 : Int32} {M : Mem} (h : J_X4_readStep_70 rF v0 v1 v2 M = some (x9, M9)) : V G mX4_readStep (dr + 86) M0 none M9 M 70 [(0, vR v0), (1, vI v1), (2, vI v2)] [] := by
  unfold J_X4_readStep_70 at h
  refine V.iload_n (n := 2) dX4_readStep_70 rfl rfl ?_
  refine V.sipush (x := 303) dX4_readStep_71 (by decide) rfl ?_
  refine V.icmp_ne (q := 84) dX4_readStep_74 (by decide) rfl h (fun h => ?_) (fun h => ?_)
  · refine V.iload_n (n := 2) dX4_readStep_84 rfl rfl ?_
    refine V.sipush (x := 304) dX4_readStep_85 (by decide) rfl ?_
    refine V.icmp_ne (q := 98) dX4_readStep_88 (by decide) rfl h (fun h => ?_) (fun h => ?_)
    · refine V.aload_n (n := 0) dX4_readStep_98 rfl rfl ?_
      refine V.iload_n (n := 1) dX4_readStep_99 rfl rfl ?_
      refine V.iconst (x := 1) dX4_readStep_100 (by decide) rfl ?_
      refine V.iadd dX4_readStep_101 rfl ?_
      refine V.callVv (d' := dr + 2) (as := [vI (v1 + (1 : Int32))]) (st := []) dX4_readStep_102 meX4_readTry mlX4_178 imX4_readTry seX4_readTry clsX4 rfl (by omega) (Nat.le_of_ble_eq_true rfl) rfl rfl h (fun v hv => lift_X4_readTry hrF hv) (fun w2 h => ?_)
      exact V.vret dX4_readStep_105 rfl h
    · refine V.aload_n (n := 0) dX4_readStep_91 rfl rfl ?_
      refine V.callVv (d' := 85) (as := []) (st := []) dX4_readStep_92 meX4_readCheck mlX4_175 imX4_readCheck seX4_readCheck clsX4 rfl (by omega) (Nat.le_of_ble_eq_true rfl) rfl rfl h (fun v hv => lift_X4_readCheck hv) (fun w3 h => ?_)
      refine V.goto (q := 105) dX4_readStep_95 (by decide) ?_
      exact V.vret dX4_readStep_105 rfl h
  · refine V.aload_n (n := 0) dX4_readStep_77 rfl rfl ?_
    refine V.callVv (d' := 85) (as := []) (st := []) dX4_readStep_78 meX4_readTable mlX4_172 imX4_readTable seX4_readTable clsX4 rfl (by omega) (Nat.le_of_ble_eq_true rfl) rfl rfl h (fun v hv => lift_X4_readTable hv) (fun w4 h => ?_)
    refine V.goto (q := 105) dX4_readStep_81 (by decide) ?_
    exact V.vret dX4_readStep_105 rfl h
def J_X4_readStep_36 (rF : Option Nat → Int32 → Mem → Option (Unit × Mem)) (v0 : Option Nat) (v1 : Int32) (v2 : Int32) (M : Mem) : Option (Unit × Mem) :=
  (fR M 4 1 v0).bind fun x5 =>
  (fI M 0 2 x5).bind fun x6 =>
  (pI M 0 2 x5 (x6 + (1 : Int32))).bind fun M7 =>
  (fR M7 4 1 v0).bind fun x8 =>
  (fI M7 0 2 x8).bind fun x9 =>
  if x9 ≤ (40 : Int32) then
  (J_X4_readStep_70 rF v0 v1 v2 M7)
  else
  ((ck M7 4 v0).bind fun _ => (L_X4_place v0 M7).bind fun w10 =>
  (ck w10.2 4 v0).bind fun _ => (L_X4_note v0 (5 : Int32) w10.1 w10.2).bind fun w11 =>
  J_X4_readStep_70 rF v0 v1 v2 w11.2)
set_option maxRecDepth 20000 in
set_option maxHeartbeats 4000000 in
theorem lab_X4_readStep_36 {G : Gt} {M0 M9 : Mem} {x9 : Unit} {dr : Nat} {rF : Option Nat → Int32 → Mem → Option (Unit × Mem)} (hrF : ∀ (a0 : Option Nat) (a1 : Int32) (Ma : Mem) (v : Unit × Mem), rF a0 a1 Ma = some v → Mt G mX4_readStep dr [vR a0, vI a1] Ma none v.2) {v0 : Option Nat} {v1 : Int32} {v2 : Int32} {M : Mem} (h : J_X4_readStep_36 rF v0 v1 v2 M = some (x9, M9)) : V G mX4_readStep (dr + 86) M0 none M9 M 36 [(0, vR v0), (1, vI v1), (2, vI v2)] [] := by
  unfold J_X4_readStep_36 at h
  refine V.aload_n (n := 0) dX4_readStep_36 rfl rfl ?_
  refine V.getR dX4_readStep_37 lkX4_18 rfl rfl h (fun x5 h => ?_)
  refine V.dup dX4_readStep_40 rfl rfl ?_
  refine V.getI dX4_readStep_41 lkX4_169 rfl rfl h (fun x6 h => ?_)
  refine V.iconst (x := 1) dX4_readStep_44 (by decide) rfl ?_
  refine V.iadd dX4_readStep_45 rfl ?_
  refine V.putI dX4_readStep_46 lkX4_169 (Or.inl rfl) rfl rfl h (fun M7 h => ?_)
  refine V.aload_n (n := 0) dX4_readStep_49 rfl rfl ?_
  refine V.getR dX4_readStep_50 lkX4_18 rfl rfl h (fun x8 h => ?_)
  refine V.getI dX4_readStep_53 lkX4_169 rfl rfl h (fun x9 h => ?_)
  refine V.bipush (x := 40) dX4_readStep_56 (by decide) rfl ?_
  refine V.icmp_le (q := 70) dX4_readStep_58 (by decide) rfl h (fun h => ?_) (fun h => ?_)
  · exact (lab_X4_readStep_70 hrF h)
  · refine V.aload_n (n := 0) dX4_readStep_61 rfl rfl ?_
    refine V.iconst (x := 5) dX4_readStep_62 (by decide) rfl ?_
    refine V.aload_n (n := 0) dX4_readStep_63 rfl rfl ?_
    refine V.callVi (d' := 0) (as := []) (st := [vI (5 : Int32), vR v0]) dX4_readStep_64 meX4_place mlX4_96 imX4_place seX4_place clsX4 rfl (by omega) (Nat.le_of_ble_eq_true rfl) rfl rfl h (fun v hv => lift_X4_place hv) (fun w10 h => ?_)
    refine V.callVv (d' := 0) (as := [vI (5 : Int32), vI w10.1]) (st := []) dX4_readStep_67 meX4_note mlX4_118 imX4_note seX4_note clsX4 rfl (by omega) (Nat.le_of_ble_eq_true rfl) rfl rfl h (fun v hv => lift_X4_note hv) (fun w11 h => ?_)
    exact (lab_X4_readStep_70 hrF h)
def B_X4_readStep (rF : Option Nat → Int32 → Mem → Option (Unit × Mem)) (v0 : Option Nat) (v1 : Int32) (M : Mem) : Option (Unit × Mem) :=
  (ck M 4 v0).bind fun _ => (L_X4_kind v0 M).bind fun w12 =>
  if w12.1 = (303 : Int32) then
  (J_X4_readStep_36 rF v0 v1 w12.1 w12.2)
  else
  (if w12.1 = (304 : Int32) then
  (J_X4_readStep_36 rF v0 v1 w12.1 w12.2)
  else
  (if ¬ w12.1 = (305 : Int32) then
  (J_X4_readStep_31 rF v0 w12.2)
  else
  (if v1 < (3 : Int32) then
  (J_X4_readStep_36 rF v0 v1 w12.1 w12.2)
  else
  (J_X4_readStep_31 rF v0 w12.2))))
set_option maxRecDepth 20000 in
set_option maxHeartbeats 4000000 in
theorem liftB_X4_readStep {G : Gt} {M M9 : Mem} {x9 : Unit} {v0 : Option Nat} {v1 : Int32} {dr : Nat} {rF : Option Nat → Int32 → Mem → Option (Unit × Mem)} (hrF : ∀ (a0 : Option Nat) (a1 : Int32) (Ma : Mem) (v : Unit × Mem), rF a0 a1 Ma = some v → Mt G mX4_readStep dr [vR a0, vI a1] Ma none v.2) (h : B_X4_readStep rF v0 v1 M = some (x9, M9)) : Mt G mX4_readStep (dr + 86) [vR v0, vI v1] M none M9 := by
  unfold B_X4_readStep at h
  refine Mt.of (by decide +kernel) (Nat.le_of_ble_eq_true rfl) ?_
  have hh : V G mX4_readStep (dr + 86) M none M9 M 0 [(0, vR v0), (1, vI v1)] [] := by
    refine V.aload_n (n := 0) dX4_readStep_0 rfl rfl ?_
    refine V.callVi (d' := 0) (as := []) (st := []) dX4_readStep_1 meX4_kind mlX4_53 imX4_kind seX4_kind clsX4 rfl (by omega) (Nat.le_of_ble_eq_true rfl) rfl rfl h (fun v hv => lift_X4_kind hv) (fun w12 h => ?_)
    refine V.istore_n dX4_readStep_4 rfl (by decide) rfl rfl ?_
    refine V.iload_n (n := 0) dX4_readStep_5 rfl rfl ?_
    refine V.sipush (x := 303) dX4_readStep_6 (by decide) rfl ?_
    refine V.icmp_eq (q := 36) dX4_readStep_9 (by decide) rfl h (fun h => ?_) (fun h => ?_)
    · exact V.sub [1, 2, 0] rfl (lab_X4_readStep_36 hrF h)
    · refine V.iload_n (n := 0) dX4_readStep_12 rfl rfl ?_
      refine V.sipush (x := 304) dX4_readStep_13 (by decide) rfl ?_
      refine V.icmp_eq (q := 36) dX4_readStep_16 (by decide) rfl h (fun h => ?_) (fun h => ?_)
      · exact V.sub [1, 2, 0] rfl (lab_X4_readStep_36 hrF h)
      · refine V.iload_n (n := 0) dX4_readStep_19 rfl rfl ?_
        refine V.sipush (x := 305) dX4_readStep_20 (by decide) rfl ?_
        refine V.icmp_ne (q := 31) dX4_readStep_23 (by decide) rfl h (fun h => ?_) (fun h => ?_)
        · exact V.sub [1] rfl (lab_X4_readStep_31 hrF h)
        · refine V.iload_n (n := 2) dX4_readStep_26 rfl rfl ?_
          refine V.iconst (x := 3) dX4_readStep_27 (by decide) rfl ?_
          refine V.icmp_lt (q := 36) dX4_readStep_28 (by decide) rfl h (fun h => ?_) (fun h => ?_)
          · exact V.sub [1, 2, 0] rfl (lab_X4_readStep_36 hrF h)
          · exact V.sub [1] rfl (lab_X4_readStep_31 hrF h)
  exact hh
def L_X4_readStep : Nat → Option Nat → Int32 → Mem → Option (Unit × Mem)
  | 0 => fun _ _ _ => none
  | n + 1 => B_X4_readStep (L_X4_readStep n)
theorem lift_X4_readStep {G : Gt} : ∀ (n : Nat) {M M9 : Mem} {x9 : Unit} {v0 : Option Nat} {v1 : Int32} (h : L_X4_readStep n v0 v1 M = some (x9, M9)), Mt G mX4_readStep (86 * n) [vR v0, vI v1] M none M9
  | 0 => fun h => nomatch h
  | n + 1 => fun h => liftB_X4_readStep (dr := 86 * n) (rF := L_X4_readStep n) (fun _ _ _ _ hv => lift_X4_readStep n hv) h
def L_J7_copyOf_59c91 (v0 : Option Nat) (v1 : Int32) (M : Mem) : Option (Option Nat × Mem) :=
  (aN M v0).bind fun x1 =>
  if ¬ v1 = x1 then
  ((nA M 20 v1).bind fun M2 =>
  (aN M2 v0).bind fun x3 =>
  (cpyI M2 v0 (0 : Int32) (some (nc M)) (0 : Int32) (if v1 < x3 then v1 else x3)).bind fun M4 =>
  some (some (nc M), M4))
  else
  ((dupeI M v0).bind fun M5 =>
  some (some (nc M), M5))
set_option maxRecDepth 20000 in
set_option maxHeartbeats 4000000 in
theorem lift_J7_copyOf_59c91 {G : Gt} {M M9 : Mem} {x9 : Option Nat} {v0 : Option Nat} {v1 : Int32} (h : L_J7_copyOf_59c91 v0 v1 M = some (x9, M9)) : Mt G mJ7_copyOf_59c91 1 [vR v0, vI v1] M (some (vR x9)) M9 := by
  unfold L_J7_copyOf_59c91 at h
  refine Mt.of (by decide +kernel) (Nat.le_of_ble_eq_true rfl) ?_
  have hh : V G mJ7_copyOf_59c91 1 M (some (vR x9)) M9 M 0 [(0, vR v0), (1, vI v1)] [] := by
    refine V.iload_n (n := 1) dJ7_copyOf_59c91_0 rfl rfl ?_
    refine V.aload_n (n := 0) dJ7_copyOf_59c91_1 rfl rfl ?_
    refine V.alen dJ7_copyOf_59c91_2 rfl h (fun x1 h => ?_)
    refine V.icmp_ne (q := 14) dJ7_copyOf_59c91_3 (by decide) rfl h (fun h => ?_) (fun h => ?_)
    · refine V.iload_n (n := 1) dJ7_copyOf_59c91_14 rfl rfl ?_
      refine V.newa (k := 20) dJ7_copyOf_59c91_15 rfl ac20 (by decide) (by decide) rfl h (fun M2 h => ?_)
      refine V.astore_n dJ7_copyOf_59c91_17 rfl (by decide) rfl rfl ?_
      refine V.aload_n (n := 1) dJ7_copyOf_59c91_18 rfl rfl ?_
      refine V.iconst (x := 0) dJ7_copyOf_59c91_19 (by decide) rfl ?_
      refine V.aload_n (n := 0) dJ7_copyOf_59c91_20 rfl rfl ?_
      refine V.iconst (x := 0) dJ7_copyOf_59c91_21 (by decide) rfl ?_
      refine V.aload_n (n := 1) dJ7_copyOf_59c91_22 rfl rfl ?_
      refine V.alen dJ7_copyOf_59c91_23 rfl h (fun x3 h => ?_)
      refine V.iload_n (n := 2) dJ7_copyOf_59c91_24 rfl rfl ?_
      refine V.imin dJ7_copyOf_59c91_25 mmJ7_304 ms_min ms_init mc_min (by omega) (Nat.le_of_ble_eq_true rfl) rfl ?_
      refine V.acpI dJ7_copyOf_59c91_28 acJ7_150 ac_nat ac_st ac_init (by omega) (Nat.le_of_ble_eq_true rfl) rfl h (fun M4 h => ?_)
      refine V.aload_n (n := 0) dJ7_copyOf_59c91_31 rfl rfl ?_
      exact V.aret dJ7_copyOf_59c91_32 rfl (Or.inr ⟨_, rfl⟩) h
    · refine V.aload_n (n := 0) dJ7_copyOf_59c91_6 rfl rfl ?_
      refine V.clnI dJ7_copyOf_59c91_7 dJ7_copyOf_59c91_10 cnJ7_316 cn_sameI cn_nat cn_inst cn_selI ccJ7_317 (by omega) (Nat.le_of_ble_eq_true rfl) rfl h (fun M5 h => ?_)
      exact V.aret dJ7_copyOf_59c91_13 rfl (Or.inr ⟨_, rfl⟩) h
  exact hh
def L_J7_copyOf_c38d5 (v0 : Option Nat) (v1 : Int32) (M : Mem) : Option (Option Nat × Mem) :=
  (aN M v0).bind fun x1 =>
  if ¬ v1 = x1 then
  ((nA M 21 v1).bind fun M2 =>
  (aN M2 v0).bind fun x3 =>
  (cpyL M2 v0 (0 : Int32) (some (nc M)) (0 : Int32) (if v1 < x3 then v1 else x3)).bind fun M4 =>
  some (some (nc M), M4))
  else
  ((dupeL M v0).bind fun M5 =>
  some (some (nc M), M5))
set_option maxRecDepth 20000 in
set_option maxHeartbeats 4000000 in
theorem lift_J7_copyOf_c38d5 {G : Gt} {M M9 : Mem} {x9 : Option Nat} {v0 : Option Nat} {v1 : Int32} (h : L_J7_copyOf_c38d5 v0 v1 M = some (x9, M9)) : Mt G mJ7_copyOf_c38d5 1 [vR v0, vI v1] M (some (vR x9)) M9 := by
  unfold L_J7_copyOf_c38d5 at h
  refine Mt.of (by decide +kernel) (Nat.le_of_ble_eq_true rfl) ?_
  have hh : V G mJ7_copyOf_c38d5 1 M (some (vR x9)) M9 M 0 [(0, vR v0), (1, vI v1)] [] := by
    refine V.iload_n (n := 1) dJ7_copyOf_c38d5_0 rfl rfl ?_
    refine V.aload_n (n := 0) dJ7_copyOf_c38d5_1 rfl rfl ?_
    refine V.alen dJ7_copyOf_c38d5_2 rfl h (fun x1 h => ?_)
    refine V.icmp_ne (q := 14) dJ7_copyOf_c38d5_3 (by decide) rfl h (fun h => ?_) (fun h => ?_)
    · refine V.iload_n (n := 1) dJ7_copyOf_c38d5_14 rfl rfl ?_
      refine V.newa (k := 21) dJ7_copyOf_c38d5_15 rfl ac21 (by decide) (by decide) rfl h (fun M2 h => ?_)
      refine V.astore_n dJ7_copyOf_c38d5_17 rfl (by decide) rfl rfl ?_
      refine V.aload_n (n := 1) dJ7_copyOf_c38d5_18 rfl rfl ?_
      refine V.iconst (x := 0) dJ7_copyOf_c38d5_19 (by decide) rfl ?_
      refine V.aload_n (n := 0) dJ7_copyOf_c38d5_20 rfl rfl ?_
      refine V.iconst (x := 0) dJ7_copyOf_c38d5_21 (by decide) rfl ?_
      refine V.aload_n (n := 1) dJ7_copyOf_c38d5_22 rfl rfl ?_
      refine V.alen dJ7_copyOf_c38d5_23 rfl h (fun x3 h => ?_)
      refine V.iload_n (n := 2) dJ7_copyOf_c38d5_24 rfl rfl ?_
      refine V.imin dJ7_copyOf_c38d5_25 mmJ7_304 ms_min ms_init mc_min (by omega) (Nat.le_of_ble_eq_true rfl) rfl ?_
      refine V.acpL dJ7_copyOf_c38d5_28 acJ7_150 ac_nat ac_st ac_init (by omega) (Nat.le_of_ble_eq_true rfl) rfl h (fun M4 h => ?_)
      refine V.aload_n (n := 0) dJ7_copyOf_c38d5_31 rfl rfl ?_
      exact V.aret dJ7_copyOf_c38d5_32 rfl (Or.inr ⟨_, rfl⟩) h
    · refine V.aload_n (n := 0) dJ7_copyOf_c38d5_6 rfl rfl ?_
      refine V.clnL dJ7_copyOf_c38d5_7 dJ7_copyOf_c38d5_10 cnJ7_319 cn_sameL cn_nat cn_inst cn_selL ccJ7_320 (by omega) (Nat.le_of_ble_eq_true rfl) rfl h (fun M5 h => ?_)
      exact V.aret dJ7_copyOf_c38d5_13 rfl (Or.inr ⟨_, rfl⟩) h
  exact hh
def L_X6_init (v0 : Option Nat) (v1 : Option Nat) (M : Mem) : Option (Unit × Mem) :=
  if v0 = none then none else
  (fI M 0 0 v1).bind fun x1 =>
  (pI M 6 0 v0 x1).bind fun M2 =>
  (fI M2 0 1 v1).bind fun x3 =>
  (pI M2 6 1 v0 x3).bind fun M4 =>
  (fI M4 0 2 v1).bind fun x5 =>
  (pI M4 6 2 v0 x5).bind fun M6 =>
  (fI M6 0 3 v1).bind fun x7 =>
  (pI M6 6 3 v0 x7).bind fun M8 =>
  (fR M8 0 4 v1).bind fun x9 =>
  (fI M8 0 6 v1).bind fun x10 =>
  (L_J7_copyOf_59c91 x9 x10 M8).bind fun w11 =>
  (pR w11.2 6 4 v0 w11.1).bind fun M12 =>
  (fR M12 0 5 v1).bind fun x13 =>
  (fI M12 0 6 v1).bind fun x14 =>
  (L_J7_copyOf_c38d5 x13 x14 M12).bind fun w15 =>
  (pR w15.2 6 5 v0 w15.1).bind fun M16 =>
  (fR M16 0 7 v1).bind fun x17 =>
  (fI M16 0 9 v1).bind fun x18 =>
  (L_J7_copyOf_c38d5 x17 x18 M16).bind fun w19 =>
  (pR w19.2 6 6 v0 w19.1).bind fun M20 =>
  (fR M20 0 8 v1).bind fun x21 =>
  (fI M20 0 9 v1).bind fun x22 =>
  (L_J7_copyOf_59c91 x21 x22 M20).bind fun w23 =>
  (pR w23.2 6 7 v0 w23.1).bind fun M24 =>
  (fR M24 0 10 v1).bind fun x25 =>
  (fI M24 0 12 v1).bind fun x26 =>
  (L_J7_copyOf_c38d5 x25 x26 M24).bind fun w27 =>
  (pR w27.2 6 8 v0 w27.1).bind fun M28 =>
  (fR M28 0 11 v1).bind fun x29 =>
  (fI M28 0 12 v1).bind fun x30 =>
  (L_J7_copyOf_59c91 x29 x30 M28).bind fun w31 =>
  (pR w31.2 6 9 v0 w31.1).bind fun M32 =>
  (fR M32 0 13 v1).bind fun x33 =>
  (fI M32 0 16 v1).bind fun x34 =>
  (L_J7_copyOf_59c91 x33 x34 M32).bind fun w35 =>
  (pR w35.2 6 10 v0 w35.1).bind fun M36 =>
  (fR M36 0 14 v1).bind fun x37 =>
  (fI M36 0 16 v1).bind fun x38 =>
  (L_J7_copyOf_59c91 x37 x38 M36).bind fun w39 =>
  (pR w39.2 6 11 v0 w39.1).bind fun M40 =>
  (fR M40 0 15 v1).bind fun x41 =>
  (fI M40 0 16 v1).bind fun x42 =>
  (L_J7_copyOf_59c91 x41 x42 M40).bind fun w43 =>
  (pR w43.2 6 12 v0 w43.1).bind fun M44 =>
  some ((), M44)
set_option maxRecDepth 20000 in
set_option maxHeartbeats 4000000 in
theorem lift_X6_init {G : Gt} {M M9 : Mem} {x9 : Unit} {v0 : Option Nat} {v1 : Option Nat} (h : L_X6_init v0 v1 M = some (x9, M9)) : Mt G mX6_init 2 [vR v0, vR v1] M none M9 := by
  unfold L_X6_init at h
  refine Mt.of (by decide +kernel) (Nat.le_of_ble_eq_true rfl) ?_
  have hh : V G mX6_init 2 M none M9 M 0 [(0, vR v0), (1, vR v1)] [] := by
    refine V.aload_n (n := 0) dX6_init_0 rfl rfl ?_
    refine V.objInitR dX6_init_1 oiX6_3 oim oic (by omega) rfl h (fun h => ?_)
    refine V.aload_n (n := 0) dX6_init_4 rfl rfl ?_
    refine V.aload_n (n := 1) dX6_init_5 rfl rfl ?_
    refine V.getI dX6_init_6 lkX6_9 rfl rfl h (fun x1 h => ?_)
    refine V.putI dX6_init_9 lkX6_15 (Or.inr ⟨rfl, rfl⟩) rfl rfl h (fun M2 h => ?_)
    refine V.aload_n (n := 0) dX6_init_12 rfl rfl ?_
    refine V.aload_n (n := 1) dX6_init_13 rfl rfl ?_
    refine V.getI dX6_init_14 lkX6_18 rfl rfl h (fun x3 h => ?_)
    refine V.putI dX6_init_17 lkX6_21 (Or.inr ⟨rfl, rfl⟩) rfl rfl h (fun M4 h => ?_)
    refine V.aload_n (n := 0) dX6_init_20 rfl rfl ?_
    refine V.aload_n (n := 1) dX6_init_21 rfl rfl ?_
    refine V.getI dX6_init_22 lkX6_22 rfl rfl h (fun x5 h => ?_)
    refine V.putI dX6_init_25 lkX6_25 (Or.inr ⟨rfl, rfl⟩) rfl rfl h (fun M6 h => ?_)
    refine V.aload_n (n := 0) dX6_init_28 rfl rfl ?_
    refine V.aload_n (n := 1) dX6_init_29 rfl rfl ?_
    refine V.getI dX6_init_30 lkX6_26 rfl rfl h (fun x7 h => ?_)
    refine V.putI dX6_init_33 lkX6_29 (Or.inr ⟨rfl, rfl⟩) rfl rfl h (fun M8 h => ?_)
    refine V.aload_n (n := 0) dX6_init_36 rfl rfl ?_
    refine V.aload_n (n := 1) dX6_init_37 rfl rfl ?_
    refine V.getR dX6_init_38 lkX6_30 rfl rfl h (fun x9 h => ?_)
    refine V.aload_n (n := 1) dX6_init_41 rfl rfl ?_
    refine V.getI dX6_init_42 lkX6_34 rfl rfl h (fun x10 h => ?_)
    refine V.callSr (d' := 1) (as := [vR x9, vI x10]) (st := [vR v0]) dX6_init_45 meJ7_copyOf_59c91 mlX6_37 smJ7_copyOf_59c91 rfl (by omega) (Nat.le_of_ble_eq_true rfl) rfl rfl h (fun v hv => lift_J7_copyOf_59c91 hv) (fun w11 h => ?_)
    refine V.putR dX6_init_48 lkX6_43 (Or.inr ⟨rfl, rfl⟩) rfl rfl h (fun M12 h => ?_)
    refine V.aload_n (n := 0) dX6_init_51 rfl rfl ?_
    refine V.aload_n (n := 1) dX6_init_52 rfl rfl ?_
    refine V.getR dX6_init_53 lkX6_44 rfl rfl h (fun x13 h => ?_)
    refine V.aload_n (n := 1) dX6_init_56 rfl rfl ?_
    refine V.getI dX6_init_57 lkX6_34 rfl rfl h (fun x14 h => ?_)
    refine V.callSr (d' := 1) (as := [vR x13, vI x14]) (st := [vR v0]) dX6_init_60 meJ7_copyOf_c38d5 mlX6_48 smJ7_copyOf_c38d5 rfl (by omega) (Nat.le_of_ble_eq_true rfl) rfl rfl h (fun v hv => lift_J7_copyOf_c38d5 hv) (fun w15 h => ?_)
    refine V.putR dX6_init_63 lkX6_51 (Or.inr ⟨rfl, rfl⟩) rfl rfl h (fun M16 h => ?_)
    refine V.aload_n (n := 0) dX6_init_66 rfl rfl ?_
    refine V.aload_n (n := 1) dX6_init_67 rfl rfl ?_
    refine V.getR dX6_init_68 lkX6_52 rfl rfl h (fun x17 h => ?_)
    refine V.aload_n (n := 1) dX6_init_71 rfl rfl ?_
    refine V.getI dX6_init_72 lkX6_55 rfl rfl h (fun x18 h => ?_)
    refine V.callSr (d' := 1) (as := [vR x17, vI x18]) (st := [vR v0]) dX6_init_75 meJ7_copyOf_c38d5 mlX6_48 smJ7_copyOf_c38d5 rfl (by omega) (Nat.le_of_ble_eq_true rfl) rfl rfl h (fun v hv => lift_J7_copyOf_c38d5 hv) (fun w19 h => ?_)
    refine V.putR dX6_init_78 lkX6_58 (Or.inr ⟨rfl, rfl⟩) rfl rfl h (fun M20 h => ?_)
    refine V.aload_n (n := 0) dX6_init_81 rfl rfl ?_
    refine V.aload_n (n := 1) dX6_init_82 rfl rfl ?_
    refine V.getR dX6_init_83 lkX6_59 rfl rfl h (fun x21 h => ?_)
    refine V.aload_n (n := 1) dX6_init_86 rfl rfl ?_
    refine V.getI dX6_init_87 lkX6_55 rfl rfl h (fun x22 h => ?_)
    refine V.callSr (d' := 1) (as := [vR x21, vI x22]) (st := [vR v0]) dX6_init_90 meJ7_copyOf_59c91 mlX6_37 smJ7_copyOf_59c91 rfl (by omega) (Nat.le_of_ble_eq_true rfl) rfl rfl h (fun v hv => lift_J7_copyOf_59c91 hv) (fun w23 h => ?_)
    refine V.putR dX6_init_93 lkX6_62 (Or.inr ⟨rfl, rfl⟩) rfl rfl h (fun M24 h => ?_)
    refine V.aload_n (n := 0) dX6_init_96 rfl rfl ?_
    refine V.aload_n (n := 1) dX6_init_97 rfl rfl ?_
    refine V.getR dX6_init_98 lkX6_63 rfl rfl h (fun x25 h => ?_)
    refine V.aload_n (n := 1) dX6_init_101 rfl rfl ?_
    refine V.getI dX6_init_102 lkX6_66 rfl rfl h (fun x26 h => ?_)
    refine V.callSr (d' := 1) (as := [vR x25, vI x26]) (st := [vR v0]) dX6_init_105 meJ7_copyOf_c38d5 mlX6_48 smJ7_copyOf_c38d5 rfl (by omega) (Nat.le_of_ble_eq_true rfl) rfl rfl h (fun v hv => lift_J7_copyOf_c38d5 hv) (fun w27 h => ?_)
    refine V.putR dX6_init_108 lkX6_69 (Or.inr ⟨rfl, rfl⟩) rfl rfl h (fun M28 h => ?_)
    refine V.aload_n (n := 0) dX6_init_111 rfl rfl ?_
    refine V.aload_n (n := 1) dX6_init_112 rfl rfl ?_
    refine V.getR dX6_init_113 lkX6_70 rfl rfl h (fun x29 h => ?_)
    refine V.aload_n (n := 1) dX6_init_116 rfl rfl ?_
    refine V.getI dX6_init_117 lkX6_66 rfl rfl h (fun x30 h => ?_)
    refine V.callSr (d' := 1) (as := [vR x29, vI x30]) (st := [vR v0]) dX6_init_120 meJ7_copyOf_59c91 mlX6_37 smJ7_copyOf_59c91 rfl (by omega) (Nat.le_of_ble_eq_true rfl) rfl rfl h (fun v hv => lift_J7_copyOf_59c91 hv) (fun w31 h => ?_)
    refine V.putR dX6_init_123 lkX6_73 (Or.inr ⟨rfl, rfl⟩) rfl rfl h (fun M32 h => ?_)
    refine V.aload_n (n := 0) dX6_init_126 rfl rfl ?_
    refine V.aload_n (n := 1) dX6_init_127 rfl rfl ?_
    refine V.getR dX6_init_128 lkX6_74 rfl rfl h (fun x33 h => ?_)
    refine V.aload_n (n := 1) dX6_init_131 rfl rfl ?_
    refine V.getI dX6_init_132 lkX6_77 rfl rfl h (fun x34 h => ?_)
    refine V.callSr (d' := 1) (as := [vR x33, vI x34]) (st := [vR v0]) dX6_init_135 meJ7_copyOf_59c91 mlX6_37 smJ7_copyOf_59c91 rfl (by omega) (Nat.le_of_ble_eq_true rfl) rfl rfl h (fun v hv => lift_J7_copyOf_59c91 hv) (fun w35 h => ?_)
    refine V.putR dX6_init_138 lkX6_80 (Or.inr ⟨rfl, rfl⟩) rfl rfl h (fun M36 h => ?_)
    refine V.aload_n (n := 0) dX6_init_141 rfl rfl ?_
    refine V.aload_n (n := 1) dX6_init_142 rfl rfl ?_
    refine V.getR dX6_init_143 lkX6_81 rfl rfl h (fun x37 h => ?_)
    refine V.aload_n (n := 1) dX6_init_146 rfl rfl ?_
    refine V.getI dX6_init_147 lkX6_77 rfl rfl h (fun x38 h => ?_)
    refine V.callSr (d' := 1) (as := [vR x37, vI x38]) (st := [vR v0]) dX6_init_150 meJ7_copyOf_59c91 mlX6_37 smJ7_copyOf_59c91 rfl (by omega) (Nat.le_of_ble_eq_true rfl) rfl rfl h (fun v hv => lift_J7_copyOf_59c91 hv) (fun w39 h => ?_)
    refine V.putR dX6_init_153 lkX6_84 (Or.inr ⟨rfl, rfl⟩) rfl rfl h (fun M40 h => ?_)
    refine V.aload_n (n := 0) dX6_init_156 rfl rfl ?_
    refine V.aload_n (n := 1) dX6_init_157 rfl rfl ?_
    refine V.getR dX6_init_158 lkX6_85 rfl rfl h (fun x41 h => ?_)
    refine V.aload_n (n := 1) dX6_init_161 rfl rfl ?_
    refine V.getI dX6_init_162 lkX6_77 rfl rfl h (fun x42 h => ?_)
    refine V.callSr (d' := 1) (as := [vR x41, vI x42]) (st := [vR v0]) dX6_init_165 meJ7_copyOf_59c91 mlX6_37 smJ7_copyOf_59c91 rfl (by omega) (Nat.le_of_ble_eq_true rfl) rfl rfl h (fun v hv => lift_J7_copyOf_59c91 hv) (fun w43 h => ?_)
    refine V.putR dX6_init_168 lkX6_88 (Or.inr ⟨rfl, rfl⟩) rfl rfl h (fun M44 h => ?_)
    exact V.vret dX6_init_171 rfl h
  exact hh
def J_X4_read_110 (k_50 : Option Nat → Int32 → Mem → Option (Option Nat × Mem)) (v0 : Option Nat) (v2 : Int32) (M : Mem) : Option (Option Nat × Mem) :=
  k_50 v0 (v2 + 1) M
set_option maxRecDepth 20000 in
set_option maxHeartbeats 4000000 in
theorem lab_X4_read_110 {G : Gt} {M0 M9 : Mem} {x9 : Option Nat} {k_50 : Option Nat → Int32 → Mem → Option (Option Nat × Mem)} (hk_50 : ∀ (v0 : Option Nat) (v2 : Int32) (Ma : Mem), k_50 v0 v2 Ma = some (x9, M9) → V G mX4_read 517 M0 (some (vR x9)) M9 Ma 50 [(0, vR v0), (2, vI v2)] []) {v0 : Option Nat} {v2 : Int32} {M : Mem} (h : J_X4_read_110 k_50 v0 v2 M = some (x9, M9)) : V G mX4_read 517 M0 (some (vR x9)) M9 M 110 [(0, vR v0), (2, vI v2)] [] := by
  unfold J_X4_read_110 at h
  refine V.iinc (n := 1) (x := v2 + 1) dX4_read_110 rfl (by rfl) (by decide) rfl rfl ?_
  refine V.goto (q := 50) dX4_read_113 (by decide) ?_
  exact V.sub [1, 0] rfl (hk_50 _ _ _ h)
def J_X4_read_116 (v0 : Option Nat) (M : Mem) : Option (Option Nat × Mem) :=
  (fR M 4 1 v0).bind fun x1 =>
  (ck M 0 x1).bind fun _ => (L_X0_emit x1 (21 : Int32) (0 : Int64) M).bind fun w2 =>
  (fI w2.2 4 6 v0).bind fun x3 =>
  if ¬ x3 = 0 then
  (some ((none : Option Nat), w2.2))
  else
  ((fR (nw w2.2 6 0 13) 4 1 v0).bind fun x4 =>
  (L_X6_init (some (nc w2.2)) x4 (nw w2.2 6 0 13)).bind fun w5 =>
  some (some (nc w2.2), w5.2))
set_option maxRecDepth 20000 in
set_option maxHeartbeats 4000000 in
theorem lab_X4_read_116 {G : Gt} {M0 M9 : Mem} {x9 : Option Nat} {v0 : Option Nat} {M : Mem} (h : J_X4_read_116 v0 M = some (x9, M9)) : V G mX4_read 517 M0 (some (vR x9)) M9 M 116 [(0, vR v0)] [] := by
  unfold J_X4_read_116 at h
  refine V.aload_n (n := 0) dX4_read_116 rfl rfl ?_
  refine V.getR dX4_read_117 lkX4_18 rfl rfl h (fun x1 h => ?_)
  refine V.bipush (x := 21) dX4_read_120 (by decide) rfl ?_
  refine V.lconst (x := 0) dX4_read_122 (by decide) rfl ?_
  refine V.callVi (d' := 0) (as := [vI (21 : Int32), vL (0 : Int64)]) (st := []) dX4_read_123 meX0_emit mlX4_67 imX0_emit seX0_emit clsX0 rfl (by omega) (Nat.le_of_ble_eq_true rfl) rfl rfl h (fun v hv => lift_X0_emit hv) (fun w2 h => ?_)
  refine V.pop dX4_read_126 rfl rfl ?_
  refine V.aload_n (n := 0) dX4_read_127 rfl rfl ?_
  refine V.getI dX4_read_128 lkX4_22 rfl rfl h (fun x3 h => ?_)
  refine V.if_ne (q := 148) dX4_read_131 (by decide) rfl h (fun h => ?_) (fun h => ?_)
  · refine V.null dX4_read_148 rfl ?_
    exact V.aret dX4_read_149 rfl (Or.inl ⟨_, rfl⟩) h
  · refine V.new dX4_read_134 clsX6 cdX4_71 inX6 iiX6 rfl ?_
    refine V.dup dX4_read_137 rfl rfl ?_
    refine V.aload_n (n := 0) dX4_read_138 rfl rfl ?_
    refine V.getR dX4_read_139 lkX4_18 rfl rfl h (fun x4 h => ?_)
    refine V.callI (d' := 2) (a := (nc w2.2)) (as := [vR x4]) (st := [vR (some (nc w2.2))]) dX4_read_142 meX6_init rfl rfl mlX4_73 imX6_init rfl (by omega) (Nat.le_of_ble_eq_true rfl) rfl rfl h (fun v hv => lift_X6_init hv) (fun w5 h => ?_)
    refine V.goto (q := 149) dX4_read_145 (by decide) ?_
    exact V.aret dX4_read_149 rfl (Or.inl ⟨_, rfl⟩) h
def J_X4_read_50 : Nat → Option Nat → Int32 → Mem → Option (Option Nat × Mem)
  | 0 => fun _ _ _ => none
  | n + 1 => fun v0 v2 M =>
  if (900 : Int32) < v2 then
  (J_X4_read_116 v0 M)
  else
  ((ck M 4 v0).bind fun _ => (L_X4_kind v0 M).bind fun w6 =>
  if w6.1 = 0 then
  (J_X4_read_116 v0 w6.2)
  else
  ((fI w6.2 4 5 v0).bind fun x7 =>
  if ¬ x7 = 0 then
  (J_X4_read_116 v0 w6.2)
  else
  ((ck w6.2 4 v0).bind fun _ => (L_X4_kind v0 w6.2).bind fun w8 =>
  if ¬ w8.1 = (301 : Int32) then
  ((ck w8.2 4 v0).bind fun _ => (L_X4_kind v0 w8.2).bind fun w9 =>
  if ¬ w9.1 = (302 : Int32) then
  ((ck w9.2 4 v0).bind fun _ => (L_X4_readStep 6 v0 (0 : Int32) w9.2).bind fun w10 =>
  J_X4_read_110 (J_X4_read_50 n) v0 v2 w10.2)
  else
  ((ck w9.2 4 v0).bind fun _ => (L_X4_readRule v0 w9.2).bind fun w11 =>
  J_X4_read_110 (J_X4_read_50 n) v0 v2 w11.2))
  else
  ((ck w8.2 4 v0).bind fun _ => (L_X4_readConst v0 w8.2).bind fun w12 =>
  J_X4_read_110 (J_X4_read_50 n) v0 v2 w12.2))))
set_option maxRecDepth 20000 in
set_option maxHeartbeats 4000000 in
theorem lab_X4_read_50 {G : Gt} {M0 M9 : Mem} {x9 : Option Nat} : ∀ (n : Nat) (v0 : Option Nat) (v2 : Int32) (M : Mem), J_X4_read_50 n v0 v2 M = some (x9, M9) → V G mX4_read 517 M0 (some (vR x9)) M9 M 50 [(0, vR v0), (2, vI v2)] [] := by
  intro n
  induction n with
  | zero => intro v0 v2 M h; exact nomatch h
  | succ n ih =>
    intro v0 v2 M h
    unfold J_X4_read_50 at h
    refine V.iload_n (n := 1) dX4_read_50 rfl rfl ?_
    refine V.sipush (x := 900) dX4_read_51 (by decide) rfl ?_
    refine V.icmp_gt (q := 116) dX4_read_54 (by decide) rfl h (fun h => ?_) (fun h => ?_)
    · exact V.sub [0] rfl (lab_X4_read_116 h)
    · refine V.aload_n (n := 0) dX4_read_57 rfl rfl ?_
      refine V.callVi (d' := 0) (as := []) (st := []) dX4_read_58 meX4_kind mlX4_53 imX4_kind seX4_kind clsX4 rfl (by omega) (Nat.le_of_ble_eq_true rfl) rfl rfl h (fun v hv => lift_X4_kind hv) (fun w6 h => ?_)
      refine V.if_eq (q := 116) dX4_read_61 (by decide) rfl h (fun h => ?_) (fun h => ?_)
      · exact V.sub [0] rfl (lab_X4_read_116 h)
      · refine V.aload_n (n := 0) dX4_read_64 rfl rfl ?_
        refine V.getI dX4_read_65 lkX4_46 rfl rfl h (fun x7 h => ?_)
        refine V.if_ne (q := 116) dX4_read_68 (by decide) rfl h (fun h => ?_) (fun h => ?_)
        · exact V.sub [0] rfl (lab_X4_read_116 h)
        · refine V.aload_n (n := 0) dX4_read_71 rfl rfl ?_
          refine V.callVi (d' := 0) (as := []) (st := []) dX4_read_72 meX4_kind mlX4_53 imX4_kind seX4_kind clsX4 rfl (by omega) (Nat.le_of_ble_eq_true rfl) rfl rfl h (fun v hv => lift_X4_kind hv) (fun w8 h => ?_)
          refine V.sipush (x := 301) dX4_read_75 (by decide) rfl ?_
          refine V.icmp_ne (q := 88) dX4_read_78 (by decide) rfl h (fun h => ?_) (fun h => ?_)
          · refine V.aload_n (n := 0) dX4_read_88 rfl rfl ?_
            refine V.callVi (d' := 0) (as := []) (st := []) dX4_read_89 meX4_kind mlX4_53 imX4_kind seX4_kind clsX4 rfl (by omega) (Nat.le_of_ble_eq_true rfl) rfl rfl h (fun v hv => lift_X4_kind hv) (fun w9 h => ?_)
            refine V.sipush (x := 302) dX4_read_92 (by decide) rfl ?_
            refine V.icmp_ne (q := 105) dX4_read_95 (by decide) rfl h (fun h => ?_) (fun h => ?_)
            · refine V.aload_n (n := 0) dX4_read_105 rfl rfl ?_
              refine V.iconst (x := 0) dX4_read_106 (by decide) rfl ?_
              refine V.callVv (d' := 86 * 6) (as := [vI (0 : Int32)]) (st := []) dX4_read_107 meX4_readStep mlX4_63 imX4_readStep seX4_readStep clsX4 rfl (by omega) (Nat.le_of_ble_eq_true rfl) rfl rfl h (fun v hv => lift_X4_readStep 6 hv) (fun w10 h => ?_)
              exact (lab_X4_read_110 ih h)
            · refine V.aload_n (n := 0) dX4_read_98 rfl rfl ?_
              refine V.callVv (d' := 85) (as := []) (st := []) dX4_read_99 meX4_readRule mlX4_60 imX4_readRule seX4_readRule clsX4 rfl (by omega) (Nat.le_of_ble_eq_true rfl) rfl rfl h (fun v hv => lift_X4_readRule hv) (fun w11 h => ?_)
              refine V.goto (q := 110) dX4_read_102 (by decide) ?_
              exact (lab_X4_read_110 ih h)
          · refine V.aload_n (n := 0) dX4_read_81 rfl rfl ?_
            refine V.callVv (d' := 5) (as := []) (st := []) dX4_read_82 meX4_readConst mlX4_57 imX4_readConst seX4_readConst clsX4 rfl (by omega) (Nat.le_of_ble_eq_true rfl) rfl rfl h (fun v hv => lift_X4_readConst hv) (fun w12 h => ?_)
            refine V.goto (q := 110) dX4_read_85 (by decide) ?_
            exact (lab_X4_read_110 ih h)
def L_X4_read (v0 : Option Nat) (v1 : Int32) (M : Mem) : Option (Option Nat × Mem) :=
  (fR M 4 0 v0).bind fun x13 =>
  (ck M 7 x13).bind fun _ => (L_X7_cut x13 M).bind fun w14 =>
  (fR w14.2 4 1 v0).bind fun x15 =>
  (ck w14.2 0 x15).bind fun _ => (L_X0_clear x15 w14.2).bind fun w16 =>
  (pI w16.2 4 2 v0 (0 : Int32)).bind fun M17 =>
  (pI M17 4 3 v0 v1).bind fun M18 =>
  (pI M18 4 4 v0 (0 : Int32)).bind fun M19 =>
  (pZ M19 4 5 v0 (0 : Int32)).bind fun M20 =>
  (pI M20 4 6 v0 (0 : Int32)).bind fun M21 =>
  (pI M21 4 7 v0 (-1 : Int32)).bind fun M22 =>
  (ck M22 4 v0).bind fun _ => (L_X4_readUnder v0 M22).bind fun w23 =>
  J_X4_read_50 FU v0 (0 : Int32) w23.2
set_option maxRecDepth 20000 in
set_option maxHeartbeats 4000000 in
theorem lift_X4_read {G : Gt} {M M9 : Mem} {x9 : Option Nat} {v0 : Option Nat} {v1 : Int32} (h : L_X4_read v0 v1 M = some (x9, M9)) : Mt G mX4_read 517 [vR v0, vI v1] M (some (vR x9)) M9 := by
  unfold L_X4_read at h
  refine Mt.of (by decide +kernel) (Nat.le_of_ble_eq_true rfl) ?_
  have hh : V G mX4_read 517 M (some (vR x9)) M9 M 0 [(0, vR v0), (1, vI v1)] [] := by
    refine V.aload_n (n := 0) dX4_read_0 rfl rfl ?_
    refine V.getR dX4_read_1 lkX4_9 rfl rfl h (fun x13 h => ?_)
    refine V.callVv (d' := 10) (as := []) (st := []) dX4_read_4 meX7_cut mlX4_29 imX7_cut seX7_cut clsX7 rfl (by omega) (Nat.le_of_ble_eq_true rfl) rfl rfl h (fun v hv => lift_X7_cut hv) (fun w14 h => ?_)
    refine V.aload_n (n := 0) dX4_read_7 rfl rfl ?_
    refine V.getR dX4_read_8 lkX4_18 rfl rfl h (fun x15 h => ?_)
    refine V.callVv (d' := 0) (as := []) (st := []) dX4_read_11 meX0_clear mlX4_34 imX0_clear seX0_clear clsX0 rfl (by omega) (Nat.le_of_ble_eq_true rfl) rfl rfl h (fun v hv => lift_X0_clear hv) (fun w16 h => ?_)
    refine V.aload_n (n := 0) dX4_read_14 rfl rfl ?_
    refine V.iconst (x := 0) dX4_read_15 (by decide) rfl ?_
    refine V.putI dX4_read_16 lkX4_37 (Or.inl rfl) rfl rfl h (fun M17 h => ?_)
    refine V.aload_n (n := 0) dX4_read_19 rfl rfl ?_
    refine V.iload_n (n := 1) dX4_read_20 rfl rfl ?_
    refine V.putI dX4_read_21 lkX4_40 (Or.inl rfl) rfl rfl h (fun M18 h => ?_)
    refine V.aload_n (n := 0) dX4_read_24 rfl rfl ?_
    refine V.iconst (x := 0) dX4_read_25 (by decide) rfl ?_
    refine V.putI dX4_read_26 lkX4_43 (Or.inl rfl) rfl rfl h (fun M19 h => ?_)
    refine V.aload_n (n := 0) dX4_read_29 rfl rfl ?_
    refine V.iconst (x := 0) dX4_read_30 (by decide) rfl ?_
    refine V.putZ dX4_read_31 lkX4_46 (Or.inl rfl) rfl rfl h (fun M20 h => ?_)
    refine V.aload_n (n := 0) dX4_read_34 rfl rfl ?_
    refine V.iconst (x := 0) dX4_read_35 (by decide) rfl ?_
    refine V.putI dX4_read_36 lkX4_22 (Or.inl rfl) rfl rfl h (fun M21 h => ?_)
    refine V.aload_n (n := 0) dX4_read_39 rfl rfl ?_
    refine V.iconst (x := (-1)) dX4_read_40 (by decide) rfl ?_
    refine V.putI dX4_read_41 lkX4_26 (Or.inl rfl) rfl rfl h (fun M22 h => ?_)
    refine V.aload_n (n := 0) dX4_read_44 rfl rfl ?_
    refine V.callVv (d' := 2) (as := []) (st := []) dX4_read_45 meX4_readUnder mlX4_50 imX4_readUnder seX4_readUnder clsX4 rfl (by omega) (Nat.le_of_ble_eq_true rfl) rfl rfl h (fun v hv => lift_X4_readUnder hv) (fun w23 h => ?_)
    refine V.iconst (x := 0) dX4_read_48 (by decide) rfl ?_
    refine V.istore_n dX4_read_49 rfl (by decide) rfl rfl ?_
    exact V.sub [1, 0] rfl (lab_X4_read_50 FU _ _ _ h)
  exact hh
def L_X5_init (v0 : Option Nat) (v1 : Option Nat) (M : Mem) : Option (Unit × Mem) :=
  if v0 = none then none else
  (pR M 5 0 v0 v1).bind fun M1 =>
  (nA M1 20 (240 : Int32)).bind fun M2 =>
  (pR M2 5 1 v0 (some (nc M1))).bind fun M3 =>
  (nA M3 21 (4 : Int32)).bind fun M4 =>
  (pR M4 5 3 v0 (some (nc M3))).bind fun M5 =>
  some ((), M5)
set_option maxRecDepth 20000 in
set_option maxHeartbeats 4000000 in
theorem lift_X5_init {G : Gt} {M M9 : Mem} {x9 : Unit} {v0 : Option Nat} {v1 : Option Nat} (h : L_X5_init v0 v1 M = some (x9, M9)) : Mt G mX5_init 1 [vR v0, vR v1] M none M9 := by
  unfold L_X5_init at h
  refine Mt.of (by decide +kernel) (Nat.le_of_ble_eq_true rfl) ?_
  have hh : V G mX5_init 1 M none M9 M 0 [(0, vR v0), (1, vR v1)] [] := by
    refine V.aload_n (n := 0) dX5_init_0 rfl rfl ?_
    refine V.objInitR dX5_init_1 oiX5_3 oim oic (by omega) rfl h (fun h => ?_)
    refine V.aload_n (n := 0) dX5_init_4 rfl rfl ?_
    refine V.aload_n (n := 1) dX5_init_5 rfl rfl ?_
    refine V.putR dX5_init_6 lkX5_9 (Or.inr ⟨rfl, rfl⟩) rfl rfl h (fun M1 h => ?_)
    refine V.aload_n (n := 0) dX5_init_9 rfl rfl ?_
    refine V.sipush (x := 240) dX5_init_10 (by decide) rfl ?_
    refine V.newa (k := 20) dX5_init_13 rfl ac20 (by decide) (by decide) rfl h (fun M2 h => ?_)
    refine V.putR dX5_init_15 lkX5_15 (Or.inr ⟨rfl, rfl⟩) rfl rfl h (fun M3 h => ?_)
    refine V.aload_n (n := 0) dX5_init_18 rfl rfl ?_
    refine V.iconst (x := 4) dX5_init_19 (by decide) rfl ?_
    refine V.newa (k := 21) dX5_init_20 rfl ac21 (by decide) (by decide) rfl h (fun M4 h => ?_)
    refine V.putR dX5_init_22 lkX5_19 (Or.inr ⟨rfl, rfl⟩) rfl rfl h (fun M5 h => ?_)
    exact V.vret dX5_init_25 rfl h
  exact hh
def L_X5_mark (v0 : Option Nat) (v1 : Int32) (v2 : Int32) (M : Mem) : Option (Unit × Mem) :=
  (fR M 5 0 v0).bind fun x1 =>
  (fR M 1 1 x1).bind fun x2 =>
  if (8 : Int32) = 0 then none else
  (aR M 26 x2 (v1 / (8 : Int32))).bind fun x3 =>
  (fR M 8 5 x3).bind fun x4 =>
  if (8 : Int32) = 0 then none else
  (uI M 20 x4 (v1 - v1 / (8 : Int32) * (8 : Int32)) v2).bind fun M5 =>
  some ((), M5)
set_option maxRecDepth 20000 in
set_option maxHeartbeats 4000000 in
theorem lift_X5_mark {G : Gt} {M M9 : Mem} {x9 : Unit} {v0 : Option Nat} {v1 : Int32} {v2 : Int32} (h : L_X5_mark v0 v1 v2 M = some (x9, M9)) : Mt G mX5_mark 0 [vR v0, vI v1, vI v2] M none M9 := by
  unfold L_X5_mark at h
  refine Mt.of (by decide +kernel) (Nat.le_of_ble_eq_true rfl) ?_
  have hh : V G mX5_mark 0 M none M9 M 0 [(0, vR v0), (1, vI v1), (2, vI v2)] [] := by
    refine V.aload_n (n := 0) dX5_mark_0 rfl rfl ?_
    refine V.getR dX5_mark_1 lkX5_9 rfl rfl h (fun x1 h => ?_)
    refine V.getR dX5_mark_4 lkX5_23 rfl rfl h (fun x2 h => ?_)
    refine V.iload_n (n := 1) dX5_mark_7 rfl rfl ?_
    refine V.bipush (x := 8) dX5_mark_8 (by decide) rfl ?_
    refine V.idiv dX5_mark_10 h rfl (fun h => ?_)
    refine V.aald (k := 26) dX5_mark_11 (by decide) (by decide) rfl h (fun x3 h => ?_)
    refine V.getR dX5_mark_12 lkX5_40 rfl rfl h (fun x4 h => ?_)
    refine V.iload_n (n := 1) dX5_mark_15 rfl rfl ?_
    refine V.bipush (x := 8) dX5_mark_16 (by decide) rfl ?_
    refine V.irem dX5_mark_18 h rfl (fun h => ?_)
    refine V.iload_n (n := 2) dX5_mark_19 rfl rfl ?_
    refine V.iast dX5_mark_20 rfl h (fun M5 h => ?_)
    exact V.vret dX5_mark_21 rfl h
  exact hh
def L_X5_push (v0 : Option Nat) (v1 : Int32) (M : Mem) : Option (Unit × Mem) :=
  (fI M 5 2 v0).bind fun x1 =>
  (fR M 5 1 v0).bind fun x2 =>
  (aN M x2).bind fun x3 =>
  if x3 ≤ x1 then
  (some ((), M))
  else
  ((fR M 5 1 v0).bind fun x4 =>
  (fI M 5 2 v0).bind fun x5 =>
  (uI M 20 x4 x5 v1).bind fun M6 =>
  (fI M6 5 2 v0).bind fun x7 =>
  (pI M6 5 2 v0 (x7 + (1 : Int32))).bind fun M8 =>
  (ck M8 5 v0).bind fun _ => (L_X5_mark v0 v1 (1 : Int32) M8).bind fun w9 =>
  some ((), w9.2))
set_option maxRecDepth 20000 in
set_option maxHeartbeats 4000000 in
theorem lift_X5_push {G : Gt} {M M9 : Mem} {x9 : Unit} {v0 : Option Nat} {v1 : Int32} (h : L_X5_push v0 v1 M = some (x9, M9)) : Mt G mX5_push 1 [vR v0, vI v1] M none M9 := by
  unfold L_X5_push at h
  refine Mt.of (by decide +kernel) (Nat.le_of_ble_eq_true rfl) ?_
  have hh : V G mX5_push 1 M none M9 M 0 [(0, vR v0), (1, vI v1)] [] := by
    refine V.aload_n (n := 0) dX5_push_0 rfl rfl ?_
    refine V.getI dX5_push_1 lkX5_47 rfl rfl h (fun x1 h => ?_)
    refine V.aload_n (n := 0) dX5_push_4 rfl rfl ?_
    refine V.getR dX5_push_5 lkX5_15 rfl rfl h (fun x2 h => ?_)
    refine V.alen dX5_push_8 rfl h (fun x3 h => ?_)
    refine V.icmp_ge (q := 38) dX5_push_9 (by decide) rfl h (fun h => ?_) (fun h => ?_)
    · exact V.vret dX5_push_38 rfl h
    · refine V.aload_n (n := 0) dX5_push_12 rfl rfl ?_
      refine V.getR dX5_push_13 lkX5_15 rfl rfl h (fun x4 h => ?_)
      refine V.aload_n (n := 0) dX5_push_16 rfl rfl ?_
      refine V.getI dX5_push_17 lkX5_47 rfl rfl h (fun x5 h => ?_)
      refine V.iload_n (n := 1) dX5_push_20 rfl rfl ?_
      refine V.iast dX5_push_21 rfl h (fun M6 h => ?_)
      refine V.aload_n (n := 0) dX5_push_22 rfl rfl ?_
      refine V.dup dX5_push_23 rfl rfl ?_
      refine V.getI dX5_push_24 lkX5_47 rfl rfl h (fun x7 h => ?_)
      refine V.iconst (x := 1) dX5_push_27 (by decide) rfl ?_
      refine V.iadd dX5_push_28 rfl ?_
      refine V.putI dX5_push_29 lkX5_47 (Or.inl rfl) rfl rfl h (fun M8 h => ?_)
      refine V.aload_n (n := 0) dX5_push_32 rfl rfl ?_
      refine V.iload_n (n := 1) dX5_push_33 rfl rfl ?_
      refine V.iconst (x := 1) dX5_push_34 (by decide) rfl ?_
      refine V.callVv (d' := 0) (as := [vI v1, vI (1 : Int32)]) (st := []) dX5_push_35 meX5_mark mlX5_62 imX5_mark seX5_mark clsX5 rfl (by omega) (Nat.le_of_ble_eq_true rfl) rfl rfl h (fun v hv => lift_X5_mark hv) (fun w9 h => ?_)
      exact V.vret dX5_push_38 rfl h
  exact hh
def L_X5_markOf (v0 : Option Nat) (v1 : Int32) (M : Mem) : Option (Int32 × Mem) :=
  (fR M 5 0 v0).bind fun x1 =>
  (fR M 1 1 x1).bind fun x2 =>
  if (8 : Int32) = 0 then none else
  (aR M 26 x2 (v1 / (8 : Int32))).bind fun x3 =>
  (fR M 8 5 x3).bind fun x4 =>
  if (8 : Int32) = 0 then none else
  (aI M 20 x4 (v1 - v1 / (8 : Int32) * (8 : Int32))).bind fun x5 =>
  some (x5, M)
set_option maxRecDepth 20000 in
set_option maxHeartbeats 4000000 in
theorem lift_X5_markOf {G : Gt} {M M9 : Mem} {x9 : Int32} {v0 : Option Nat} {v1 : Int32} (h : L_X5_markOf v0 v1 M = some (x9, M9)) : Mt G mX5_markOf 0 [vR v0, vI v1] M (some (vI x9)) M9 := by
  unfold L_X5_markOf at h
  refine Mt.of (by decide +kernel) (Nat.le_of_ble_eq_true rfl) ?_
  have hh : V G mX5_markOf 0 M (some (vI x9)) M9 M 0 [(0, vR v0), (1, vI v1)] [] := by
    refine V.aload_n (n := 0) dX5_markOf_0 rfl rfl ?_
    refine V.getR dX5_markOf_1 lkX5_9 rfl rfl h (fun x1 h => ?_)
    refine V.getR dX5_markOf_4 lkX5_23 rfl rfl h (fun x2 h => ?_)
    refine V.iload_n (n := 1) dX5_markOf_7 rfl rfl ?_
    refine V.bipush (x := 8) dX5_markOf_8 (by decide) rfl ?_
    refine V.idiv dX5_markOf_10 h rfl (fun h => ?_)
    refine V.aald (k := 26) dX5_markOf_11 (by decide) (by decide) rfl h (fun x3 h => ?_)
    refine V.getR dX5_markOf_12 lkX5_40 rfl rfl h (fun x4 h => ?_)
    refine V.iload_n (n := 1) dX5_markOf_15 rfl rfl ?_
    refine V.bipush (x := 8) dX5_markOf_16 (by decide) rfl ?_
    refine V.irem dX5_markOf_18 h rfl (fun h => ?_)
    refine V.iald dX5_markOf_19 rfl h (fun x5 h => ?_)
    exact V.iret dX5_markOf_20 rfl h
  exact hh
def L_X5_put (v0 : Option Nat) (v1 : Int64) (M : Mem) : Option (Int32 × Mem) :=
  (fI M 5 4 v0).bind fun x1 =>
  if (4 : Int32) ≤ x1 then
  (some ((-2 : Int32), M))
  else
  (if (1000000000000000 : Int64) < v1 then
  (some ((-2 : Int32), M))
  else
  (if (-1000000000000000 : Int64) ≤ v1 then
  ((fR M 5 3 v0).bind fun x2 =>
  (fI M 5 4 v0).bind fun x3 =>
  (uL M 21 x2 x3 v1).bind fun M4 =>
  (fI M4 5 4 v0).bind fun x5 =>
  (pI M4 5 4 v0 (x5 + (1 : Int32))).bind fun M6 =>
  some ((-1 : Int32), M6))
  else
  (some ((-2 : Int32), M))))
set_option maxRecDepth 20000 in
set_option maxHeartbeats 4000000 in
theorem lift_X5_put {G : Gt} {M M9 : Mem} {x9 : Int32} {v0 : Option Nat} {v1 : Int64} (h : L_X5_put v0 v1 M = some (x9, M9)) : Mt G mX5_put 0 [vR v0, vL v1] M (some (vI x9)) M9 := by
  unfold L_X5_put at h
  refine Mt.of (by decide +kernel) (Nat.le_of_ble_eq_true rfl) ?_
  have hh : V G mX5_put 0 M (some (vI x9)) M9 M 0 [(0, vR v0), (1, vL v1)] [] := by
    refine V.aload_n (n := 0) dX5_put_0 rfl rfl ?_
    refine V.getI dX5_put_1 lkX5_75 rfl rfl h (fun x1 h => ?_)
    refine V.iconst (x := 4) dX5_put_4 (by decide) rfl ?_
    refine V.icmp_ge (q := 24) dX5_put_5 (by decide) rfl h (fun h => ?_) (fun h => ?_)
    · refine V.bipush (x := (-2)) dX5_put_24 (by decide) rfl ?_
      exact V.iret dX5_put_26 rfl h
    · refine V.lload_n (n := 1) dX5_put_8 rfl rfl ?_
      refine V.ldc2 (x := (1000000000000000)) dX5_put_9 clX5_98 rfl ?_
      refine V.lif_gt (q := 24) dX5_put_12 rfl dX5_put_13 (by decide) rfl h (fun h => ?_) (fun h => ?_)
      · refine V.bipush (x := (-2)) dX5_put_24 (by decide) rfl ?_
        exact V.iret dX5_put_26 rfl h
      · refine V.lload_n (n := 1) dX5_put_16 rfl rfl ?_
        refine V.ldc2 (x := (-1000000000000000)) dX5_put_17 clX5_100 rfl ?_
        refine V.lif_ge (q := 27) dX5_put_20 rfl dX5_put_21 (by decide) rfl h (fun h => ?_) (fun h => ?_)
        · refine V.aload_n (n := 0) dX5_put_27 rfl rfl ?_
          refine V.getR dX5_put_28 lkX5_19 rfl rfl h (fun x2 h => ?_)
          refine V.aload_n (n := 0) dX5_put_31 rfl rfl ?_
          refine V.getI dX5_put_32 lkX5_75 rfl rfl h (fun x3 h => ?_)
          refine V.lload_n (n := 1) dX5_put_35 rfl rfl ?_
          refine V.last dX5_put_36 rfl h (fun M4 h => ?_)
          refine V.aload_n (n := 0) dX5_put_37 rfl rfl ?_
          refine V.dup dX5_put_38 rfl rfl ?_
          refine V.getI dX5_put_39 lkX5_75 rfl rfl h (fun x5 h => ?_)
          refine V.iconst (x := 1) dX5_put_42 (by decide) rfl ?_
          refine V.iadd dX5_put_43 rfl ?_
          refine V.putI dX5_put_44 lkX5_75 (Or.inl rfl) rfl rfl h (fun M6 h => ?_)
          refine V.iconst (x := (-1)) dX5_put_47 (by decide) rfl ?_
          exact V.iret dX5_put_48 rfl h
        · refine V.bipush (x := (-2)) dX5_put_24 (by decide) rfl ?_
          exact V.iret dX5_put_26 rfl h
  exact hh
def L_X5_refer (v0 : Option Nat) (v1 : Int64) (M : Mem) : Option (Int32 × Mem) :=
  (fR M 5 0 v0).bind fun x1 =>
  (ck M 1 x1).bind fun _ => (L_X1_find x1 (0 : Int32) v1 M).bind fun w2 =>
  if w2.1 = (-1 : Int32) then
  (some ((-2 : Int32), w2.2))
  else
  ((ck w2.2 5 v0).bind fun _ => (L_X5_markOf v0 w2.1 w2.2).bind fun w3 =>
  if ¬ w3.1 = (3 : Int32) then
  ((ck w3.2 5 v0).bind fun _ => (L_X5_markOf v0 w2.1 w3.2).bind fun w4 =>
  if w4.1 = (2 : Int32) then
  ((fR w4.2 5 0 v0).bind fun x5 =>
  (fR w4.2 1 1 x5).bind fun x6 =>
  if (8 : Int32) = 0 then none else
  (aR w4.2 26 x6 (w2.1 / (8 : Int32))).bind fun x7 =>
  (fR w4.2 8 6 x7).bind fun x8 =>
  if (8 : Int32) = 0 then none else
  (aL w4.2 21 x8 (w2.1 - w2.1 / (8 : Int32) * (8 : Int32))).bind fun x9 =>
  (ck w4.2 5 v0).bind fun _ => (L_X5_put v0 x9 w4.2).bind fun w10 =>
  some (w10.1, w10.2))
  else
  (some (w2.1, w4.2)))
  else
  (some ((-2 : Int32), w3.2)))
set_option maxRecDepth 20000 in
set_option maxHeartbeats 4000000 in
theorem lift_X5_refer {G : Gt} {M M9 : Mem} {x9 : Int32} {v0 : Option Nat} {v1 : Int64} (h : L_X5_refer v0 v1 M = some (x9, M9)) : Mt G mX5_refer 2 [vR v0, vL v1] M (some (vI x9)) M9 := by
  unfold L_X5_refer at h
  refine Mt.of (by decide +kernel) (Nat.le_of_ble_eq_true rfl) ?_
  have hh : V G mX5_refer 2 M (some (vI x9)) M9 M 0 [(0, vR v0), (1, vL v1)] [] := by
    refine V.aload_n (n := 0) dX5_refer_0 rfl rfl ?_
    refine V.getR dX5_refer_1 lkX5_9 rfl rfl h (fun x1 h => ?_)
    refine V.iconst (x := 0) dX5_refer_4 (by decide) rfl ?_
    refine V.lload_n (n := 1) dX5_refer_5 rfl rfl ?_
    refine V.callVi (d' := 1) (as := [vI (0 : Int32), vL v1]) (st := []) dX5_refer_6 meX1_find mlX5_92 imX1_find seX1_find clsX1 rfl (by omega) (Nat.le_of_ble_eq_true rfl) rfl rfl h (fun v hv => lift_X1_find hv) (fun w2 h => ?_)
    refine V.istore_n dX5_refer_9 rfl (by decide) rfl rfl ?_
    refine V.iload_n (n := 0) dX5_refer_10 rfl rfl ?_
    refine V.iconst (x := (-1)) dX5_refer_11 (by decide) rfl ?_
    refine V.icmp_eq (q := 24) dX5_refer_12 (by decide) rfl h (fun h => ?_) (fun h => ?_)
    · refine V.bipush (x := (-2)) dX5_refer_24 (by decide) rfl ?_
      exact V.iret dX5_refer_26 rfl h
    · refine V.aload_n (n := 1) dX5_refer_15 rfl rfl ?_
      refine V.iload_n (n := 0) dX5_refer_16 rfl rfl ?_
      refine V.callVi (d' := 0) (as := [vI w2.1]) (st := []) dX5_refer_17 meX5_markOf mlX5_66 imX5_markOf seX5_markOf clsX5 rfl (by omega) (Nat.le_of_ble_eq_true rfl) rfl rfl h (fun v hv => lift_X5_markOf hv) (fun w3 h => ?_)
      refine V.iconst (x := 3) dX5_refer_20 (by decide) rfl ?_
      refine V.icmp_ne (q := 27) dX5_refer_21 (by decide) rfl h (fun h => ?_) (fun h => ?_)
      · refine V.aload_n (n := 1) dX5_refer_27 rfl rfl ?_
        refine V.iload_n (n := 0) dX5_refer_28 rfl rfl ?_
        refine V.callVi (d' := 0) (as := [vI w2.1]) (st := []) dX5_refer_29 meX5_markOf mlX5_66 imX5_markOf seX5_markOf clsX5 rfl (by omega) (Nat.le_of_ble_eq_true rfl) rfl rfl h (fun v hv => lift_X5_markOf hv) (fun w4 h => ?_)
        refine V.iconst (x := 2) dX5_refer_32 (by decide) rfl ?_
        refine V.icmp_eq (q := 38) dX5_refer_33 (by decide) rfl h (fun h => ?_) (fun h => ?_)
        · refine V.aload_n (n := 1) dX5_refer_38 rfl rfl ?_
          refine V.aload_n (n := 1) dX5_refer_39 rfl rfl ?_
          refine V.getR dX5_refer_40 lkX5_9 rfl rfl h (fun x5 h => ?_)
          refine V.getR dX5_refer_43 lkX5_23 rfl rfl h (fun x6 h => ?_)
          refine V.iload_n (n := 0) dX5_refer_46 rfl rfl ?_
          refine V.bipush (x := 8) dX5_refer_47 (by decide) rfl ?_
          refine V.idiv dX5_refer_49 h rfl (fun h => ?_)
          refine V.aald (k := 26) dX5_refer_50 (by decide) (by decide) rfl h (fun x7 h => ?_)
          refine V.getR dX5_refer_51 lkX5_59 rfl rfl h (fun x8 h => ?_)
          refine V.iload_n (n := 0) dX5_refer_54 rfl rfl ?_
          refine V.bipush (x := 8) dX5_refer_55 (by decide) rfl ?_
          refine V.irem dX5_refer_57 h rfl (fun h => ?_)
          refine V.lald dX5_refer_58 rfl h (fun x9 h => ?_)
          refine V.callVi (d' := 0) (as := [vL x9]) (st := []) dX5_refer_59 meX5_put mlX5_95 imX5_put seX5_put clsX5 rfl (by omega) (Nat.le_of_ble_eq_true rfl) rfl rfl h (fun v hv => lift_X5_put hv) (fun w10 h => ?_)
          exact V.iret dX5_refer_62 rfl h
        · refine V.iload_n (n := 0) dX5_refer_36 rfl rfl ?_
          exact V.iret dX5_refer_37 rfl h
      · refine V.bipush (x := (-2)) dX5_refer_24 (by decide) rfl ?_
        exact V.iret dX5_refer_26 rfl h
  exact hh
def L_X5_productFits (v0 : Int64) (v2 : Int64) (M : Mem) : Option (Int32 × Mem) :=
  if v0 = (0 : Int64) then
  ((bz (1 : Int32)).bind fun _ => some ((1 : Int32), M))
  else
  (if (if 0 < v0 then v0 else -v0) = 0 then none else
  if ((1000000000000000 : Int64) / (if 0 < v0 then v0 else -v0)) < (if 0 < v2 then v2 else -v2) then
  ((bz (0 : Int32)).bind fun _ => some ((0 : Int32), M))
  else
  ((bz (1 : Int32)).bind fun _ => some ((1 : Int32), M)))
set_option maxRecDepth 20000 in
set_option maxHeartbeats 4000000 in
theorem lift_X5_productFits {G : Gt} {M M9 : Mem} {x9 : Int32} {v0 : Int64} {v2 : Int64} (h : L_X5_productFits v0 v2 M = some (x9, M9)) : Mt G mX5_productFits 1 [vL v0, vL v2] M (some (vI x9)) M9 := by
  unfold L_X5_productFits at h
  refine Mt.of (by decide +kernel) (Nat.le_of_ble_eq_true rfl) ?_
  have hh : V G mX5_productFits 1 M (some (vI x9)) M9 M 0 [(0, vL v0), (2, vL v2)] [] := by
    refine V.lload_n (n := 0) dX5_productFits_0 rfl rfl ?_
    refine V.lconst (x := 0) dX5_productFits_1 (by decide) rfl ?_
    refine V.lif_eq (q := 22) dX5_productFits_2 rfl dX5_productFits_3 (by decide) rfl h (fun h => ?_) (fun h => ?_)
    · refine V.iconst (x := 1) dX5_productFits_22 (by decide) rfl ?_
      refine V.goto (q := 27) dX5_productFits_23 (by decide) ?_
      exact V.zret dX5_productFits_27 rfl h
    · refine V.lload_n (n := 1) dX5_productFits_6 rfl rfl ?_
      refine V.labs dX5_productFits_7 mmX5_106 ms_abs ms_init mc_abs (by omega) (Nat.le_of_ble_eq_true rfl) rfl ?_
      refine V.ldc2 (x := (1000000000000000)) dX5_productFits_10 clX5_98 rfl ?_
      refine V.lload_n (n := 0) dX5_productFits_13 rfl rfl ?_
      refine V.labs dX5_productFits_14 mmX5_106 ms_abs ms_init mc_abs (by omega) (Nat.le_of_ble_eq_true rfl) rfl ?_
      refine V.ldiv dX5_productFits_17 h rfl (fun h => ?_)
      refine V.lif_gt (q := 26) dX5_productFits_18 rfl dX5_productFits_19 (by decide) rfl h (fun h => ?_) (fun h => ?_)
      · refine V.iconst (x := 0) dX5_productFits_26 (by decide) rfl ?_
        exact V.zret dX5_productFits_27 rfl h
      · refine V.iconst (x := 1) dX5_productFits_22 (by decide) rfl ?_
        refine V.goto (q := 27) dX5_productFits_23 (by decide) ?_
        exact V.zret dX5_productFits_27 rfl h
  exact hh
def J_X5_calculate_48 (v0 : Option Nat) (v1 : Int32) (M : Mem) : Option (Int32 × Mem) :=
  (fI M 5 4 v0).bind fun x1 =>
  if (2 : Int32) ≤ x1 then
  ((fI M 5 4 v0).bind fun x2 =>
  (pI M 5 4 v0 (x2 - (2 : Int32))).bind fun M3 =>
  (fR M3 5 3 v0).bind fun x4 =>
  (fI M3 5 4 v0).bind fun x5 =>
  (aL M3 21 x4 x5).bind fun x6 =>
  (fR M3 5 3 v0).bind fun x7 =>
  (fI M3 5 4 v0).bind fun x8 =>
  (aL M3 21 x7 (x8 + (1 : Int32))).bind fun x9 =>
  if v1 = 6 then
  ((ck M3 5 v0).bind fun _ => (L_X5_put v0 (x6 + x9) M3).bind fun w10 =>
  some (w10.1, w10.2))
  else
  if v1 = 7 then
  ((ck M3 5 v0).bind fun _ => (L_X5_put v0 (x6 - x9) M3).bind fun w11 =>
  some (w11.1, w11.2))
  else
  if v1 = 8 then
  ((L_X5_productFits x6 x9 M3).bind fun w12 =>
  if w12.1 = 0 then
  (some ((-2 : Int32), w12.2))
  else
  ((ck w12.2 5 v0).bind fun _ => (L_X5_put v0 (x6 * x9) w12.2).bind fun w13 =>
  some (w13.1, w13.2)))
  else
  (some ((-2 : Int32), M3)))
  else
  (some ((-2 : Int32), M))
set_option maxRecDepth 20000 in
set_option maxHeartbeats 4000000 in
theorem lab_X5_calculate_48 {G : Gt} {M0 M9 : Mem} {x9 : Int32} {v0 : Option Nat} {v1 : Int32} {M : Mem} (h : J_X5_calculate_48 v0 v1 M = some (x9, M9)) : V G mX5_calculate 2 M0 (some (vI x9)) M9 M 48 [(0, vR v0), (1, vI v1)] [] := by
  unfold J_X5_calculate_48 at h
  refine V.aload_n (n := 0) dX5_calculate_48 rfl rfl ?_
  refine V.getI dX5_calculate_49 lkX5_75 rfl rfl h (fun x1 h => ?_)
  refine V.iconst (x := 2) dX5_calculate_52 (by decide) rfl ?_
  refine V.icmp_ge (q := 59) dX5_calculate_53 (by decide) rfl h (fun h => ?_) (fun h => ?_)
  · refine V.aload_n (n := 0) dX5_calculate_59 rfl rfl ?_
    refine V.dup dX5_calculate_60 rfl rfl ?_
    refine V.getI dX5_calculate_61 lkX5_75 rfl rfl h (fun x2 h => ?_)
    refine V.iconst (x := 2) dX5_calculate_64 (by decide) rfl ?_
    refine V.isub dX5_calculate_65 rfl ?_
    refine V.putI dX5_calculate_66 lkX5_75 (Or.inl rfl) rfl rfl h (fun M3 h => ?_)
    refine V.aload_n (n := 0) dX5_calculate_69 rfl rfl ?_
    refine V.getR dX5_calculate_70 lkX5_19 rfl rfl h (fun x4 h => ?_)
    refine V.aload_n (n := 0) dX5_calculate_73 rfl rfl ?_
    refine V.getI dX5_calculate_74 lkX5_75 rfl rfl h (fun x5 h => ?_)
    refine V.lald dX5_calculate_77 rfl h (fun x6 h => ?_)
    refine V.lstore dX5_calculate_78 (by decide) rfl rfl ?_
    refine V.aload_n (n := 1) dX5_calculate_80 rfl rfl ?_
    refine V.getR dX5_calculate_81 lkX5_19 rfl rfl h (fun x7 h => ?_)
    refine V.aload_n (n := 1) dX5_calculate_84 rfl rfl ?_
    refine V.getI dX5_calculate_85 lkX5_75 rfl rfl h (fun x8 h => ?_)
    refine V.iconst (x := 1) dX5_calculate_88 (by decide) rfl ?_
    refine V.iadd dX5_calculate_89 rfl ?_
    refine V.lald dX5_calculate_90 rfl h (fun x9 h => ?_)
    refine V.lstore dX5_calculate_91 (by decide) rfl rfl ?_
    refine V.iload_n (n := 3) dX5_calculate_93 rfl rfl ?_
    refine V.sw h (fun hx h => ?_) (fun n6 h => ?_)
    · refine V.swt hx ?_
      refine V.tableIn (q := 120) (x := 6) (off := 26) dX5_calculate_94 (by decide) (by decide) (by decide) (by decide) ?_
      refine V.aload_n (n := 2) dX5_calculate_120 rfl rfl ?_
      refine V.lload (n := 1) dX5_calculate_121 rfl rfl ?_
      refine V.lload (n := 0) dX5_calculate_123 rfl rfl ?_
      refine V.ladd dX5_calculate_125 rfl ?_
      refine V.callVi (d' := 0) (as := [vL (x6 + x9)]) (st := []) dX5_calculate_126 meX5_put mlX5_95 imX5_put seX5_put clsX5 rfl (by omega) (Nat.le_of_ble_eq_true rfl) rfl rfl h (fun v hv => lift_X5_put hv) (fun w10 h => ?_)
      exact V.iret dX5_calculate_129 rfl h
    refine V.sw h (fun hx h => ?_) (fun n7 h => ?_)
    · refine V.swt hx ?_
      refine V.tableIn (q := 130) (x := 7) (off := 36) dX5_calculate_94 (by decide) (by decide) (by decide) (by decide) ?_
      refine V.aload_n (n := 2) dX5_calculate_130 rfl rfl ?_
      refine V.lload (n := 1) dX5_calculate_131 rfl rfl ?_
      refine V.lload (n := 0) dX5_calculate_133 rfl rfl ?_
      refine V.lsub dX5_calculate_135 rfl ?_
      refine V.callVi (d' := 0) (as := [vL (x6 - x9)]) (st := []) dX5_calculate_136 meX5_put mlX5_95 imX5_put seX5_put clsX5 rfl (by omega) (Nat.le_of_ble_eq_true rfl) rfl rfl h (fun v hv => lift_X5_put hv) (fun w11 h => ?_)
      exact V.iret dX5_calculate_139 rfl h
    refine V.sw h (fun hx h => ?_) (fun n8 h => ?_)
    · refine V.swt hx ?_
      refine V.tableIn (q := 140) (x := 8) (off := 46) dX5_calculate_94 (by decide) (by decide) (by decide) (by decide) ?_
      refine V.lload (n := 1) dX5_calculate_140 rfl rfl ?_
      refine V.lload (n := 0) dX5_calculate_142 rfl rfl ?_
      refine V.callSi (d' := 1) (as := [vL x6, vL x9]) (st := []) dX5_calculate_144 meX5_productFits mlX5_102 smX5_productFits rfl (by omega) (Nat.le_of_ble_eq_true rfl) rfl rfl h (fun v hv => lift_X5_productFits hv) (fun w12 h => ?_)
      refine V.if_eq (q := 162) dX5_calculate_147 (by decide) rfl h (fun h => ?_) (fun h => ?_)
      · refine V.bipush (x := (-2)) dX5_calculate_162 (by decide) rfl ?_
        exact V.iret dX5_calculate_164 rfl h
      · refine V.aload_n (n := 2) dX5_calculate_150 rfl rfl ?_
        refine V.lload (n := 1) dX5_calculate_151 rfl rfl ?_
        refine V.lload (n := 0) dX5_calculate_153 rfl rfl ?_
        refine V.lmul dX5_calculate_155 rfl ?_
        refine V.callVi (d' := 0) (as := [vL (x6 * x9)]) (st := []) dX5_calculate_156 meX5_put mlX5_95 imX5_put seX5_put clsX5 rfl (by omega) (Nat.le_of_ble_eq_true rfl) rfl rfl h (fun v hv => lift_X5_put hv) (fun w13 h => ?_)
        refine V.goto (q := 164) dX5_calculate_159 (by decide) ?_
        exact V.iret dX5_calculate_164 rfl h
    have e6 := sw_ne n6
    have e7 := sw_ne n7
    have e8 := sw_ne n8
    have t6 : (6 : Int32).toInt = 6 := by decide
    have t7 : (7 : Int32).toInt = 7 := by decide
    have t8 : (8 : Int32).toInt = 8 := by decide
    refine V.tableOut (q := 165) dX5_calculate_94 (by omega) (by decide) ?_
    refine V.bipush (x := (-2)) dX5_calculate_165 (by decide) rfl ?_
    exact V.iret dX5_calculate_167 rfl h
  · refine V.bipush (x := (-2)) dX5_calculate_56 (by decide) rfl ?_
    exact V.iret dX5_calculate_58 rfl h
def L_X5_calculate (v0 : Option Nat) (v1 : Int32) (v2 : Int64) (M : Mem) : Option (Int32 × Mem) :=
  if ¬ v1 = 0 then
  (if ¬ v1 = (5 : Int32) then
  (J_X5_calculate_48 v0 v1 M)
  else
  ((fI M 5 4 v0).bind fun x14 =>
  if x14 < (1 : Int32) then
  (J_X5_calculate_48 v0 v1 M)
  else
  ((fI M 5 4 v0).bind fun x15 =>
  (pI M 5 4 v0 (x15 - (1 : Int32))).bind fun M16 =>
  (fR M16 5 3 v0).bind fun x17 =>
  (fI M16 5 4 v0).bind fun x18 =>
  (aL M16 21 x17 x18).bind fun x19 =>
  (ck M16 5 v0).bind fun _ => (L_X5_put v0 (-x19) M16).bind fun w20 =>
  some (w20.1, w20.2))))
  else
  ((ck M 5 v0).bind fun _ => (L_X5_put v0 v2 M).bind fun w21 =>
  some (w21.1, w21.2))
set_option maxRecDepth 20000 in
set_option maxHeartbeats 4000000 in
theorem lift_X5_calculate {G : Gt} {M M9 : Mem} {x9 : Int32} {v0 : Option Nat} {v1 : Int32} {v2 : Int64} (h : L_X5_calculate v0 v1 v2 M = some (x9, M9)) : Mt G mX5_calculate 2 [vR v0, vI v1, vL v2] M (some (vI x9)) M9 := by
  unfold L_X5_calculate at h
  refine Mt.of (by decide +kernel) (Nat.le_of_ble_eq_true rfl) ?_
  have hh : V G mX5_calculate 2 M (some (vI x9)) M9 M 0 [(0, vR v0), (1, vI v1), (2, vL v2)] [] := by
    refine V.iload_n (n := 1) dX5_calculate_0 rfl rfl ?_
    refine V.if_ne (q := 10) dX5_calculate_1 (by decide) rfl h (fun h => ?_) (fun h => ?_)
    · refine V.iload_n (n := 1) dX5_calculate_10 rfl rfl ?_
      refine V.iconst (x := 5) dX5_calculate_11 (by decide) rfl ?_
      refine V.icmp_ne (q := 48) dX5_calculate_12 (by decide) rfl h (fun h => ?_) (fun h => ?_)
      · exact V.sub [0, 1] rfl (lab_X5_calculate_48 h)
      · refine V.aload_n (n := 0) dX5_calculate_15 rfl rfl ?_
        refine V.getI dX5_calculate_16 lkX5_75 rfl rfl h (fun x14 h => ?_)
        refine V.iconst (x := 1) dX5_calculate_19 (by decide) rfl ?_
        refine V.icmp_lt (q := 48) dX5_calculate_20 (by decide) rfl h (fun h => ?_) (fun h => ?_)
        · exact V.sub [0, 1] rfl (lab_X5_calculate_48 h)
        · refine V.aload_n (n := 0) dX5_calculate_23 rfl rfl ?_
          refine V.dup dX5_calculate_24 rfl rfl ?_
          refine V.getI dX5_calculate_25 lkX5_75 rfl rfl h (fun x15 h => ?_)
          refine V.iconst (x := 1) dX5_calculate_28 (by decide) rfl ?_
          refine V.isub dX5_calculate_29 rfl ?_
          refine V.putI dX5_calculate_30 lkX5_75 (Or.inl rfl) rfl rfl h (fun M16 h => ?_)
          refine V.aload_n (n := 0) dX5_calculate_33 rfl rfl ?_
          refine V.aload_n (n := 0) dX5_calculate_34 rfl rfl ?_
          refine V.getR dX5_calculate_35 lkX5_19 rfl rfl h (fun x17 h => ?_)
          refine V.aload_n (n := 0) dX5_calculate_38 rfl rfl ?_
          refine V.getI dX5_calculate_39 lkX5_75 rfl rfl h (fun x18 h => ?_)
          refine V.lald dX5_calculate_42 rfl h (fun x19 h => ?_)
          refine V.lneg dX5_calculate_43 rfl ?_
          refine V.callVi (d' := 0) (as := [vL (-x19)]) (st := []) dX5_calculate_44 meX5_put mlX5_95 imX5_put seX5_put clsX5 rfl (by omega) (Nat.le_of_ble_eq_true rfl) rfl rfl h (fun v hv => lift_X5_put hv) (fun w20 h => ?_)
          exact V.iret dX5_calculate_47 rfl h
    · refine V.aload_n (n := 0) dX5_calculate_4 rfl rfl ?_
      refine V.lload_n (n := 2) dX5_calculate_5 rfl rfl ?_
      refine V.callVi (d' := 0) (as := [vL v2]) (st := []) dX5_calculate_6 meX5_put mlX5_95 imX5_put seX5_put clsX5 rfl (by omega) (Nat.le_of_ble_eq_true rfl) rfl rfl h (fun v hv => lift_X5_put hv) (fun w21 h => ?_)
      exact V.iret dX5_calculate_9 rfl h
  exact hh
def J_X5_evaluate_120 (k_50 : Option Nat → Option Nat → Int32 → Mem → Option (Int32 × Mem)) (v0 : Option Nat) (v2 : Option Nat) (v3 : Int32) (s0 : Int32) (M : Mem) : Option (Int32 × Mem) :=
  if s0 = (-1 : Int32) then
  (k_50 v0 v2 (v3 + 1) M)
  else
  (some (s0, M))
set_option maxRecDepth 20000 in
set_option maxHeartbeats 4000000 in
theorem lab_X5_evaluate_120 {G : Gt} {M0 M9 : Mem} {x9 : Int32} {k_50 : Option Nat → Option Nat → Int32 → Mem → Option (Int32 × Mem)} (hk_50 : ∀ (v0 : Option Nat) (v2 : Option Nat) (v3 : Int32) (Ma : Mem), k_50 v0 v2 v3 Ma = some (x9, M9) → V G mX5_evaluate 3 M0 (some (vI x9)) M9 Ma 50 [(0, vR v0), (2, vR v2), (3, vI v3)] []) {v0 : Option Nat} {v2 : Option Nat} {v3 : Int32} {s0 : Int32} {M : Mem} (h : J_X5_evaluate_120 k_50 v0 v2 v3 s0 M = some (x9, M9)) : V G mX5_evaluate 3 M0 (some (vI x9)) M9 M 120 [(0, vR v0), (2, vR v2), (3, vI v3)] [vI s0] := by
  unfold J_X5_evaluate_120 at h
  refine V.istore dX5_evaluate_120 (by decide) rfl rfl ?_
  refine V.iload (n := 0) dX5_evaluate_122 rfl rfl ?_
  refine V.iconst (x := (-1)) dX5_evaluate_124 (by decide) rfl ?_
  refine V.icmp_eq (q := 131) dX5_evaluate_125 (by decide) rfl h (fun h => ?_) (fun h => ?_)
  · refine V.iinc (n := 3) (x := v3 + 1) dX5_evaluate_131 rfl (by rfl) (by decide) rfl rfl ?_
    refine V.goto (q := 50) dX5_evaluate_134 (by decide) ?_
    exact V.sub [2, 3, 0] rfl (hk_50 _ _ _ _ h)
  · refine V.iload (n := 0) dX5_evaluate_128 rfl rfl ?_
    exact V.iret dX5_evaluate_130 rfl h
def J_X5_evaluate_50 : Nat → Option Nat → Option Nat → Int32 → Mem → Option (Int32 × Mem)
  | 0 => fun _ _ _ _ => none
  | n + 1 => fun v0 v2 v3 M =>
  (fR M 6 4 v2).bind fun x1 =>
  (aN M x1).bind fun x2 =>
  if x2 ≤ v3 then
  (some ((-2 : Int32), M))
  else
  ((fR M 6 4 v2).bind fun x3 =>
  (aI M 20 x3 v3).bind fun x4 =>
  if ¬ x4 = (20 : Int32) then
  (if ¬ x4 = (3 : Int32) then
  ((fR M 6 5 v2).bind fun x5 =>
  (aL M 21 x5 v3).bind fun x6 =>
  (ck M 5 v0).bind fun _ => (L_X5_calculate v0 x4 x6 M).bind fun w7 =>
  J_X5_evaluate_120 (J_X5_evaluate_50 n) v0 v2 v3 w7.1 w7.2)
  else
  ((fR M 6 5 v2).bind fun x8 =>
  (aL M 21 x8 v3).bind fun x9 =>
  (ck M 5 v0).bind fun _ => (L_X5_refer v0 x9 M).bind fun w10 =>
  J_X5_evaluate_120 (J_X5_evaluate_50 n) v0 v2 v3 w10.1 w10.2))
  else
  ((fI M 5 4 v0).bind fun x11 =>
  if ¬ x11 = (1 : Int32) then
  (some ((-2 : Int32), M))
  else
  (some ((-1 : Int32), M))))
set_option maxRecDepth 20000 in
set_option maxHeartbeats 4000000 in
theorem lab_X5_evaluate_50 {G : Gt} {M0 M9 : Mem} {x9 : Int32} : ∀ (n : Nat) (v0 : Option Nat) (v2 : Option Nat) (v3 : Int32) (M : Mem), J_X5_evaluate_50 n v0 v2 v3 M = some (x9, M9) → V G mX5_evaluate 3 M0 (some (vI x9)) M9 M 50 [(0, vR v0), (2, vR v2), (3, vI v3)] [] := by
  intro n
  induction n with
  | zero => intro v0 v2 v3 M h; exact nomatch h
  | succ n ih =>
    intro v0 v2 v3 M h
    unfold J_X5_evaluate_50 at h
    refine V.iload_n (n := 2) dX5_evaluate_50 rfl rfl ?_
    refine V.aload_n (n := 1) dX5_evaluate_51 rfl rfl ?_
    refine V.getR dX5_evaluate_52 lkX5_78 rfl rfl h (fun x1 h => ?_)
    refine V.alen dX5_evaluate_55 rfl h (fun x2 h => ?_)
    refine V.icmp_ge (q := 137) dX5_evaluate_56 (by decide) rfl h (fun h => ?_) (fun h => ?_)
    · refine V.bipush (x := (-2)) dX5_evaluate_137 (by decide) rfl ?_
      exact V.iret dX5_evaluate_139 rfl h
    · refine V.aload_n (n := 1) dX5_evaluate_59 rfl rfl ?_
      refine V.getR dX5_evaluate_60 lkX5_78 rfl rfl h (fun x3 h => ?_)
      refine V.iload_n (n := 2) dX5_evaluate_63 rfl rfl ?_
      refine V.iald dX5_evaluate_64 rfl h (fun x4 h => ?_)
      refine V.istore dX5_evaluate_65 (by decide) rfl rfl ?_
      refine V.iload (n := 0) dX5_evaluate_67 rfl rfl ?_
      refine V.bipush (x := 20) dX5_evaluate_69 (by decide) rfl ?_
      refine V.icmp_ne (q := 89) dX5_evaluate_71 (by decide) rfl h (fun h => ?_) (fun h => ?_)
      · refine V.iload (n := 0) dX5_evaluate_89 rfl rfl ?_
        refine V.iconst (x := 3) dX5_evaluate_91 (by decide) rfl ?_
        refine V.icmp_ne (q := 108) dX5_evaluate_92 (by decide) rfl h (fun h => ?_) (fun h => ?_)
        · refine V.aload_n (n := 1) dX5_evaluate_108 rfl rfl ?_
          refine V.iload (n := 0) dX5_evaluate_109 rfl rfl ?_
          refine V.aload_n (n := 2) dX5_evaluate_111 rfl rfl ?_
          refine V.getR dX5_evaluate_112 lkX5_81 rfl rfl h (fun x5 h => ?_)
          refine V.iload_n (n := 3) dX5_evaluate_115 rfl rfl ?_
          refine V.lald dX5_evaluate_116 rfl h (fun x6 h => ?_)
          refine V.callVi (d' := 2) (as := [vI x4, vL x6]) (st := []) dX5_evaluate_117 meX5_calculate mlX5_88 imX5_calculate seX5_calculate clsX5 rfl (by omega) (Nat.le_of_ble_eq_true rfl) rfl rfl h (fun v hv => lift_X5_calculate hv) (fun w7 h => ?_)
          exact V.sub [1, 2, 3] rfl (lab_X5_evaluate_120 ih h)
        · refine V.aload_n (n := 1) dX5_evaluate_95 rfl rfl ?_
          refine V.aload_n (n := 2) dX5_evaluate_96 rfl rfl ?_
          refine V.getR dX5_evaluate_97 lkX5_81 rfl rfl h (fun x8 h => ?_)
          refine V.iload_n (n := 3) dX5_evaluate_100 rfl rfl ?_
          refine V.lald dX5_evaluate_101 rfl h (fun x9 h => ?_)
          refine V.callVi (d' := 2) (as := [vL x9]) (st := []) dX5_evaluate_102 meX5_refer mlX5_84 imX5_refer seX5_refer clsX5 rfl (by omega) (Nat.le_of_ble_eq_true rfl) rfl rfl h (fun v hv => lift_X5_refer hv) (fun w10 h => ?_)
          refine V.goto (q := 120) dX5_evaluate_105 (by decide) ?_
          exact V.sub [1, 2, 3] rfl (lab_X5_evaluate_120 ih h)
      · refine V.aload_n (n := 1) dX5_evaluate_74 rfl rfl ?_
        refine V.getI dX5_evaluate_75 lkX5_75 rfl rfl h (fun x11 h => ?_)
        refine V.iconst (x := 1) dX5_evaluate_78 (by decide) rfl ?_
        refine V.icmp_ne (q := 86) dX5_evaluate_79 (by decide) rfl h (fun h => ?_) (fun h => ?_)
        · refine V.bipush (x := (-2)) dX5_evaluate_86 (by decide) rfl ?_
          exact V.iret dX5_evaluate_88 rfl h
        · refine V.iconst (x := (-1)) dX5_evaluate_82 (by decide) rfl ?_
          refine V.goto (q := 88) dX5_evaluate_83 (by decide) ?_
          exact V.iret dX5_evaluate_88 rfl h
def L_X5_evaluate (v0 : Option Nat) (v1 : Int32) (M : Mem) : Option (Int32 × Mem) :=
  (fR M 5 0 v0).bind fun x12 =>
  (fR M 1 1 x12).bind fun x13 =>
  if (8 : Int32) = 0 then none else
  (aR M 26 x13 (v1 / (8 : Int32))).bind fun x14 =>
  (fR M 8 0 x14).bind fun x15 =>
  if x15 = none then
  (some ((-2 : Int32), M))
  else
  (if (8 : Int32) = 0 then none else
  (fR M 6 7 x15).bind fun x16 =>
  (aN M x16).bind fun x17 =>
  if (v1 - v1 / (8 : Int32) * (8 : Int32)) < x17 then
  ((pI M 5 4 v0 (0 : Int32)).bind fun M18 =>
  (fR M18 6 7 x15).bind fun x19 =>
  if (8 : Int32) = 0 then none else
  (aI M18 20 x19 (v1 - v1 / (8 : Int32) * (8 : Int32))).bind fun x20 =>
  J_X5_evaluate_50 FU v0 x15 x20 M18)
  else
  (some ((-2 : Int32), M)))
set_option maxRecDepth 20000 in
set_option maxHeartbeats 4000000 in
theorem lift_X5_evaluate {G : Gt} {M M9 : Mem} {x9 : Int32} {v0 : Option Nat} {v1 : Int32} (h : L_X5_evaluate v0 v1 M = some (x9, M9)) : Mt G mX5_evaluate 3 [vR v0, vI v1] M (some (vI x9)) M9 := by
  unfold L_X5_evaluate at h
  refine Mt.of (by decide +kernel) (Nat.le_of_ble_eq_true rfl) ?_
  have hh : V G mX5_evaluate 3 M (some (vI x9)) M9 M 0 [(0, vR v0), (1, vI v1)] [] := by
    refine V.aload_n (n := 0) dX5_evaluate_0 rfl rfl ?_
    refine V.getR dX5_evaluate_1 lkX5_9 rfl rfl h (fun x12 h => ?_)
    refine V.getR dX5_evaluate_4 lkX5_23 rfl rfl h (fun x13 h => ?_)
    refine V.iload_n (n := 1) dX5_evaluate_7 rfl rfl ?_
    refine V.bipush (x := 8) dX5_evaluate_8 (by decide) rfl ?_
    refine V.idiv dX5_evaluate_10 h rfl (fun h => ?_)
    refine V.aald (k := 26) dX5_evaluate_11 (by decide) (by decide) rfl h (fun x14 h => ?_)
    refine V.getR dX5_evaluate_12 lkX5_29 rfl rfl h (fun x15 h => ?_)
    refine V.astore_n dX5_evaluate_15 rfl (by decide) rfl rfl ?_
    refine V.aload_n (n := 0) dX5_evaluate_16 rfl rfl ?_
    refine V.ifnull (q := 32) dX5_evaluate_17 (by decide) rfl h (fun h => ?_) (fun h => ?_)
    · refine V.bipush (x := (-2)) dX5_evaluate_32 (by decide) rfl ?_
      exact V.iret dX5_evaluate_34 rfl h
    · refine V.iload_n (n := 2) dX5_evaluate_20 rfl rfl ?_
      refine V.bipush (x := 8) dX5_evaluate_21 (by decide) rfl ?_
      refine V.irem dX5_evaluate_23 h rfl (fun h => ?_)
      refine V.aload_n (n := 0) dX5_evaluate_24 rfl rfl ?_
      refine V.getR dX5_evaluate_25 lkX5_72 rfl rfl h (fun x16 h => ?_)
      refine V.alen dX5_evaluate_28 rfl h (fun x17 h => ?_)
      refine V.icmp_lt (q := 35) dX5_evaluate_29 (by decide) rfl h (fun h => ?_) (fun h => ?_)
      · refine V.aload_n (n := 1) dX5_evaluate_35 rfl rfl ?_
        refine V.iconst (x := 0) dX5_evaluate_36 (by decide) rfl ?_
        refine V.putI dX5_evaluate_37 lkX5_75 (Or.inl rfl) rfl rfl h (fun M18 h => ?_)
        refine V.aload_n (n := 0) dX5_evaluate_40 rfl rfl ?_
        refine V.getR dX5_evaluate_41 lkX5_72 rfl rfl h (fun x19 h => ?_)
        refine V.iload_n (n := 2) dX5_evaluate_44 rfl rfl ?_
        refine V.bipush (x := 8) dX5_evaluate_45 (by decide) rfl ?_
        refine V.irem dX5_evaluate_47 h rfl (fun h => ?_)
        refine V.iald dX5_evaluate_48 rfl h (fun x20 h => ?_)
        refine V.istore_n dX5_evaluate_49 rfl (by decide) rfl rfl ?_
        exact V.sub [2, 1, 0] rfl (lab_X5_evaluate_50 FU _ _ _ _ h)
      · refine V.bipush (x := (-2)) dX5_evaluate_32 (by decide) rfl ?_
        exact V.iret dX5_evaluate_34 rfl h
  exact hh
def J_X5_loseOpen_2 : Nat → Option Nat → Int32 → Mem → Option (Unit × Mem)
  | 0 => fun _ _ _ => none
  | n + 1 => fun v0 v1 M =>
  (fI M 5 2 v0).bind fun x1 =>
  if x1 ≤ v1 then
  ((pI M 5 2 v0 (0 : Int32)).bind fun M2 =>
  some ((), M2))
  else
  ((fR M 5 1 v0).bind fun x3 =>
  (aI M 20 x3 v1).bind fun x4 =>
  (ck M 5 v0).bind fun _ => (L_X5_mark v0 x4 (3 : Int32) M).bind fun w5 =>
  J_X5_loseOpen_2 n v0 (v1 + 1) w5.2)
set_option maxRecDepth 20000 in
set_option maxHeartbeats 4000000 in
theorem lab_X5_loseOpen_2 {G : Gt} {M0 M9 : Mem} {x9 : Unit} : ∀ (n : Nat) (v0 : Option Nat) (v1 : Int32) (M : Mem), J_X5_loseOpen_2 n v0 v1 M = some (x9, M9) → V G mX5_loseOpen 1 M0 none M9 M 2 [(0, vR v0), (1, vI v1)] [] := by
  intro n
  induction n with
  | zero => intro v0 v1 M h; exact nomatch h
  | succ n ih =>
    intro v0 v1 M h
    unfold J_X5_loseOpen_2 at h
    refine V.iload_n (n := 1) dX5_loseOpen_2 rfl rfl ?_
    refine V.aload_n (n := 0) dX5_loseOpen_3 rfl rfl ?_
    refine V.getI dX5_loseOpen_4 lkX5_47 rfl rfl h (fun x1 h => ?_)
    refine V.icmp_ge (q := 27) dX5_loseOpen_7 (by decide) rfl h (fun h => ?_) (fun h => ?_)
    · refine V.aload_n (n := 0) dX5_loseOpen_27 rfl rfl ?_
      refine V.iconst (x := 0) dX5_loseOpen_28 (by decide) rfl ?_
      refine V.putI dX5_loseOpen_29 lkX5_47 (Or.inl rfl) rfl rfl h (fun M2 h => ?_)
      exact V.vret dX5_loseOpen_32 rfl h
    · refine V.aload_n (n := 0) dX5_loseOpen_10 rfl rfl ?_
      refine V.aload_n (n := 0) dX5_loseOpen_11 rfl rfl ?_
      refine V.getR dX5_loseOpen_12 lkX5_15 rfl rfl h (fun x3 h => ?_)
      refine V.iload_n (n := 1) dX5_loseOpen_15 rfl rfl ?_
      refine V.iald dX5_loseOpen_16 rfl h (fun x4 h => ?_)
      refine V.iconst (x := 3) dX5_loseOpen_17 (by decide) rfl ?_
      refine V.callVv (d' := 0) (as := [vI x4, vI (3 : Int32)]) (st := []) dX5_loseOpen_18 meX5_mark mlX5_62 imX5_mark seX5_mark clsX5 rfl (by omega) (Nat.le_of_ble_eq_true rfl) rfl rfl h (fun v hv => lift_X5_mark hv) (fun w5 h => ?_)
      refine V.iinc (n := 1) (x := v1 + 1) dX5_loseOpen_21 rfl (by rfl) (by decide) rfl rfl ?_
      refine V.goto (q := 2) dX5_loseOpen_24 (by decide) ?_
      exact V.sub [1, 0] rfl (ih _ _ _ h)
def L_X5_loseOpen (v0 : Option Nat) (M : Mem) : Option (Unit × Mem) :=
  J_X5_loseOpen_2 FU v0 (0 : Int32) M
set_option maxRecDepth 20000 in
set_option maxHeartbeats 4000000 in
theorem lift_X5_loseOpen {G : Gt} {M M9 : Mem} {x9 : Unit} {v0 : Option Nat} (h : L_X5_loseOpen v0 M = some (x9, M9)) : Mt G mX5_loseOpen 1 [vR v0] M none M9 := by
  unfold L_X5_loseOpen at h
  refine Mt.of (by decide +kernel) (Nat.le_of_ble_eq_true rfl) ?_
  have hh : V G mX5_loseOpen 1 M none M9 M 0 [(0, vR v0)] [] := by
    refine V.iconst (x := 0) dX5_loseOpen_0 (by decide) rfl ?_
    refine V.istore_n dX5_loseOpen_1 rfl (by decide) rfl rfl ?_
    exact V.sub [1, 0] rfl (lab_X5_loseOpen_2 FU _ _ _ h)
  exact hh
def J_X5_settle_125 (k_12 : Option Nat → Int32 → Mem → Option (Unit × Mem)) (v0 : Option Nat) (v2 : Int32) (M : Mem) : Option (Unit × Mem) :=
  k_12 v0 (v2 + 1) M
set_option maxRecDepth 20000 in
set_option maxHeartbeats 4000000 in
theorem lab_X5_settle_125 {G : Gt} {M0 M9 : Mem} {x9 : Unit} {k_12 : Option Nat → Int32 → Mem → Option (Unit × Mem)} (hk_12 : ∀ (v0 : Option Nat) (v2 : Int32) (Ma : Mem), k_12 v0 v2 Ma = some (x9, M9) → V G mX5_settle 4 M0 none M9 Ma 12 [(0, vR v0), (2, vI v2)] []) {v0 : Option Nat} {v2 : Int32} {M : Mem} (h : J_X5_settle_125 k_12 v0 v2 M = some (x9, M9)) : V G mX5_settle 4 M0 none M9 M 125 [(0, vR v0), (2, vI v2)] [] := by
  unfold J_X5_settle_125 at h
  refine V.iinc (n := 1) (x := v2 + 1) dX5_settle_125 rfl (by rfl) (by decide) rfl rfl ?_
  refine V.goto (q := 12) dX5_settle_128 (by decide) ?_
  exact V.sub [1, 0] rfl (hk_12 _ _ _ h)
def J_X5_settle_112 (k_12 : Option Nat → Int32 → Mem → Option (Unit × Mem)) (v0 : Option Nat) (v2 : Int32) (M : Mem) : Option (Unit × Mem) :=
  (ck M 5 v0).bind fun _ => (L_X5_loseOpen v0 M).bind fun w1 =>
  J_X5_settle_125 k_12 v0 v2 w1.2
set_option maxRecDepth 20000 in
set_option maxHeartbeats 4000000 in
theorem lab_X5_settle_112 {G : Gt} {M0 M9 : Mem} {x9 : Unit} {k_12 : Option Nat → Int32 → Mem → Option (Unit × Mem)} (hk_12 : ∀ (v0 : Option Nat) (v2 : Int32) (Ma : Mem), k_12 v0 v2 Ma = some (x9, M9) → V G mX5_settle 4 M0 none M9 Ma 12 [(0, vR v0), (2, vI v2)] []) {v0 : Option Nat} {v2 : Int32} {M : Mem} (h : J_X5_settle_112 k_12 v0 v2 M = some (x9, M9)) : V G mX5_settle 4 M0 none M9 M 112 [(0, vR v0), (2, vI v2)] [] := by
  unfold J_X5_settle_112 at h
  refine V.aload_n (n := 0) dX5_settle_112 rfl rfl ?_
  refine V.callVv (d' := 1) (as := []) (st := []) dX5_settle_113 meX5_loseOpen mlX5_69 imX5_loseOpen seX5_loseOpen clsX5 rfl (by omega) (Nat.le_of_ble_eq_true rfl) rfl rfl h (fun v hv => lift_X5_loseOpen hv) (fun w1 h => ?_)
  refine V.goto (q := 125) dX5_settle_116 (by decide) ?_
  exact (lab_X5_settle_125 hk_12 h)
def J_X5_settle_12 : Nat → Option Nat → Int32 → Mem → Option (Unit × Mem)
  | 0 => fun _ _ _ => none
  | n + 1 => fun v0 v2 M =>
  if (1000000 : Int32) ≤ v2 then
  (some ((), M))
  else
  ((fI M 5 2 v0).bind fun x2 =>
  if x2 ≤ 0 then
  (some ((), M))
  else
  ((fR M 5 1 v0).bind fun x3 =>
  (fI M 5 2 v0).bind fun x4 =>
  (aI M 20 x3 (x4 - (1 : Int32))).bind fun x5 =>
  (ck M 5 v0).bind fun _ => (L_X5_evaluate v0 x5 M).bind fun w6 =>
  if ¬ w6.1 = (-1 : Int32) then
  (if w6.1 = (-2 : Int32) then
  (J_X5_settle_112 (J_X5_settle_12 n) v0 v2 w6.2)
  else
  ((ck w6.2 5 v0).bind fun _ => (L_X5_markOf v0 w6.1 w6.2).bind fun w7 =>
  if ¬ w7.1 = (1 : Int32) then
  ((ck w7.2 5 v0).bind fun _ => (L_X5_push v0 w6.1 w7.2).bind fun w8 =>
  J_X5_settle_125 (J_X5_settle_12 n) v0 v2 w8.2)
  else
  (J_X5_settle_112 (J_X5_settle_12 n) v0 v2 w7.2)))
  else
  ((fR w6.2 5 0 v0).bind fun x9 =>
  (fR w6.2 1 1 x9).bind fun x10 =>
  if (8 : Int32) = 0 then none else
  (aR w6.2 26 x10 (x5 / (8 : Int32))).bind fun x11 =>
  (fR w6.2 8 6 x11).bind fun x12 =>
  if (8 : Int32) = 0 then none else
  (fR w6.2 5 3 v0).bind fun x13 =>
  (aL w6.2 21 x13 (0 : Int32)).bind fun x14 =>
  (uL w6.2 21 x12 (x5 - x5 / (8 : Int32) * (8 : Int32)) x14).bind fun M15 =>
  (ck M15 5 v0).bind fun _ => (L_X5_mark v0 x5 (2 : Int32) M15).bind fun w16 =>
  (fI w16.2 5 2 v0).bind fun x17 =>
  (pI w16.2 5 2 v0 (x17 - (1 : Int32))).bind fun M18 =>
  J_X5_settle_125 (J_X5_settle_12 n) v0 v2 M18)))
set_option maxRecDepth 20000 in
set_option maxHeartbeats 4000000 in
theorem lab_X5_settle_12 {G : Gt} {M0 M9 : Mem} {x9 : Unit} : ∀ (n : Nat) (v0 : Option Nat) (v2 : Int32) (M : Mem), J_X5_settle_12 n v0 v2 M = some (x9, M9) → V G mX5_settle 4 M0 none M9 M 12 [(0, vR v0), (2, vI v2)] [] := by
  intro n
  induction n with
  | zero => intro v0 v2 M h; exact nomatch h
  | succ n ih =>
    intro v0 v2 M h
    unfold J_X5_settle_12 at h
    refine V.iload_n (n := 1) dX5_settle_12 rfl rfl ?_
    refine V.ldc (x := (1000000)) dX5_settle_13 ciX5_54 rfl ?_
    refine V.icmp_ge (q := 131) dX5_settle_15 (by decide) rfl h (fun h => ?_) (fun h => ?_)
    · exact V.vret dX5_settle_131 rfl h
    · refine V.aload_n (n := 0) dX5_settle_18 rfl rfl ?_
      refine V.getI dX5_settle_19 lkX5_47 rfl rfl h (fun x2 h => ?_)
      refine V.if_le (q := 131) dX5_settle_22 (by decide) rfl h (fun h => ?_) (fun h => ?_)
      · exact V.vret dX5_settle_131 rfl h
      · refine V.aload_n (n := 0) dX5_settle_25 rfl rfl ?_
        refine V.getR dX5_settle_26 lkX5_15 rfl rfl h (fun x3 h => ?_)
        refine V.aload_n (n := 0) dX5_settle_29 rfl rfl ?_
        refine V.getI dX5_settle_30 lkX5_47 rfl rfl h (fun x4 h => ?_)
        refine V.iconst (x := 1) dX5_settle_33 (by decide) rfl ?_
        refine V.isub dX5_settle_34 rfl ?_
        refine V.iald dX5_settle_35 rfl h (fun x5 h => ?_)
        refine V.istore_n dX5_settle_36 rfl (by decide) rfl rfl ?_
        refine V.aload_n (n := 1) dX5_settle_37 rfl rfl ?_
        refine V.iload_n (n := 0) dX5_settle_38 rfl rfl ?_
        refine V.callVi (d' := 3) (as := [vI x5]) (st := []) dX5_settle_39 meX5_evaluate mlX5_55 imX5_evaluate seX5_evaluate clsX5 rfl (by omega) (Nat.le_of_ble_eq_true rfl) rfl rfl h (fun v hv => lift_X5_evaluate hv) (fun w6 h => ?_)
        refine V.istore dX5_settle_42 (by decide) rfl rfl ?_
        refine V.iload (n := 0) dX5_settle_44 rfl rfl ?_
        refine V.iconst (x := (-1)) dX5_settle_46 (by decide) rfl ?_
        refine V.icmp_ne (q := 95) dX5_settle_47 (by decide) rfl h (fun h => ?_) (fun h => ?_)
        · refine V.iload (n := 0) dX5_settle_95 rfl rfl ?_
          refine V.bipush (x := (-2)) dX5_settle_97 (by decide) rfl ?_
          refine V.icmp_eq (q := 112) dX5_settle_99 (by decide) rfl h (fun h => ?_) (fun h => ?_)
          · exact V.sub [2, 3] rfl (lab_X5_settle_112 ih h)
          · refine V.aload_n (n := 2) dX5_settle_102 rfl rfl ?_
            refine V.iload (n := 0) dX5_settle_103 rfl rfl ?_
            refine V.callVi (d' := 0) (as := [vI w6.1]) (st := []) dX5_settle_105 meX5_markOf mlX5_66 imX5_markOf seX5_markOf clsX5 rfl (by omega) (Nat.le_of_ble_eq_true rfl) rfl rfl h (fun v hv => lift_X5_markOf hv) (fun w7 h => ?_)
            refine V.iconst (x := 1) dX5_settle_108 (by decide) rfl ?_
            refine V.icmp_ne (q := 119) dX5_settle_109 (by decide) rfl h (fun h => ?_) (fun h => ?_)
            · refine V.aload_n (n := 2) dX5_settle_119 rfl rfl ?_
              refine V.iload (n := 0) dX5_settle_120 rfl rfl ?_
              refine V.callVv (d' := 1) (as := [vI w6.1]) (st := []) dX5_settle_122 meX5_push mlX5_51 imX5_push seX5_push clsX5 rfl (by omega) (Nat.le_of_ble_eq_true rfl) rfl rfl h (fun v hv => lift_X5_push hv) (fun w8 h => ?_)
              exact V.sub [2, 3] rfl (lab_X5_settle_125 ih h)
            · exact V.sub [2, 3] rfl (lab_X5_settle_112 ih h)
        · refine V.aload_n (n := 2) dX5_settle_50 rfl rfl ?_
          refine V.getR dX5_settle_51 lkX5_9 rfl rfl h (fun x9 h => ?_)
          refine V.getR dX5_settle_54 lkX5_23 rfl rfl h (fun x10 h => ?_)
          refine V.iload_n (n := 1) dX5_settle_57 rfl rfl ?_
          refine V.bipush (x := 8) dX5_settle_58 (by decide) rfl ?_
          refine V.idiv dX5_settle_60 h rfl (fun h => ?_)
          refine V.aald (k := 26) dX5_settle_61 (by decide) (by decide) rfl h (fun x11 h => ?_)
          refine V.getR dX5_settle_62 lkX5_59 rfl rfl h (fun x12 h => ?_)
          refine V.iload_n (n := 1) dX5_settle_65 rfl rfl ?_
          refine V.bipush (x := 8) dX5_settle_66 (by decide) rfl ?_
          refine V.irem dX5_settle_68 h rfl (fun h => ?_)
          refine V.aload_n (n := 2) dX5_settle_69 rfl rfl ?_
          refine V.getR dX5_settle_70 lkX5_19 rfl rfl h (fun x13 h => ?_)
          refine V.iconst (x := 0) dX5_settle_73 (by decide) rfl ?_
          refine V.lald dX5_settle_74 rfl h (fun x14 h => ?_)
          refine V.last dX5_settle_75 rfl h (fun M15 h => ?_)
          refine V.aload_n (n := 2) dX5_settle_76 rfl rfl ?_
          refine V.iload_n (n := 1) dX5_settle_77 rfl rfl ?_
          refine V.iconst (x := 2) dX5_settle_78 (by decide) rfl ?_
          refine V.callVv (d' := 0) (as := [vI x5, vI (2 : Int32)]) (st := []) dX5_settle_79 meX5_mark mlX5_62 imX5_mark seX5_mark clsX5 rfl (by omega) (Nat.le_of_ble_eq_true rfl) rfl rfl h (fun v hv => lift_X5_mark hv) (fun w16 h => ?_)
          refine V.aload_n (n := 2) dX5_settle_82 rfl rfl ?_
          refine V.dup dX5_settle_83 rfl rfl ?_
          refine V.getI dX5_settle_84 lkX5_47 rfl rfl h (fun x17 h => ?_)
          refine V.iconst (x := 1) dX5_settle_87 (by decide) rfl ?_
          refine V.isub dX5_settle_88 rfl ?_
          refine V.putI dX5_settle_89 lkX5_47 (Or.inl rfl) rfl rfl h (fun M18 h => ?_)
          refine V.goto (q := 125) dX5_settle_92 (by decide) ?_
          exact V.sub [2, 3] rfl (lab_X5_settle_125 ih h)
def L_X5_settle (v0 : Option Nat) (v1 : Int32) (M : Mem) : Option (Unit × Mem) :=
  (pI M 5 2 v0 (0 : Int32)).bind fun M19 =>
  (ck M19 5 v0).bind fun _ => (L_X5_push v0 v1 M19).bind fun w20 =>
  J_X5_settle_12 FU v0 (0 : Int32) w20.2
set_option maxRecDepth 20000 in
set_option maxHeartbeats 4000000 in
theorem lift_X5_settle {G : Gt} {M M9 : Mem} {x9 : Unit} {v0 : Option Nat} {v1 : Int32} (h : L_X5_settle v0 v1 M = some (x9, M9)) : Mt G mX5_settle 4 [vR v0, vI v1] M none M9 := by
  unfold L_X5_settle at h
  refine Mt.of (by decide +kernel) (Nat.le_of_ble_eq_true rfl) ?_
  have hh : V G mX5_settle 4 M none M9 M 0 [(0, vR v0), (1, vI v1)] [] := by
    refine V.aload_n (n := 0) dX5_settle_0 rfl rfl ?_
    refine V.iconst (x := 0) dX5_settle_1 (by decide) rfl ?_
    refine V.putI dX5_settle_2 lkX5_47 (Or.inl rfl) rfl rfl h (fun M19 h => ?_)
    refine V.aload_n (n := 0) dX5_settle_5 rfl rfl ?_
    refine V.iload_n (n := 1) dX5_settle_6 rfl rfl ?_
    refine V.callVv (d' := 1) (as := [vI v1]) (st := []) dX5_settle_7 meX5_push mlX5_51 imX5_push seX5_push clsX5 rfl (by omega) (Nat.le_of_ble_eq_true rfl) rfl rfl h (fun v hv => lift_X5_push hv) (fun w20 h => ?_)
    refine V.iconst (x := 0) dX5_settle_10 (by decide) rfl ?_
    refine V.istore_n dX5_settle_11 rfl (by decide) rfl rfl ?_
    exact V.sub [1, 0] rfl (lab_X5_settle_12 FU _ _ _ h)
  exact hh
def J_X5_settleAll_68 (k_2 : Option Nat → Int32 → Mem → Option (Unit × Mem)) (k_41 : Option Nat → Int32 → Option Nat → Int32 → Int32 → Mem → Option (Unit × Mem)) (v0 : Option Nat) (v1 : Int32) (v2 : Option Nat) (v3 : Int32) (v4 : Int32) (M : Mem) : Option (Unit × Mem) :=
  k_41 v0 v1 v2 v3 (v4 + 1) M
set_option maxRecDepth 20000 in
set_option maxHeartbeats 4000000 in
theorem lab_X5_settleAll_68 {G : Gt} {M0 M9 : Mem} {x9 : Unit} {k_2 : Option Nat → Int32 → Mem → Option (Unit × Mem)} {k_41 : Option Nat → Int32 → Option Nat → Int32 → Int32 → Mem → Option (Unit × Mem)} (hk_2 : ∀ (v0 : Option Nat) (v1 : Int32) (Ma : Mem), k_2 v0 v1 Ma = some (x9, M9) → V G mX5_settleAll 5 M0 none M9 Ma 2 [(0, vR v0), (1, vI v1)] []) (hk_41 : ∀ (v0 : Option Nat) (v1 : Int32) (v2 : Option Nat) (v3 : Int32) (v4 : Int32) (Ma : Mem), k_41 v0 v1 v2 v3 v4 Ma = some (x9, M9) → V G mX5_settleAll 5 M0 none M9 Ma 41 [(0, vR v0), (1, vI v1), (2, vR v2), (3, vI v3), (4, vI v4)] []) {v0 : Option Nat} {v1 : Int32} {v2 : Option Nat} {v3 : Int32} {v4 : Int32} {M : Mem} (h : J_X5_settleAll_68 k_2 k_41 v0 v1 v2 v3 v4 M = some (x9, M9)) : V G mX5_settleAll 5 M0 none M9 M 68 [(0, vR v0), (1, vI v1), (2, vR v2), (3, vI v3), (4, vI v4)] [] := by
  unfold J_X5_settleAll_68 at h
  refine V.iinc (n := 4) (x := v4 + 1) dX5_settleAll_68 rfl (by rfl) (by decide) rfl rfl ?_
  refine V.goto (q := 41) dX5_settleAll_71 (by decide) ?_
  exact V.sub [1, 2, 3, 4, 0] rfl (hk_41 _ _ _ _ _ _ h)
def J_X5_settleAll_41 (k_2 : Option Nat → Int32 → Mem → Option (Unit × Mem)) : Nat → Option Nat → Int32 → Option Nat → Int32 → Int32 → Mem → Option (Unit × Mem)
  | 0 => fun _ _ _ _ _ _ => none
  | n + 1 => fun v0 v1 v2 v3 v4 M =>
  if v3 ≤ v4 then
  (k_2 v0 (v1 + 1) M)
  else
  ((fR M 8 5 v2).bind fun x1 =>
  (aI M 20 x1 v4).bind fun x2 =>
  if ¬ x2 = 0 then
  (J_X5_settleAll_68 k_2 (J_X5_settleAll_41 k_2 n) v0 v1 v2 v3 v4 M)
  else
  ((ck M 5 v0).bind fun _ => (L_X5_settle v0 ((v1 * (8 : Int32)) + v4) M).bind fun w3 =>
  J_X5_settleAll_68 k_2 (J_X5_settleAll_41 k_2 n) v0 v1 v2 v3 v4 w3.2))
set_option maxRecDepth 20000 in
set_option maxHeartbeats 4000000 in
theorem lab_X5_settleAll_41 {G : Gt} {M0 M9 : Mem} {x9 : Unit} {k_2 : Option Nat → Int32 → Mem → Option (Unit × Mem)} (hk_2 : ∀ (v0 : Option Nat) (v1 : Int32) (Ma : Mem), k_2 v0 v1 Ma = some (x9, M9) → V G mX5_settleAll 5 M0 none M9 Ma 2 [(0, vR v0), (1, vI v1)] []) : ∀ (n : Nat) (v0 : Option Nat) (v1 : Int32) (v2 : Option Nat) (v3 : Int32) (v4 : Int32) (M : Mem), J_X5_settleAll_41 k_2 n v0 v1 v2 v3 v4 M = some (x9, M9) → V G mX5_settleAll 5 M0 none M9 M 41 [(0, vR v0), (1, vI v1), (2, vR v2), (3, vI v3), (4, vI v4)] [] := by
  intro n
  induction n with
  | zero => intro v0 v1 v2 v3 v4 M h; exact nomatch h
  | succ n ih =>
    intro v0 v1 v2 v3 v4 M h
    unfold J_X5_settleAll_41 at h
    refine V.iload (n := 4) dX5_settleAll_41 rfl rfl ?_
    refine V.iload_n (n := 3) dX5_settleAll_43 rfl rfl ?_
    refine V.icmp_ge (q := 74) dX5_settleAll_44 (by decide) rfl h (fun h => ?_) (fun h => ?_)
    · refine V.iinc (n := 1) (x := v1 + 1) dX5_settleAll_74 rfl (by rfl) (by decide) rfl rfl ?_
      refine V.goto (q := 2) dX5_settleAll_77 (by decide) ?_
      exact V.sub [1, 0] rfl (hk_2 _ _ _ h)
    · refine V.aload_n (n := 2) dX5_settleAll_47 rfl rfl ?_
      refine V.getR dX5_settleAll_48 lkX5_40 rfl rfl h (fun x1 h => ?_)
      refine V.iload (n := 4) dX5_settleAll_51 rfl rfl ?_
      refine V.iald dX5_settleAll_53 rfl h (fun x2 h => ?_)
      refine V.if_ne (q := 68) dX5_settleAll_54 (by decide) rfl h (fun h => ?_) (fun h => ?_)
      · exact (lab_X5_settleAll_68 hk_2 ih h)
      · refine V.aload_n (n := 0) dX5_settleAll_57 rfl rfl ?_
        refine V.iload_n (n := 1) dX5_settleAll_58 rfl rfl ?_
        refine V.bipush (x := 8) dX5_settleAll_59 (by decide) rfl ?_
        refine V.imul dX5_settleAll_61 rfl ?_
        refine V.iload (n := 4) dX5_settleAll_62 rfl rfl ?_
        refine V.iadd dX5_settleAll_64 rfl ?_
        refine V.callVv (d' := 4) (as := [vI ((v1 * (8 : Int32)) + v4)]) (st := []) dX5_settleAll_65 meX5_settle mlX5_43 imX5_settle seX5_settle clsX5 rfl (by omega) (Nat.le_of_ble_eq_true rfl) rfl rfl h (fun v hv => lift_X5_settle hv) (fun w3 h => ?_)
        exact (lab_X5_settleAll_68 hk_2 ih h)
def J_X5_settleAll_37 (k_2 : Option Nat → Int32 → Mem → Option (Unit × Mem)) (v0 : Option Nat) (v1 : Int32) (v2 : Option Nat) (s0 : Int32) (M : Mem) : Option (Unit × Mem) :=
  J_X5_settleAll_41 k_2 FU v0 v1 v2 s0 (0 : Int32) M
set_option maxRecDepth 20000 in
set_option maxHeartbeats 4000000 in
theorem lab_X5_settleAll_37 {G : Gt} {M0 M9 : Mem} {x9 : Unit} {k_2 : Option Nat → Int32 → Mem → Option (Unit × Mem)} (hk_2 : ∀ (v0 : Option Nat) (v1 : Int32) (Ma : Mem), k_2 v0 v1 Ma = some (x9, M9) → V G mX5_settleAll 5 M0 none M9 Ma 2 [(0, vR v0), (1, vI v1)] []) {v0 : Option Nat} {v1 : Int32} {v2 : Option Nat} {s0 : Int32} {M : Mem} (h : J_X5_settleAll_37 k_2 v0 v1 v2 s0 M = some (x9, M9)) : V G mX5_settleAll 5 M0 none M9 M 37 [(0, vR v0), (1, vI v1), (2, vR v2)] [vI s0] := by
  unfold J_X5_settleAll_37 at h
  refine V.istore_n dX5_settleAll_37 rfl (by decide) rfl rfl ?_
  refine V.iconst (x := 0) dX5_settleAll_38 (by decide) rfl ?_
  refine V.istore dX5_settleAll_39 (by decide) rfl rfl ?_
  exact V.sub [2, 3, 4, 1, 0] rfl (lab_X5_settleAll_41 hk_2 FU _ _ _ _ _ _ h)
def J_X5_settleAll_2 : Nat → Option Nat → Int32 → Mem → Option (Unit × Mem)
  | 0 => fun _ _ _ => none
  | n + 1 => fun v0 v1 M =>
  if (30 : Int32) ≤ v1 then
  (some ((), M))
  else
  ((fR M 5 0 v0).bind fun x4 =>
  (fR M 1 1 x4).bind fun x5 =>
  (aR M 26 x5 v1).bind fun x6 =>
  (fR M 8 0 x6).bind fun x7 =>
  if ¬ x7 = none then
  ((fR M 8 0 x6).bind fun x8 =>
  (fR M 6 6 x8).bind fun x9 =>
  (aN M x9).bind fun x10 =>
  J_X5_settleAll_37 (J_X5_settleAll_2 n) v0 v1 x6 x10 M)
  else
  (J_X5_settleAll_37 (J_X5_settleAll_2 n) v0 v1 x6 (0 : Int32) M))
set_option maxRecDepth 20000 in
set_option maxHeartbeats 4000000 in
theorem lab_X5_settleAll_2 {G : Gt} {M0 M9 : Mem} {x9 : Unit} : ∀ (n : Nat) (v0 : Option Nat) (v1 : Int32) (M : Mem), J_X5_settleAll_2 n v0 v1 M = some (x9, M9) → V G mX5_settleAll 5 M0 none M9 M 2 [(0, vR v0), (1, vI v1)] [] := by
  intro n
  induction n with
  | zero => intro v0 v1 M h; exact nomatch h
  | succ n ih =>
    intro v0 v1 M h
    unfold J_X5_settleAll_2 at h
    refine V.iload_n (n := 1) dX5_settleAll_2 rfl rfl ?_
    refine V.bipush (x := 30) dX5_settleAll_3 (by decide) rfl ?_
    refine V.icmp_ge (q := 80) dX5_settleAll_5 (by decide) rfl h (fun h => ?_) (fun h => ?_)
    · exact V.vret dX5_settleAll_80 rfl h
    · refine V.aload_n (n := 0) dX5_settleAll_8 rfl rfl ?_
      refine V.getR dX5_settleAll_9 lkX5_9 rfl rfl h (fun x4 h => ?_)
      refine V.getR dX5_settleAll_12 lkX5_23 rfl rfl h (fun x5 h => ?_)
      refine V.iload_n (n := 1) dX5_settleAll_15 rfl rfl ?_
      refine V.aald (k := 26) dX5_settleAll_16 (by decide) (by decide) rfl h (fun x6 h => ?_)
      refine V.astore_n dX5_settleAll_17 rfl (by decide) rfl rfl ?_
      refine V.aload_n (n := 0) dX5_settleAll_18 rfl rfl ?_
      refine V.getR dX5_settleAll_19 lkX5_29 rfl rfl h (fun x7 h => ?_)
      refine V.ifnonnull (q := 29) dX5_settleAll_22 (by decide) rfl h (fun h => ?_) (fun h => ?_)
      · refine V.aload_n (n := 0) dX5_settleAll_29 rfl rfl ?_
        refine V.getR dX5_settleAll_30 lkX5_29 rfl rfl h (fun x8 h => ?_)
        refine V.getR dX5_settleAll_33 lkX5_35 rfl rfl h (fun x9 h => ?_)
        refine V.alen dX5_settleAll_36 rfl h (fun x10 h => ?_)
        exact V.sub [1, 2, 0] rfl (lab_X5_settleAll_37 ih h)
      · refine V.iconst (x := 0) dX5_settleAll_25 (by decide) rfl ?_
        refine V.goto (q := 37) dX5_settleAll_26 (by decide) ?_
        exact V.sub [1, 2, 0] rfl (lab_X5_settleAll_37 ih h)
def L_X5_settleAll (v0 : Option Nat) (M : Mem) : Option (Unit × Mem) :=
  J_X5_settleAll_2 FU v0 (0 : Int32) M
set_option maxRecDepth 20000 in
set_option maxHeartbeats 4000000 in
theorem lift_X5_settleAll {G : Gt} {M M9 : Mem} {x9 : Unit} {v0 : Option Nat} (h : L_X5_settleAll v0 M = some (x9, M9)) : Mt G mX5_settleAll 5 [vR v0] M none M9 := by
  unfold L_X5_settleAll at h
  refine Mt.of (by decide +kernel) (Nat.le_of_ble_eq_true rfl) ?_
  have hh : V G mX5_settleAll 5 M none M9 M 0 [(0, vR v0)] [] := by
    refine V.iconst (x := 0) dX5_settleAll_0 (by decide) rfl ?_
    refine V.istore_n dX5_settleAll_1 rfl (by decide) rfl rfl ?_
    exact V.sub [1, 0] rfl (lab_X5_settleAll_2 FU _ _ _ h)
  exact hh
def J_X7_packedWords_53 (k_9 : Option Nat → Int32 → Int32 → Mem → Option (Option Nat × Mem)) (v0 : Option Nat) (v1 : Int32) (v2 : Int32) (M : Mem) : Option (Option Nat × Mem) :=
  k_9 v0 v1 (v2 + 1) M
set_option maxRecDepth 20000 in
set_option maxHeartbeats 4000000 in
theorem lab_X7_packedWords_53 {G : Gt} {M0 M9 : Mem} {x9 : Option Nat} {k_9 : Option Nat → Int32 → Int32 → Mem → Option (Option Nat × Mem)} (hk_9 : ∀ (v0 : Option Nat) (v1 : Int32) (v2 : Int32) (Ma : Mem), k_9 v0 v1 v2 Ma = some (x9, M9) → V G mX7_packedWords 9 M0 (some (vR x9)) M9 Ma 9 [(0, vR v0), (1, vI v1), (2, vI v2)] []) {v0 : Option Nat} {v1 : Int32} {v2 : Int32} {M : Mem} (h : J_X7_packedWords_53 k_9 v0 v1 v2 M = some (x9, M9)) : V G mX7_packedWords 9 M0 (some (vR x9)) M9 M 53 [(0, vR v0), (1, vI v1), (2, vI v2)] [] := by
  unfold J_X7_packedWords_53 at h
  refine V.iinc (n := 2) (x := v2 + 1) dX7_packedWords_53 rfl (by rfl) (by decide) rfl rfl ?_
  refine V.goto (q := 9) dX7_packedWords_56 (by decide) ?_
  exact V.sub [1, 2, 0] rfl (hk_9 _ _ _ _ h)
def J_X7_packedWords_9 : Nat → Option Nat → Int32 → Int32 → Mem → Option (Option Nat × Mem)
  | 0 => fun _ _ _ _ => none
  | n + 1 => fun v0 v1 v2 M =>
  if (61 : Int32) ≤ v2 then
  (some (v0, M))
  else
  (if (12 : Int32) ≤ v1 then
  (some (v0, M))
  else
  ((txAt v2).bind fun x1 =>
  if ¬ x1 = (32 : Int32) then
  ((aL M 21 v0 v1).bind fun x2 =>
  (L_X7_withLetter x2 x1 M).bind fun w3 =>
  (uL w3.2 21 v0 v1 w3.1).bind fun M4 =>
  J_X7_packedWords_53 (J_X7_packedWords_9 n) v0 v1 v2 M4)
  else
  (J_X7_packedWords_53 (J_X7_packedWords_9 n) v0 (v1 + 1) v2 M)))
set_option maxRecDepth 20000 in
set_option maxHeartbeats 4000000 in
theorem lab_X7_packedWords_9 {G : Gt} {M0 M9 : Mem} {x9 : Option Nat} : ∀ (n : Nat) (v0 : Option Nat) (v1 : Int32) (v2 : Int32) (M : Mem), J_X7_packedWords_9 n v0 v1 v2 M = some (x9, M9) → V G mX7_packedWords 9 M0 (some (vR x9)) M9 M 9 [(0, vR v0), (1, vI v1), (2, vI v2)] [] := by
  intro n
  induction n with
  | zero => intro v0 v1 v2 M h; exact nomatch h
  | succ n ih =>
    intro v0 v1 v2 M h
    unfold J_X7_packedWords_9 at h
    refine V.iload_n (n := 2) dX7_packedWords_9 rfl rfl ?_
    refine str_X7_packedWords_10 (Nat.le_of_ble_eq_true rfl) (by omega) ?_
    refine V.icmp_ge (q := 59) dX7_packedWords_15 (by decide) rfl h (fun h => ?_) (fun h => ?_)
    · refine V.aload_n (n := 0) dX7_packedWords_59 rfl rfl ?_
      exact V.aret dX7_packedWords_60 rfl (Or.inr ⟨_, rfl⟩) h
    · refine V.iload_n (n := 1) dX7_packedWords_18 rfl rfl ?_
      refine V.bipush (x := 12) dX7_packedWords_19 (by decide) rfl ?_
      refine V.icmp_ge (q := 59) dX7_packedWords_21 (by decide) rfl h (fun h => ?_) (fun h => ?_)
      · refine V.aload_n (n := 0) dX7_packedWords_59 rfl rfl ?_
        exact V.aret dX7_packedWords_60 rfl (Or.inr ⟨_, rfl⟩) h
      · refine str_X7_packedWords_24 (n := 2) rfl (Nat.le_of_ble_eq_true rfl) (by omega) h (fun x1 h => ?_)
        refine V.istore_n dX7_packedWords_30 rfl (by decide) rfl rfl ?_
        refine V.iload_n (n := 0) dX7_packedWords_31 rfl rfl ?_
        refine V.bipush (x := 32) dX7_packedWords_32 (by decide) rfl ?_
        refine V.icmp_ne (q := 43) dX7_packedWords_34 (by decide) rfl h (fun h => ?_) (fun h => ?_)
        · refine V.aload_n (n := 1) dX7_packedWords_43 rfl rfl ?_
          refine V.iload_n (n := 2) dX7_packedWords_44 rfl rfl ?_
          refine V.aload_n (n := 1) dX7_packedWords_45 rfl rfl ?_
          refine V.iload_n (n := 2) dX7_packedWords_46 rfl rfl ?_
          refine V.lald dX7_packedWords_47 rfl h (fun x2 h => ?_)
          refine V.iload_n (n := 0) dX7_packedWords_48 rfl rfl ?_
          refine V.callSl (d' := 0) (as := [vL x2, vI x1]) (st := [vI v1, vR v0]) dX7_packedWords_49 meX7_withLetter mlX7_52 smX7_withLetter rfl (by omega) (Nat.le_of_ble_eq_true rfl) rfl rfl h (fun v hv => lift_X7_withLetter hv) (fun w3 h => ?_)
          refine V.last dX7_packedWords_52 rfl h (fun M4 h => ?_)
          exact V.sub [1, 2, 3] rfl (lab_X7_packedWords_53 ih h)
        · refine V.iinc (n := 2) (x := v1 + 1) dX7_packedWords_37 rfl (by rfl) (by decide) rfl rfl ?_
          refine V.goto (q := 53) dX7_packedWords_40 (by decide) ?_
          exact V.sub [2, 0, 3] rfl (lab_X7_packedWords_53 ih h)
def L_X7_packedWords  (M : Mem) : Option (Option Nat × Mem) :=
  (nA M 21 (12 : Int32)).bind fun M5 =>
  J_X7_packedWords_9 FU (some (nc M)) (0 : Int32) (0 : Int32) M5
set_option maxRecDepth 20000 in
set_option maxHeartbeats 4000000 in
theorem lift_X7_packedWords {G : Gt} {M M9 : Mem} {x9 : Option Nat} (h : L_X7_packedWords  M = some (x9, M9)) : Mt G mX7_packedWords 9 [] M (some (vR x9)) M9 := by
  unfold L_X7_packedWords at h
  refine Mt.of (by decide +kernel) (Nat.le_of_ble_eq_true rfl) ?_
  have hh : V G mX7_packedWords 9 M (some (vR x9)) M9 M 0 [] [] := by
    refine V.bipush (x := 12) dX7_packedWords_0 (by decide) rfl ?_
    refine V.newa (k := 21) dX7_packedWords_2 rfl ac21 (by decide) (by decide) rfl h (fun M5 h => ?_)
    refine V.astore_n dX7_packedWords_4 rfl (by decide) rfl rfl ?_
    refine V.iconst (x := 0) dX7_packedWords_5 (by decide) rfl ?_
    refine V.istore_n dX7_packedWords_6 rfl (by decide) rfl rfl ?_
    refine V.iconst (x := 0) dX7_packedWords_7 (by decide) rfl ?_
    refine V.istore_n dX7_packedWords_8 rfl (by decide) rfl rfl ?_
    exact V.sub [2, 1, 0] rfl (lab_X7_packedWords_9 FU _ _ _ _ h)
  exact hh
def L_X7_init (v0 : Option Nat) (M : Mem) : Option (Unit × Mem) :=
  if v0 = none then none else
  (nA M 22 (900 : Int32)).bind fun M1 =>
  (pR M1 7 0 v0 (some (nc M))).bind fun M2 =>
  (nA M2 20 (901 : Int32)).bind fun M3 =>
  (pR M3 7 2 v0 (some (nc M2))).bind fun M4 =>
  (nA M4 20 (901 : Int32)).bind fun M5 =>
  (pR M5 7 3 v0 (some (nc M4))).bind fun M6 =>
  (nA M6 21 (901 : Int32)).bind fun M7 =>
  (pR M7 7 4 v0 (some (nc M6))).bind fun M8 =>
  (L_X7_packedWords M8).bind fun w9 =>
  (pR w9.2 7 6 v0 w9.1).bind fun M10 =>
  (pI M10 7 1 v0 (0 : Int32)).bind fun M11 =>
  (pI M11 7 5 v0 (0 : Int32)).bind fun M12 =>
  some ((), M12)
set_option maxRecDepth 20000 in
set_option maxHeartbeats 4000000 in
theorem lift_X7_init {G : Gt} {M M9 : Mem} {x9 : Unit} {v0 : Option Nat} (h : L_X7_init v0 M = some (x9, M9)) : Mt G mX7_init 10 [vR v0] M none M9 := by
  unfold L_X7_init at h
  refine Mt.of (by decide +kernel) (Nat.le_of_ble_eq_true rfl) ?_
  have hh : V G mX7_init 10 M none M9 M 0 [(0, vR v0)] [] := by
    refine V.aload_n (n := 0) dX7_init_0 rfl rfl ?_
    refine V.objInitR dX7_init_1 oiX7_3 oim oic (by omega) rfl h (fun h => ?_)
    refine V.aload_n (n := 0) dX7_init_4 rfl rfl ?_
    refine V.sipush (x := 900) dX7_init_5 (by decide) rfl ?_
    refine V.newa (k := 22) dX7_init_8 rfl ac22 (by decide) (by decide) rfl h (fun M1 h => ?_)
    refine V.putR dX7_init_10 lkX7_9 (Or.inr ⟨rfl, rfl⟩) rfl rfl h (fun M2 h => ?_)
    refine V.aload_n (n := 0) dX7_init_13 rfl rfl ?_
    refine V.sipush (x := 901) dX7_init_14 (by decide) rfl ?_
    refine V.newa (k := 20) dX7_init_17 rfl ac20 (by decide) (by decide) rfl h (fun M3 h => ?_)
    refine V.putR dX7_init_19 lkX7_15 (Or.inr ⟨rfl, rfl⟩) rfl rfl h (fun M4 h => ?_)
    refine V.aload_n (n := 0) dX7_init_22 rfl rfl ?_
    refine V.sipush (x := 901) dX7_init_23 (by decide) rfl ?_
    refine V.newa (k := 20) dX7_init_26 rfl ac20 (by decide) (by decide) rfl h (fun M5 h => ?_)
    refine V.putR dX7_init_28 lkX7_19 (Or.inr ⟨rfl, rfl⟩) rfl rfl h (fun M6 h => ?_)
    refine V.aload_n (n := 0) dX7_init_31 rfl rfl ?_
    refine V.sipush (x := 901) dX7_init_32 (by decide) rfl ?_
    refine V.newa (k := 21) dX7_init_35 rfl ac21 (by decide) (by decide) rfl h (fun M7 h => ?_)
    refine V.putR dX7_init_37 lkX7_22 (Or.inr ⟨rfl, rfl⟩) rfl rfl h (fun M8 h => ?_)
    refine V.aload_n (n := 0) dX7_init_40 rfl rfl ?_
    refine V.callSr (d' := 9) (as := []) (st := [vR v0]) dX7_init_41 meX7_packedWords mlX7_26 smX7_packedWords rfl (by omega) (Nat.le_of_ble_eq_true rfl) rfl rfl h (fun v hv => lift_X7_packedWords hv) (fun w9 h => ?_)
    refine V.putR dX7_init_44 lkX7_30 (Or.inr ⟨rfl, rfl⟩) rfl rfl h (fun M10 h => ?_)
    refine V.aload_n (n := 0) dX7_init_47 rfl rfl ?_
    refine V.iconst (x := 0) dX7_init_48 (by decide) rfl ?_
    refine V.putI dX7_init_49 lkX7_33 (Or.inl rfl) rfl rfl h (fun M11 h => ?_)
    refine V.aload_n (n := 0) dX7_init_52 rfl rfl ?_
    refine V.iconst (x := 0) dX7_init_53 (by decide) rfl ?_
    refine V.putI dX7_init_54 lkX7_37 (Or.inl rfl) rfl rfl h (fun M12 h => ?_)
    exact V.vret dX7_init_57 rfl h
  exact hh
def J_X7_put_3 : Nat → Option Nat → Int32 → Int32 → Mem → Option (Unit × Mem)
  | 0 => fun _ _ _ _ => none
  | n + 1 => fun v0 v1 v2 M =>
  if v2 < 0 then
  (some ((), M))
  else
  ((fI M 7 1 v0).bind fun x1 =>
  (fR M 7 0 v0).bind fun x2 =>
  (aN M x2).bind fun x3 =>
  if x3 ≤ x1 then
  (some ((), M))
  else
  ((fR M 7 0 v0).bind fun x4 =>
  (fI M 7 1 v0).bind fun x5 =>
  (uN M 22 x4 x5 (((((v1.toUInt32 >>> (v2.toUInt32 &&& Int32.toUInt32 31)).toInt32) &&& (255 : Int32)).toUInt32 % 65536).toInt32)).bind fun M6 =>
  (fI M6 7 1 v0).bind fun x7 =>
  (pI M6 7 1 v0 (x7 + (1 : Int32))).bind fun M8 =>
  J_X7_put_3 n v0 v1 (v2 + (-8)) M8))
set_option maxRecDepth 20000 in
set_option maxHeartbeats 4000000 in
theorem lab_X7_put_3 {G : Gt} {M0 M9 : Mem} {x9 : Unit} : ∀ (n : Nat) (v0 : Option Nat) (v1 : Int32) (v2 : Int32) (M : Mem), J_X7_put_3 n v0 v1 v2 M = some (x9, M9) → V G mX7_put 0 M0 none M9 M 3 [(0, vR v0), (1, vI v1), (2, vI v2)] [] := by
  intro n
  induction n with
  | zero => intro v0 v1 v2 M h; exact nomatch h
  | succ n ih =>
    intro v0 v1 v2 M h
    unfold J_X7_put_3 at h
    refine V.iload_n (n := 2) dX7_put_3 rfl rfl ?_
    refine V.if_lt (q := 52) dX7_put_4 (by decide) rfl h (fun h => ?_) (fun h => ?_)
    · exact V.vret dX7_put_52 rfl h
    · refine V.aload_n (n := 0) dX7_put_7 rfl rfl ?_
      refine V.getI dX7_put_8 lkX7_33 rfl rfl h (fun x1 h => ?_)
      refine V.aload_n (n := 0) dX7_put_11 rfl rfl ?_
      refine V.getR dX7_put_12 lkX7_9 rfl rfl h (fun x2 h => ?_)
      refine V.alen dX7_put_15 rfl h (fun x3 h => ?_)
      refine V.icmp_ge (q := 52) dX7_put_16 (by decide) rfl h (fun h => ?_) (fun h => ?_)
      · exact V.vret dX7_put_52 rfl h
      · refine V.aload_n (n := 0) dX7_put_19 rfl rfl ?_
        refine V.getR dX7_put_20 lkX7_9 rfl rfl h (fun x4 h => ?_)
        refine V.aload_n (n := 0) dX7_put_23 rfl rfl ?_
        refine V.getI dX7_put_24 lkX7_33 rfl rfl h (fun x5 h => ?_)
        refine V.iload_n (n := 1) dX7_put_27 rfl rfl ?_
        refine V.iload_n (n := 2) dX7_put_28 rfl rfl ?_
        refine V.iushr dX7_put_29 rfl ?_
        refine V.sipush (x := 255) dX7_put_30 (by decide) rfl ?_
        refine V.iand dX7_put_33 rfl ?_
        refine V.i2c dX7_put_34 rfl ?_
        refine V.cast dX7_put_35 rfl h (fun M6 h => ?_)
        refine V.aload_n (n := 0) dX7_put_36 rfl rfl ?_
        refine V.dup dX7_put_37 rfl rfl ?_
        refine V.getI dX7_put_38 lkX7_33 rfl rfl h (fun x7 h => ?_)
        refine V.iconst (x := 1) dX7_put_41 (by decide) rfl ?_
        refine V.iadd dX7_put_42 rfl ?_
        refine V.putI dX7_put_43 lkX7_33 (Or.inl rfl) rfl rfl h (fun M8 h => ?_)
        refine V.iinc (n := 2) (x := v2 + (-8)) dX7_put_46 rfl (by rfl) (by decide) rfl rfl ?_
        refine V.goto (q := 3) dX7_put_49 (by decide) ?_
        exact V.sub [1, 2, 0] rfl (ih _ _ _ _ h)
def L_X7_put (v0 : Option Nat) (v1 : Int32) (M : Mem) : Option (Unit × Mem) :=
  J_X7_put_3 FU v0 v1 (24 : Int32) M
set_option maxRecDepth 20000 in
set_option maxHeartbeats 4000000 in
theorem lift_X7_put {G : Gt} {M M9 : Mem} {x9 : Unit} {v0 : Option Nat} {v1 : Int32} (h : L_X7_put v0 v1 M = some (x9, M9)) : Mt G mX7_put 0 [vR v0, vI v1] M none M9 := by
  unfold L_X7_put at h
  refine Mt.of (by decide +kernel) (Nat.le_of_ble_eq_true rfl) ?_
  have hh : V G mX7_put 0 M none M9 M 0 [(0, vR v0), (1, vI v1)] [] := by
    refine V.bipush (x := 24) dX7_put_0 (by decide) rfl ?_
    refine V.istore_n dX7_put_2 rfl (by decide) rfl rfl ?_
    exact V.sub [1, 2, 0] rfl (lab_X7_put_3 FU _ _ _ _ h)
  exact hh
def L_X9_init (v0 : Option Nat) (v1 : Int32) (v2 : Int32) (M : Mem) : Option (Unit × Mem) :=
  if v0 = none then none else
  (pI M 9 0 v0 v1).bind fun M1 =>
  (pI M1 9 1 v0 v2).bind fun M2 =>
  (nA M2 20 (8 : Int32)).bind fun M3 =>
  (pR M3 9 3 v0 (some (nc M2))).bind fun M4 =>
  (nA M4 20 (8 : Int32)).bind fun M5 =>
  (pR M5 9 4 v0 (some (nc M4))).bind fun M6 =>
  (nA M6 20 (8 : Int32)).bind fun M7 =>
  (pR M7 9 5 v0 (some (nc M6))).bind fun M8 =>
  (nA M8 21 (8 : Int32)).bind fun M9 =>
  (pR M9 9 6 v0 (some (nc M8))).bind fun M10 =>
  some ((), M10)
set_option maxRecDepth 20000 in
set_option maxHeartbeats 4000000 in
theorem lift_X9_init {G : Gt} {M M9 : Mem} {x9 : Unit} {v0 : Option Nat} {v1 : Int32} {v2 : Int32} (h : L_X9_init v0 v1 v2 M = some (x9, M9)) : Mt G mX9_init 1 [vR v0, vI v1, vI v2] M none M9 := by
  unfold L_X9_init at h
  refine Mt.of (by decide +kernel) (Nat.le_of_ble_eq_true rfl) ?_
  have hh : V G mX9_init 1 M none M9 M 0 [(0, vR v0), (1, vI v1), (2, vI v2)] [] := by
    refine V.aload_n (n := 0) dX9_init_0 rfl rfl ?_
    refine V.objInitR dX9_init_1 oiX9_3 oim oic (by omega) rfl h (fun h => ?_)
    refine V.aload_n (n := 0) dX9_init_4 rfl rfl ?_
    refine V.iload_n (n := 1) dX9_init_5 rfl rfl ?_
    refine V.putI dX9_init_6 lkX9_9 (Or.inr ⟨rfl, rfl⟩) rfl rfl h (fun M1 h => ?_)
    refine V.aload_n (n := 0) dX9_init_9 rfl rfl ?_
    refine V.iload_n (n := 2) dX9_init_10 rfl rfl ?_
    refine V.putI dX9_init_11 lkX9_15 (Or.inr ⟨rfl, rfl⟩) rfl rfl h (fun M2 h => ?_)
    refine V.aload_n (n := 0) dX9_init_14 rfl rfl ?_
    refine V.bipush (x := 8) dX9_init_15 (by decide) rfl ?_
    refine V.newa (k := 20) dX9_init_17 rfl ac20 (by decide) (by decide) rfl h (fun M3 h => ?_)
    refine V.putR dX9_init_19 lkX9_18 (Or.inr ⟨rfl, rfl⟩) rfl rfl h (fun M4 h => ?_)
    refine V.aload_n (n := 0) dX9_init_22 rfl rfl ?_
    refine V.bipush (x := 8) dX9_init_23 (by decide) rfl ?_
    refine V.newa (k := 20) dX9_init_25 rfl ac20 (by decide) (by decide) rfl h (fun M5 h => ?_)
    refine V.putR dX9_init_27 lkX9_22 (Or.inr ⟨rfl, rfl⟩) rfl rfl h (fun M6 h => ?_)
    refine V.aload_n (n := 0) dX9_init_30 rfl rfl ?_
    refine V.bipush (x := 8) dX9_init_31 (by decide) rfl ?_
    refine V.newa (k := 20) dX9_init_33 rfl ac20 (by decide) (by decide) rfl h (fun M7 h => ?_)
    refine V.putR dX9_init_35 lkX9_25 (Or.inr ⟨rfl, rfl⟩) rfl rfl h (fun M8 h => ?_)
    refine V.aload_n (n := 0) dX9_init_38 rfl rfl ?_
    refine V.bipush (x := 8) dX9_init_39 (by decide) rfl ?_
    refine V.newa (k := 21) dX9_init_41 rfl ac21 (by decide) (by decide) rfl h (fun M9 h => ?_)
    refine V.putR dX9_init_43 lkX9_28 (Or.inr ⟨rfl, rfl⟩) rfl rfl h (fun M10 h => ?_)
    exact V.vret dX9_init_46 rfl h
  exact hh
def L_X9_addLock (v0 : Option Nat) (v1 : Int32) (v2 : Int32) (v3 : Int32) (M : Mem) : Option (Unit × Mem) :=
  (fI M 9 2 v0).bind fun x1 =>
  if (8 : Int32) ≤ x1 then
  (some ((), M))
  else
  ((fR M 9 3 v0).bind fun x2 =>
  (fI M 9 2 v0).bind fun x3 =>
  (uI M 20 x2 x3 v1).bind fun M4 =>
  (fR M4 9 4 v0).bind fun x5 =>
  (fI M4 9 2 v0).bind fun x6 =>
  (uI M4 20 x5 x6 v2).bind fun M7 =>
  (fR M7 9 5 v0).bind fun x8 =>
  (fI M7 9 2 v0).bind fun x9 =>
  (uI M7 20 x8 x9 v3).bind fun M10 =>
  (fI M10 9 2 v0).bind fun x11 =>
  (pI M10 9 2 v0 (x11 + (1 : Int32))).bind fun M12 =>
  some ((), M12))
set_option maxRecDepth 20000 in
set_option maxHeartbeats 4000000 in
theorem lift_X9_addLock {G : Gt} {M M9 : Mem} {x9 : Unit} {v0 : Option Nat} {v1 : Int32} {v2 : Int32} {v3 : Int32} (h : L_X9_addLock v0 v1 v2 v3 M = some (x9, M9)) : Mt G mX9_addLock 0 [vR v0, vI v1, vI v2, vI v3] M none M9 := by
  unfold L_X9_addLock at h
  refine Mt.of (by decide +kernel) (Nat.le_of_ble_eq_true rfl) ?_
  have hh : V G mX9_addLock 0 M none M9 M 0 [(0, vR v0), (1, vI v1), (2, vI v2), (3, vI v3)] [] := by
    refine V.aload_n (n := 0) dX9_addLock_0 rfl rfl ?_
    refine V.getI dX9_addLock_1 lkX9_32 rfl rfl h (fun x1 h => ?_)
    refine V.bipush (x := 8) dX9_addLock_4 (by decide) rfl ?_
    refine V.icmp_ge (q := 49) dX9_addLock_6 (by decide) rfl h (fun h => ?_) (fun h => ?_)
    · exact V.vret dX9_addLock_49 rfl h
    · refine V.aload_n (n := 0) dX9_addLock_9 rfl rfl ?_
      refine V.getR dX9_addLock_10 lkX9_18 rfl rfl h (fun x2 h => ?_)
      refine V.aload_n (n := 0) dX9_addLock_13 rfl rfl ?_
      refine V.getI dX9_addLock_14 lkX9_32 rfl rfl h (fun x3 h => ?_)
      refine V.iload_n (n := 1) dX9_addLock_17 rfl rfl ?_
      refine V.iast dX9_addLock_18 rfl h (fun M4 h => ?_)
      refine V.aload_n (n := 0) dX9_addLock_19 rfl rfl ?_
      refine V.getR dX9_addLock_20 lkX9_22 rfl rfl h (fun x5 h => ?_)
      refine V.aload_n (n := 0) dX9_addLock_23 rfl rfl ?_
      refine V.getI dX9_addLock_24 lkX9_32 rfl rfl h (fun x6 h => ?_)
      refine V.iload_n (n := 2) dX9_addLock_27 rfl rfl ?_
      refine V.iast dX9_addLock_28 rfl h (fun M7 h => ?_)
      refine V.aload_n (n := 0) dX9_addLock_29 rfl rfl ?_
      refine V.getR dX9_addLock_30 lkX9_25 rfl rfl h (fun x8 h => ?_)
      refine V.aload_n (n := 0) dX9_addLock_33 rfl rfl ?_
      refine V.getI dX9_addLock_34 lkX9_32 rfl rfl h (fun x9 h => ?_)
      refine V.iload_n (n := 3) dX9_addLock_37 rfl rfl ?_
      refine V.iast dX9_addLock_38 rfl h (fun M10 h => ?_)
      refine V.aload_n (n := 0) dX9_addLock_39 rfl rfl ?_
      refine V.dup dX9_addLock_40 rfl rfl ?_
      refine V.getI dX9_addLock_41 lkX9_32 rfl rfl h (fun x11 h => ?_)
      refine V.iconst (x := 1) dX9_addLock_44 (by decide) rfl ?_
      refine V.iadd dX9_addLock_45 rfl ?_
      refine V.putI dX9_addLock_46 lkX9_32 (Or.inl rfl) rfl rfl h (fun M12 h => ?_)
      exact V.vret dX9_addLock_49 rfl h
  exact hh
def L_X10_init (v0 : Option Nat) (M : Mem) : Option (Unit × Mem) :=
  if v0 = none then none else
  (L_X7_init (some (nc M)) (nw M 7 0 7)).bind fun w1 =>
  (pR w1.2 10 0 v0 (some (nc M))).bind fun M2 =>
  (fR (nw M2 4 0 8) 10 0 v0).bind fun x3 =>
  (L_X4_init (some (nc M2)) x3 (nw M2 4 0 8)).bind fun w4 =>
  (pR w4.2 10 1 v0 (some (nc M2))).bind fun M5 =>
  (L_X1_init (some (nc M5)) (nw M5 1 0 4)).bind fun w6 =>
  (pR w6.2 10 2 v0 (some (nc M5))).bind fun M7 =>
  (fR (nw M7 5 0 5) 10 2 v0).bind fun x8 =>
  (L_X5_init (some (nc M7)) x8 (nw M7 5 0 5)).bind fun w9 =>
  (pR w9.2 10 3 v0 (some (nc M7))).bind fun M10 =>
  (fR (nw M10 3 0 9) 10 2 v0).bind fun x11 =>
  (L_X3_init (some (nc M10)) x11 (nw M10 3 0 9)).bind fun w12 =>
  (pR w12.2 10 4 v0 (some (nc M10))).bind fun M13 =>
  (nA M13 28 (20 : Int32)).bind fun M14 =>
  (pR M14 10 5 v0 (some (nc M13))).bind fun M15 =>
  (pI M15 10 6 v0 (0 : Int32)).bind fun M16 =>
  (pI M16 10 7 v0 (0 : Int32)).bind fun M17 =>
  (pI M17 10 8 v0 (0 : Int32)).bind fun M18 =>
  some ((), M18)
set_option maxRecDepth 20000 in
set_option maxHeartbeats 4000000 in
theorem lift_X10_init {G : Gt} {M M9 : Mem} {x9 : Unit} {v0 : Option Nat} (h : L_X10_init v0 M = some (x9, M9)) : Mt G mX10_init 11 [vR v0] M none M9 := by
  unfold L_X10_init at h
  refine Mt.of (by decide +kernel) (Nat.le_of_ble_eq_true rfl) ?_
  have hh : V G mX10_init 11 M none M9 M 0 [(0, vR v0)] [] := by
    refine V.aload_n (n := 0) dX10_init_0 rfl rfl ?_
    refine V.objInitR dX10_init_1 oiX10_3 oim oic (by omega) rfl h (fun h => ?_)
    refine V.aload_n (n := 0) dX10_init_4 rfl rfl ?_
    refine V.new dX10_init_5 clsX7 cdX10_9 inX7 iiX7 rfl ?_
    refine V.dup dX10_init_8 rfl rfl ?_
    refine V.callI (d' := 10) (a := (nc M)) (as := []) (st := [vR (some (nc M)), vR v0]) dX10_init_9 meX7_init rfl rfl mlX10_11 imX7_init rfl (by omega) (Nat.le_of_ble_eq_true rfl) rfl rfl h (fun v hv => lift_X7_init hv) (fun w1 h => ?_)
    refine V.putR dX10_init_12 lkX10_12 (Or.inr ⟨rfl, rfl⟩) rfl rfl h (fun M2 h => ?_)
    refine V.aload_n (n := 0) dX10_init_15 rfl rfl ?_
    refine V.new dX10_init_16 clsX4 cdX10_16 inX4 iiX4 rfl ?_
    refine V.dup dX10_init_19 rfl rfl ?_
    refine V.aload_n (n := 0) dX10_init_20 rfl rfl ?_
    refine V.getR dX10_init_21 lkX10_12 rfl rfl h (fun x3 h => ?_)
    refine V.callI (d' := 2) (a := (nc M2)) (as := [vR x3]) (st := [vR (some (nc M2)), vR v0]) dX10_init_24 meX4_init rfl rfl mlX10_18 imX4_init rfl (by omega) (Nat.le_of_ble_eq_true rfl) rfl rfl h (fun v hv => lift_X4_init hv) (fun w4 h => ?_)
    refine V.putR dX10_init_27 lkX10_21 (Or.inr ⟨rfl, rfl⟩) rfl rfl h (fun M5 h => ?_)
    refine V.aload_n (n := 0) dX10_init_30 rfl rfl ?_
    refine V.new dX10_init_31 clsX1 cdX10_25 inX1 iiX1 rfl ?_
    refine V.dup dX10_init_34 rfl rfl ?_
    refine V.callI (d' := 2) (a := (nc M5)) (as := []) (st := [vR (some (nc M5)), vR v0]) dX10_init_35 meX1_init rfl rfl mlX10_27 imX1_init rfl (by omega) (Nat.le_of_ble_eq_true rfl) rfl rfl h (fun v hv => lift_X1_init hv) (fun w6 h => ?_)
    refine V.putR dX10_init_38 lkX10_28 (Or.inr ⟨rfl, rfl⟩) rfl rfl h (fun M7 h => ?_)
    refine V.aload_n (n := 0) dX10_init_41 rfl rfl ?_
    refine V.new dX10_init_42 clsX5 cdX10_32 inX5 iiX5 rfl ?_
    refine V.dup dX10_init_45 rfl rfl ?_
    refine V.aload_n (n := 0) dX10_init_46 rfl rfl ?_
    refine V.getR dX10_init_47 lkX10_28 rfl rfl h (fun x8 h => ?_)
    refine V.callI (d' := 1) (a := (nc M7)) (as := [vR x8]) (st := [vR (some (nc M7)), vR v0]) dX10_init_50 meX5_init rfl rfl mlX10_34 imX5_init rfl (by omega) (Nat.le_of_ble_eq_true rfl) rfl rfl h (fun v hv => lift_X5_init hv) (fun w9 h => ?_)
    refine V.putR dX10_init_53 lkX10_37 (Or.inr ⟨rfl, rfl⟩) rfl rfl h (fun M10 h => ?_)
    refine V.aload_n (n := 0) dX10_init_56 rfl rfl ?_
    refine V.new dX10_init_57 clsX3 cdX10_41 inX3 iiX3 rfl ?_
    refine V.dup dX10_init_60 rfl rfl ?_
    refine V.aload_n (n := 0) dX10_init_61 rfl rfl ?_
    refine V.getR dX10_init_62 lkX10_28 rfl rfl h (fun x11 h => ?_)
    refine V.callI (d' := 2) (a := (nc M10)) (as := [vR x11]) (st := [vR (some (nc M10)), vR v0]) dX10_init_65 meX3_init rfl rfl mlX10_43 imX3_init rfl (by omega) (Nat.le_of_ble_eq_true rfl) rfl rfl h (fun v hv => lift_X3_init hv) (fun w12 h => ?_)
    refine V.putR dX10_init_68 lkX10_44 (Or.inr ⟨rfl, rfl⟩) rfl rfl h (fun M13 h => ?_)
    refine V.aload_n (n := 0) dX10_init_71 rfl rfl ?_
    refine V.bipush (x := 20) dX10_init_72 (by decide) rfl ?_
    refine V.anew (k := 28) dX10_init_74 rfl cdX10_48 rfl (by decide) (by decide) rfl h (fun M14 h => ?_)
    refine V.putR dX10_init_77 lkX10_50 (Or.inr ⟨rfl, rfl⟩) rfl rfl h (fun M15 h => ?_)
    refine V.aload_n (n := 0) dX10_init_80 rfl rfl ?_
    refine V.iconst (x := 0) dX10_init_81 (by decide) rfl ?_
    refine V.putI dX10_init_82 lkX10_54 (Or.inl rfl) rfl rfl h (fun M16 h => ?_)
    refine V.aload_n (n := 0) dX10_init_85 rfl rfl ?_
    refine V.iconst (x := 0) dX10_init_86 (by decide) rfl ?_
    refine V.putI dX10_init_87 lkX10_58 (Or.inl rfl) rfl rfl h (fun M17 h => ?_)
    refine V.aload_n (n := 0) dX10_init_90 rfl rfl ?_
    refine V.iconst (x := 0) dX10_init_91 (by decide) rfl ?_
    refine V.putI dX10_init_92 lkX10_61 (Or.inl rfl) rfl rfl h (fun M18 h => ?_)
    exact V.vret dX10_init_95 rfl h
  exact hh
def L_X10_feed (v0 : Option Nat) (v1 : Int32) (v2 : Int32) (v3 : Int32) (v4 : Int32) (v5 : Int32) (M : Mem) : Option (Int32 × Mem) :=
  (fR M 10 0 v0).bind fun x1 =>
  (fI M 7 1 x1).bind fun x2 =>
  if (x2 + (20 : Int32)) ≤ (900 : Int32) then
  ((fR M 10 0 v0).bind fun x3 =>
  (ck M 7 x3).bind fun _ => (L_X7_put x3 v1 M).bind fun w4 =>
  (fR w4.2 10 0 v0).bind fun x5 =>
  (ck w4.2 7 x5).bind fun _ => (L_X7_put x5 v2 w4.2).bind fun w6 =>
  (fR w6.2 10 0 v0).bind fun x7 =>
  (ck w6.2 7 x7).bind fun _ => (L_X7_put x7 v3 w6.2).bind fun w8 =>
  (fR w8.2 10 0 v0).bind fun x9 =>
  (ck w8.2 7 x9).bind fun _ => (L_X7_put x9 v4 w8.2).bind fun w10 =>
  (fR w10.2 10 0 v0).bind fun x11 =>
  (ck w10.2 7 x11).bind fun _ => (L_X7_put x11 v5 w10.2).bind fun w12 =>
  (fR w12.2 10 0 v0).bind fun x13 =>
  (fI w12.2 7 1 x13).bind fun x14 =>
  some (x14, w12.2))
  else
  (some ((-1 : Int32), M))
set_option maxRecDepth 20000 in
set_option maxHeartbeats 4000000 in
theorem lift_X10_feed {G : Gt} {M M9 : Mem} {x9 : Int32} {v0 : Option Nat} {v1 : Int32} {v2 : Int32} {v3 : Int32} {v4 : Int32} {v5 : Int32} (h : L_X10_feed v0 v1 v2 v3 v4 v5 M = some (x9, M9)) : Mt G mX10_feed 1 [vR v0, vI v1, vI v2, vI v3, vI v4, vI v5] M (some (vI x9)) M9 := by
  unfold L_X10_feed at h
  refine Mt.of (by decide +kernel) (Nat.le_of_ble_eq_true rfl) ?_
  have hh : V G mX10_feed 1 M (some (vI x9)) M9 M 0 [(0, vR v0), (1, vI v1), (2, vI v2), (3, vI v3), (4, vI v4), (5, vI v5)] [] := by
    refine V.aload_n (n := 0) dX10_feed_0 rfl rfl ?_
    refine V.getR dX10_feed_1 lkX10_12 rfl rfl h (fun x1 h => ?_)
    refine V.getI dX10_feed_4 lkX10_64 rfl rfl h (fun x2 h => ?_)
    refine V.bipush (x := 20) dX10_feed_7 (by decide) rfl ?_
    refine V.iadd dX10_feed_9 rfl ?_
    refine V.sipush (x := 900) dX10_feed_10 (by decide) rfl ?_
    refine V.icmp_le (q := 18) dX10_feed_13 (by decide) rfl h (fun h => ?_) (fun h => ?_)
    · refine V.aload_n (n := 0) dX10_feed_18 rfl rfl ?_
      refine V.getR dX10_feed_19 lkX10_12 rfl rfl h (fun x3 h => ?_)
      refine V.iload_n (n := 1) dX10_feed_22 rfl rfl ?_
      refine V.callVv (d' := 0) (as := [vI v1]) (st := []) dX10_feed_23 meX7_put mlX10_67 imX7_put seX7_put clsX7 rfl (by omega) (Nat.le_of_ble_eq_true rfl) rfl rfl h (fun v hv => lift_X7_put hv) (fun w4 h => ?_)
      refine V.aload_n (n := 0) dX10_feed_26 rfl rfl ?_
      refine V.getR dX10_feed_27 lkX10_12 rfl rfl h (fun x5 h => ?_)
      refine V.iload_n (n := 2) dX10_feed_30 rfl rfl ?_
      refine V.callVv (d' := 0) (as := [vI v2]) (st := []) dX10_feed_31 meX7_put mlX10_67 imX7_put seX7_put clsX7 rfl (by omega) (Nat.le_of_ble_eq_true rfl) rfl rfl h (fun v hv => lift_X7_put hv) (fun w6 h => ?_)
      refine V.aload_n (n := 0) dX10_feed_34 rfl rfl ?_
      refine V.getR dX10_feed_35 lkX10_12 rfl rfl h (fun x7 h => ?_)
      refine V.iload_n (n := 3) dX10_feed_38 rfl rfl ?_
      refine V.callVv (d' := 0) (as := [vI v3]) (st := []) dX10_feed_39 meX7_put mlX10_67 imX7_put seX7_put clsX7 rfl (by omega) (Nat.le_of_ble_eq_true rfl) rfl rfl h (fun v hv => lift_X7_put hv) (fun w8 h => ?_)
      refine V.aload_n (n := 0) dX10_feed_42 rfl rfl ?_
      refine V.getR dX10_feed_43 lkX10_12 rfl rfl h (fun x9 h => ?_)
      refine V.iload (n := 4) dX10_feed_46 rfl rfl ?_
      refine V.callVv (d' := 0) (as := [vI v4]) (st := []) dX10_feed_48 meX7_put mlX10_67 imX7_put seX7_put clsX7 rfl (by omega) (Nat.le_of_ble_eq_true rfl) rfl rfl h (fun v hv => lift_X7_put hv) (fun w10 h => ?_)
      refine V.aload_n (n := 0) dX10_feed_51 rfl rfl ?_
      refine V.getR dX10_feed_52 lkX10_12 rfl rfl h (fun x11 h => ?_)
      refine V.iload (n := 5) dX10_feed_55 rfl rfl ?_
      refine V.callVv (d' := 0) (as := [vI v5]) (st := []) dX10_feed_57 meX7_put mlX10_67 imX7_put seX7_put clsX7 rfl (by omega) (Nat.le_of_ble_eq_true rfl) rfl rfl h (fun v hv => lift_X7_put hv) (fun w12 h => ?_)
      refine V.aload_n (n := 0) dX10_feed_60 rfl rfl ?_
      refine V.getR dX10_feed_61 lkX10_12 rfl rfl h (fun x13 h => ?_)
      refine V.getI dX10_feed_64 lkX10_64 rfl rfl h (fun x14 h => ?_)
      exact V.iret dX10_feed_67 rfl h
    · refine V.iconst (x := (-1)) dX10_feed_16 (by decide) rfl ?_
      exact V.iret dX10_feed_17 rfl h
  exact hh
def L_X10_end (v0 : Option Nat) (v1 : Int32) (M : Mem) : Option (Int32 × Mem) :=
  if v1 < 0 then
  (some ((-1 : Int32), M))
  else
  ((fR M 10 0 v0).bind fun x1 =>
  (fI M 7 1 x1).bind fun x2 =>
  if v1 ≤ x2 then
  ((fR M 10 0 v0).bind fun x3 =>
  (pI M 7 1 x3 v1).bind fun M4 =>
  some (v1, M4))
  else
  (some ((-1 : Int32), M)))
set_option maxRecDepth 20000 in
set_option maxHeartbeats 4000000 in
theorem lift_X10_end {G : Gt} {M M9 : Mem} {x9 : Int32} {v0 : Option Nat} {v1 : Int32} (h : L_X10_end v0 v1 M = some (x9, M9)) : Mt G mX10_end 0 [vR v0, vI v1] M (some (vI x9)) M9 := by
  unfold L_X10_end at h
  refine Mt.of (by decide +kernel) (Nat.le_of_ble_eq_true rfl) ?_
  have hh : V G mX10_end 0 M (some (vI x9)) M9 M 0 [(0, vR v0), (1, vI v1)] [] := by
    refine V.iload_n (n := 1) dX10_end_0 rfl rfl ?_
    refine V.if_lt (q := 15) dX10_end_1 (by decide) rfl h (fun h => ?_) (fun h => ?_)
    · refine V.iconst (x := (-1)) dX10_end_15 (by decide) rfl ?_
      exact V.iret dX10_end_16 rfl h
    · refine V.iload_n (n := 1) dX10_end_4 rfl rfl ?_
      refine V.aload_n (n := 0) dX10_end_5 rfl rfl ?_
      refine V.getR dX10_end_6 lkX10_12 rfl rfl h (fun x1 h => ?_)
      refine V.getI dX10_end_9 lkX10_64 rfl rfl h (fun x2 h => ?_)
      refine V.icmp_le (q := 17) dX10_end_12 (by decide) rfl h (fun h => ?_) (fun h => ?_)
      · refine V.aload_n (n := 0) dX10_end_17 rfl rfl ?_
        refine V.getR dX10_end_18 lkX10_12 rfl rfl h (fun x3 h => ?_)
        refine V.iload_n (n := 1) dX10_end_21 rfl rfl ?_
        refine V.putI dX10_end_22 lkX10_64 (Or.inl rfl) rfl rfl h (fun M4 h => ?_)
        refine V.iload_n (n := 1) dX10_end_25 rfl rfl ?_
        exact V.iret dX10_end_26 rfl h
      · refine V.iconst (x := (-1)) dX10_end_15 (by decide) rfl ?_
        exact V.iret dX10_end_16 rfl h
  exact hh
def L_X10_sheet (v0 : Option Nat) (v1 : Int32) (M : Mem) : Option (Int32 × Mem) :=
  (L_X10_yearIndex v1.toInt64 M).bind fun w1 =>
  if ¬ w1.1 = (-1 : Int32) then
  ((fR w1.2 10 1 v0).bind fun x2 =>
  (ck w1.2 4 x2).bind fun _ => (L_X4_read x2 w1.1 w1.2).bind fun w3 =>
  (fR w3.2 10 0 v0).bind fun x4 =>
  (pI w3.2 7 1 x4 (0 : Int32)).bind fun M5 =>
  if ¬ w3.1 = none then
  ((fR M5 10 2 v0).bind fun x6 =>
  (ck M5 1 x6).bind fun _ => (L_X1_change x6 w1.1 w3.1 M5).bind fun w7 =>
  (fI w7.2 6 2 w3.1).bind fun x8 =>
  some (x8, w7.2))
  else
  (some ((-1 : Int32), M5)))
  else
  (some ((-2 : Int32), w1.2))
set_option maxRecDepth 20000 in
set_option maxHeartbeats 4000000 in
theorem lift_X10_sheet {G : Gt} {M M9 : Mem} {x9 : Int32} {v0 : Option Nat} {v1 : Int32} (h : L_X10_sheet v0 v1 M = some (x9, M9)) : Mt G mX10_sheet 518 [vR v0, vI v1] M (some (vI x9)) M9 := by
  unfold L_X10_sheet at h
  refine Mt.of (by decide +kernel) (Nat.le_of_ble_eq_true rfl) ?_
  have hh : V G mX10_sheet 518 M (some (vI x9)) M9 M 0 [(0, vR v0), (1, vI v1)] [] := by
    refine V.iload_n (n := 1) dX10_sheet_0 rfl rfl ?_
    refine V.i2l dX10_sheet_1 rfl ?_
    refine V.callSi (d' := 0) (as := [vL v1.toInt64]) (st := []) dX10_sheet_2 meX10_yearIndex mlX10_71 smX10_yearIndex rfl (by omega) (Nat.le_of_ble_eq_true rfl) rfl rfl h (fun v hv => lift_X10_yearIndex hv) (fun w1 h => ?_)
    refine V.istore_n dX10_sheet_5 rfl (by decide) rfl rfl ?_
    refine V.iload_n (n := 0) dX10_sheet_6 rfl rfl ?_
    refine V.iconst (x := (-1)) dX10_sheet_7 (by decide) rfl ?_
    refine V.icmp_ne (q := 14) dX10_sheet_8 (by decide) rfl h (fun h => ?_) (fun h => ?_)
    · refine V.aload_n (n := 1) dX10_sheet_14 rfl rfl ?_
      refine V.getR dX10_sheet_15 lkX10_21 rfl rfl h (fun x2 h => ?_)
      refine V.iload_n (n := 0) dX10_sheet_18 rfl rfl ?_
      refine V.callVr (d' := 517) (as := [vI w1.1]) (st := []) dX10_sheet_19 meX4_read mlX10_75 imX4_read seX4_read clsX4 rfl (by omega) (Nat.le_of_ble_eq_true rfl) rfl rfl h (fun v hv => lift_X4_read hv) (fun w3 h => ?_)
      refine V.astore_n dX10_sheet_22 rfl (by decide) rfl rfl ?_
      refine V.aload_n (n := 2) dX10_sheet_23 rfl rfl ?_
      refine V.getR dX10_sheet_24 lkX10_12 rfl rfl h (fun x4 h => ?_)
      refine V.iconst (x := 0) dX10_sheet_27 (by decide) rfl ?_
      refine V.putI dX10_sheet_28 lkX10_64 (Or.inl rfl) rfl rfl h (fun M5 h => ?_)
      refine V.aload_n (n := 0) dX10_sheet_31 rfl rfl ?_
      refine V.ifnonnull (q := 37) dX10_sheet_32 (by decide) rfl h (fun h => ?_) (fun h => ?_)
      · refine V.aload_n (n := 2) dX10_sheet_37 rfl rfl ?_
        refine V.getR dX10_sheet_38 lkX10_28 rfl rfl h (fun x6 h => ?_)
        refine V.iload_n (n := 1) dX10_sheet_41 rfl rfl ?_
        refine V.aload_n (n := 0) dX10_sheet_42 rfl rfl ?_
        refine V.callVv (d' := 0) (as := [vI w1.1, vR w3.1]) (st := []) dX10_sheet_43 meX1_change mlX10_79 imX1_change seX1_change clsX1 rfl (by omega) (Nat.le_of_ble_eq_true rfl) rfl rfl h (fun v hv => lift_X1_change hv) (fun w7 h => ?_)
        refine V.aload_n (n := 0) dX10_sheet_46 rfl rfl ?_
        refine V.getI dX10_sheet_47 lkX10_83 rfl rfl h (fun x8 h => ?_)
        exact V.iret dX10_sheet_50 rfl h
      · refine V.iconst (x := (-1)) dX10_sheet_35 (by decide) rfl ?_
        exact V.iret dX10_sheet_36 rfl h
    · refine V.bipush (x := (-2)) dX10_sheet_11 (by decide) rfl ?_
      exact V.iret dX10_sheet_13 rfl h
  exact hh
def L_X10_fault (v0 : Option Nat) (v1 : Int32) (M : Mem) : Option (Int32 × Mem) :=
  if v1 = 0 then
  ((fR M 10 1 v0).bind fun x1 =>
  (fI M 4 6 x1).bind fun x2 =>
  some (x2, M))
  else
  if v1 = 1 then
  ((fR M 10 1 v0).bind fun x3 =>
  (fI M 4 7 x3).bind fun x4 =>
  some (x4, M))
  else
  (some ((-1 : Int32), M))
set_option maxRecDepth 20000 in
set_option maxHeartbeats 4000000 in
theorem lift_X10_fault {G : Gt} {M M9 : Mem} {x9 : Int32} {v0 : Option Nat} {v1 : Int32} (h : L_X10_fault v0 v1 M = some (x9, M9)) : Mt G mX10_fault 0 [vR v0, vI v1] M (some (vI x9)) M9 := by
  unfold L_X10_fault at h
  refine Mt.of (by decide +kernel) (Nat.le_of_ble_eq_true rfl) ?_
  have hh : V G mX10_fault 0 M (some (vI x9)) M9 M 0 [(0, vR v0), (1, vI v1)] [] := by
    refine V.iload_n (n := 1) dX10_fault_0 rfl rfl ?_
    refine V.sw h (fun hx h => ?_) (fun n0 h => ?_)
    · refine V.swt hx ?_
      refine V.lookup (q := 28) (x := 0) (off := 27) dX10_fault_1 (by decide) (by decide) (by decide) ?_
      refine V.aload_n (n := 0) dX10_fault_28 rfl rfl ?_
      refine V.getR dX10_fault_29 lkX10_21 rfl rfl h (fun x1 h => ?_)
      refine V.getI dX10_fault_32 lkX10_88 rfl rfl h (fun x2 h => ?_)
      exact V.iret dX10_fault_35 rfl h
    refine V.sw h (fun hx h => ?_) (fun n1 h => ?_)
    · refine V.swt hx ?_
      refine V.lookup (q := 36) (x := 1) (off := 35) dX10_fault_1 (by decide) (by decide) (by decide) ?_
      refine V.aload_n (n := 0) dX10_fault_36 rfl rfl ?_
      refine V.getR dX10_fault_37 lkX10_21 rfl rfl h (fun x3 h => ?_)
      refine V.getI dX10_fault_40 lkX10_91 rfl rfl h (fun x4 h => ?_)
      exact V.iret dX10_fault_43 rfl h
    have e0 := sw_ne n0
    have e1 := sw_ne n1
    have t0 : (0 : Int32).toInt = 0 := by decide
    have t1 : (1 : Int32).toInt = 1 := by decide
    rw [t0] at e0
    rw [t1] at e1
    refine V.lookup (q := 44) (off := 43) dX10_fault_1 (by decide) (by simp [Op.lookupswitch.offset, Ne.symm e0, e0, Ne.symm e1, e1]) (by decide) ?_
    refine V.iconst (x := (-1)) dX10_fault_44 (by decide) rfl ?_
    exact V.iret dX10_fault_45 rfl h
  exact hh
def L_X10_forget (v0 : Option Nat) (v1 : Int32) (M : Mem) : Option (Int32 × Mem) :=
  (L_X10_yearIndex v1.toInt64 M).bind fun w1 =>
  if w1.1 = (-1 : Int32) then
  ((bz (0 : Int32)).bind fun _ => some ((0 : Int32), w1.2))
  else
  ((fR w1.2 10 2 v0).bind fun x2 =>
  (fR w1.2 1 0 x2).bind fun x3 =>
  (aR w1.2 25 x3 w1.1).bind fun x4 =>
  if ¬ x4 = none then
  ((fR w1.2 10 2 v0).bind fun x5 =>
  (ck w1.2 1 x5).bind fun _ => (L_X1_change x5 w1.1 (none : Option Nat) w1.2).bind fun w6 =>
  (bz (1 : Int32)).bind fun _ => some ((1 : Int32), w6.2))
  else
  ((bz (0 : Int32)).bind fun _ => some ((0 : Int32), w1.2)))
set_option maxRecDepth 20000 in
set_option maxHeartbeats 4000000 in
theorem lift_X10_forget {G : Gt} {M M9 : Mem} {x9 : Int32} {v0 : Option Nat} {v1 : Int32} (h : L_X10_forget v0 v1 M = some (x9, M9)) : Mt G mX10_forget 1 [vR v0, vI v1] M (some (vI x9)) M9 := by
  unfold L_X10_forget at h
  refine Mt.of (by decide +kernel) (Nat.le_of_ble_eq_true rfl) ?_
  have hh : V G mX10_forget 1 M (some (vI x9)) M9 M 0 [(0, vR v0), (1, vI v1)] [] := by
    refine V.iload_n (n := 1) dX10_forget_0 rfl rfl ?_
    refine V.i2l dX10_forget_1 rfl ?_
    refine V.callSi (d' := 0) (as := [vL v1.toInt64]) (st := []) dX10_forget_2 meX10_yearIndex mlX10_71 smX10_yearIndex rfl (by omega) (Nat.le_of_ble_eq_true rfl) rfl rfl h (fun v hv => lift_X10_yearIndex hv) (fun w1 h => ?_)
    refine V.istore_n dX10_forget_5 rfl (by decide) rfl rfl ?_
    refine V.iload_n (n := 0) dX10_forget_6 rfl rfl ?_
    refine V.iconst (x := (-1)) dX10_forget_7 (by decide) rfl ?_
    refine V.icmp_eq (q := 23) dX10_forget_8 (by decide) rfl h (fun h => ?_) (fun h => ?_)
    · refine V.iconst (x := 0) dX10_forget_23 (by decide) rfl ?_
      exact V.zret dX10_forget_24 rfl h
    · refine V.aload_n (n := 1) dX10_forget_11 rfl rfl ?_
      refine V.getR dX10_forget_12 lkX10_28 rfl rfl h (fun x2 h => ?_)
      refine V.getR dX10_forget_15 lkX10_94 rfl rfl h (fun x3 h => ?_)
      refine V.iload_n (n := 0) dX10_forget_18 rfl rfl ?_
      refine V.aald (k := 25) dX10_forget_19 (by decide) (by decide) rfl h (fun x4 h => ?_)
      refine V.ifnonnull (q := 25) dX10_forget_20 (by decide) rfl h (fun h => ?_) (fun h => ?_)
      · refine V.aload_n (n := 1) dX10_forget_25 rfl rfl ?_
        refine V.getR dX10_forget_26 lkX10_28 rfl rfl h (fun x5 h => ?_)
        refine V.iload_n (n := 0) dX10_forget_29 rfl rfl ?_
        refine V.null dX10_forget_30 rfl ?_
        refine V.callVv (d' := 0) (as := [vI w1.1, vR (none : Option Nat)]) (st := []) dX10_forget_31 meX1_change mlX10_79 imX1_change seX1_change clsX1 rfl (by omega) (Nat.le_of_ble_eq_true rfl) rfl rfl h (fun v hv => lift_X1_change hv) (fun w6 h => ?_)
        refine V.iconst (x := 1) dX10_forget_34 (by decide) rfl ?_
        exact V.zret dX10_forget_35 rfl h
      · refine V.iconst (x := 0) dX10_forget_23 (by decide) rfl ?_
        exact V.zret dX10_forget_24 rfl h
  exact hh
